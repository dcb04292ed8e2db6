theorem d_W_law_0 : decode code 0 = .ok (.new 8, 3) := by decide +kernel
theorem d_W_law_3 : decode code 3 = .ok (.dup, 1) := by decide +kernel
theorem d_W_law_4 : decode code 4 = .ok (.invokespecial 81, 3) := by decide +kernel
theorem d_W_law_7 : decode code 7 = .ok (.astore_n 1, 1) := by decide +kernel
theorem d_W_law_8 : decode code 8 = .ok (.new 82, 3) := by decide +kernel
theorem d_W_law_11 : decode code 11 = .ok (.dup, 1) := by decide +kernel
theorem d_W_law_12 : decode code 12 = .ok (.invokespecial 84, 3) := by decide +kernel
theorem d_W_law_15 : decode code 15 = .ok (.astore_n 2, 1) := by decide +kernel
theorem d_W_law_16 : decode code 16 = .ok (.iconst 1, 1) := by decide +kernel
theorem d_W_law_17 : decode code 17 = .ok (.newarray .long, 2) := by decide +kernel
theorem d_W_law_19 : decode code 19 = .ok (.astore_n 3, 1) := by decide +kernel
theorem d_W_law_20 : decode code 20 = .ok (.iconst 0, 1) := by decide +kernel
theorem d_W_law_21 : decode code 21 = .ok (.istore 4, 2) := by decide +kernel
theorem d_W_law_23 : decode code 23 = .ok (.iload 4, 2) := by decide +kernel
theorem d_W_law_25 : decode code 25 = .ok (.aload_n 0, 1) := by decide +kernel
theorem d_W_law_26 : decode code 26 = .ok (.arraylength, 1) := by decide +kernel
theorem d_W_law_27 : decode code 27 = .ok (.bipush 7, 2) := by decide +kernel
theorem d_W_law_29 : decode code 29 = .ok (.isub, 1) := by decide +kernel
theorem d_W_law_30 : decode code 30 = .ok (.if_icmp .gt 1568, 3) := by decide +kernel
theorem d_W_law_33 : decode code 33 = .ok (.aload_n 0, 1) := by decide +kernel
theorem d_W_law_34 : decode code 34 = .ok (.iload 4, 2) := by decide +kernel
theorem d_W_law_36 : decode code 36 = .ok (.iaload, 1) := by decide +kernel
theorem d_W_law_37 : decode code 37 = .ok (.bipush 31, 2) := by decide +kernel
theorem d_W_law_39 : decode code 39 = .ok (.iand, 1) := by decide +kernel
theorem d_W_law_40 : decode code 40 = .ok (.tableswitch 1552 0 19 #[96, 176, 314, 406, 510, 590, 670, 750, 830, 910, 954, 1022, 1047, 1102, 1169, 1249, 1305, 1373, 1441, 1496], 96) := by decide +kernel
theorem d_W_law_136 : decode code 136 = .ok (.aload_n 1, 1) := by decide +kernel
theorem d_W_law_137 : decode code 137 = .ok (.aload_n 0, 1) := by decide +kernel
theorem d_W_law_138 : decode code 138 = .ok (.iload 4, 2) := by decide +kernel
theorem d_W_law_140 : decode code 140 = .ok (.iconst 1, 1) := by decide +kernel
theorem d_W_law_141 : decode code 141 = .ok (.iadd, 1) := by decide +kernel
theorem d_W_law_142 : decode code 142 = .ok (.iaload, 1) := by decide +kernel
theorem d_W_law_143 : decode code 143 = .ok (.aload_n 0, 1) := by decide +kernel
theorem d_W_law_144 : decode code 144 = .ok (.iload 4, 2) := by decide +kernel
theorem d_W_law_146 : decode code 146 = .ok (.iconst 2, 1) := by decide +kernel
theorem d_W_law_147 : decode code 147 = .ok (.iadd, 1) := by decide +kernel
theorem d_W_law_148 : decode code 148 = .ok (.iaload, 1) := by decide +kernel
theorem d_W_law_149 : decode code 149 = .ok (.aload_n 0, 1) := by decide +kernel
theorem d_W_law_150 : decode code 150 = .ok (.iload 4, 2) := by decide +kernel
theorem d_W_law_152 : decode code 152 = .ok (.iconst 3, 1) := by decide +kernel
theorem d_W_law_153 : decode code 153 = .ok (.iadd, 1) := by decide +kernel
theorem d_W_law_154 : decode code 154 = .ok (.iaload, 1) := by decide +kernel
theorem d_W_law_155 : decode code 155 = .ok (.aload_n 3, 1) := by decide +kernel
theorem d_W_law_156 : decode code 156 = .ok (.invokestatic 85, 3) := by decide +kernel
theorem d_W_law_159 : decode code 159 = .ok (.istore 5, 2) := by decide +kernel
theorem d_W_law_161 : decode code 161 = .ok (.aload_n 2, 1) := by decide +kernel
theorem d_W_law_162 : decode code 162 = .ok (.aload_n 0, 1) := by decide +kernel
theorem d_W_law_163 : decode code 163 = .ok (.iload 4, 2) := by decide +kernel
theorem d_W_law_165 : decode code 165 = .ok (.iconst 1, 1) := by decide +kernel
theorem d_W_law_166 : decode code 166 = .ok (.iadd, 1) := by decide +kernel
theorem d_W_law_167 : decode code 167 = .ok (.iaload, 1) := by decide +kernel
theorem d_W_law_168 : decode code 168 = .ok (.aload_n 0, 1) := by decide +kernel
theorem d_W_law_169 : decode code 169 = .ok (.iload 4, 2) := by decide +kernel
theorem d_W_law_171 : decode code 171 = .ok (.iconst 2, 1) := by decide +kernel
theorem d_W_law_172 : decode code 172 = .ok (.iadd, 1) := by decide +kernel
theorem d_W_law_173 : decode code 173 = .ok (.iaload, 1) := by decide +kernel
theorem d_W_law_174 : decode code 174 = .ok (.aload_n 0, 1) := by decide +kernel
theorem d_W_law_175 : decode code 175 = .ok (.iload 4, 2) := by decide +kernel
theorem d_W_law_177 : decode code 177 = .ok (.iconst 3, 1) := by decide +kernel
theorem d_W_law_178 : decode code 178 = .ok (.iadd, 1) := by decide +kernel
theorem d_W_law_179 : decode code 179 = .ok (.iaload, 1) := by decide +kernel
theorem d_W_law_180 : decode code 180 = .ok (.invokevirtual 90, 3) := by decide +kernel
theorem d_W_law_183 : decode code 183 = .ok (.istore 6, 2) := by decide +kernel
theorem d_W_law_185 : decode code 185 = .ok (.aload_n 2, 1) := by decide +kernel
theorem d_W_law_186 : decode code 186 = .ok (.invokevirtual 91, 3) := by decide +kernel
theorem d_W_law_189 : decode code 189 = .ok (.iload 5, 2) := by decide +kernel
theorem d_W_law_191 : decode code 191 = .ok (.if_icmp .eq 5, 3) := by decide +kernel
theorem d_W_law_194 : decode code 194 = .ok (.iconst 0, 1) := by decide +kernel
theorem d_W_law_195 : decode code 195 = .ok (.ireturn, 1) := by decide +kernel
theorem d_W_law_196 : decode code 196 = .ok (.iload 5, 2) := by decide +kernel
theorem d_W_law_198 : decode code 198 = .ok (.ifCond .ne 15, 3) := by decide +kernel
theorem d_W_law_201 : decode code 201 = .ok (.aload_n 3, 1) := by decide +kernel
theorem d_W_law_202 : decode code 202 = .ok (.iconst 0, 1) := by decide +kernel
theorem d_W_law_203 : decode code 203 = .ok (.laload, 1) := by decide +kernel
theorem d_W_law_204 : decode code 204 = .ok (.iload 6, 2) := by decide +kernel
theorem d_W_law_206 : decode code 206 = .ok (.i2l, 1) := by decide +kernel
theorem d_W_law_207 : decode code 207 = .ok (.lcmp, 1) := by decide +kernel
theorem d_W_law_208 : decode code 208 = .ok (.ifCond .eq 5, 3) := by decide +kernel
theorem d_W_law_211 : decode code 211 = .ok (.iconst 0, 1) := by decide +kernel
theorem d_W_law_212 : decode code 212 = .ok (.ireturn, 1) := by decide +kernel
theorem d_W_law_213 : decode code 213 = .ok (.goto 1379, 3) := by decide +kernel
theorem d_W_law_216 : decode code 216 = .ok (.aload_n 1, 1) := by decide +kernel
theorem d_W_law_217 : decode code 217 = .ok (.aload_n 0, 1) := by decide +kernel
theorem d_W_law_218 : decode code 218 = .ok (.iload 4, 2) := by decide +kernel
theorem d_W_law_220 : decode code 220 = .ok (.iconst 1, 1) := by decide +kernel
theorem d_W_law_221 : decode code 221 = .ok (.iadd, 1) := by decide +kernel
theorem d_W_law_222 : decode code 222 = .ok (.iaload, 1) := by decide +kernel
theorem d_W_law_223 : decode code 223 = .ok (.aload_n 0, 1) := by decide +kernel
theorem d_W_law_224 : decode code 224 = .ok (.iload 4, 2) := by decide +kernel
theorem d_W_law_226 : decode code 226 = .ok (.iconst 2, 1) := by decide +kernel
theorem d_W_law_227 : decode code 227 = .ok (.iadd, 1) := by decide +kernel
theorem d_W_law_228 : decode code 228 = .ok (.iaload, 1) := by decide +kernel
theorem d_W_law_229 : decode code 229 = .ok (.aload_n 0, 1) := by decide +kernel
theorem d_W_law_230 : decode code 230 = .ok (.iload 4, 2) := by decide +kernel
theorem d_W_law_232 : decode code 232 = .ok (.iconst 3, 1) := by decide +kernel
theorem d_W_law_233 : decode code 233 = .ok (.iadd, 1) := by decide +kernel
theorem d_W_law_234 : decode code 234 = .ok (.iaload, 1) := by decide +kernel
theorem d_W_law_235 : decode code 235 = .ok (.aload_n 0, 1) := by decide +kernel
theorem d_W_law_236 : decode code 236 = .ok (.iload 4, 2) := by decide +kernel
theorem d_W_law_238 : decode code 238 = .ok (.iconst 4, 1) := by decide +kernel
theorem d_W_law_239 : decode code 239 = .ok (.iadd, 1) := by decide +kernel
theorem d_W_law_240 : decode code 240 = .ok (.iaload, 1) := by decide +kernel
theorem d_W_law_241 : decode code 241 = .ok (.aload_n 0, 1) := by decide +kernel
theorem d_W_law_242 : decode code 242 = .ok (.iload 4, 2) := by decide +kernel
theorem d_W_law_244 : decode code 244 = .ok (.iconst 5, 1) := by decide +kernel
theorem d_W_law_245 : decode code 245 = .ok (.iadd, 1) := by decide +kernel
theorem d_W_law_246 : decode code 246 = .ok (.iaload, 1) := by decide +kernel
theorem d_W_law_247 : decode code 247 = .ok (.i2l, 1) := by decide +kernel
theorem d_W_law_248 : decode code 248 = .ok (.bipush 32, 2) := by decide +kernel
theorem d_W_law_250 : decode code 250 = .ok (.lshl, 1) := by decide +kernel
theorem d_W_law_251 : decode code 251 = .ok (.aload_n 0, 1) := by decide +kernel
theorem d_W_law_252 : decode code 252 = .ok (.iload 4, 2) := by decide +kernel
theorem d_W_law_254 : decode code 254 = .ok (.bipush 6, 2) := by decide +kernel
theorem d_W_law_256 : decode code 256 = .ok (.iadd, 1) := by decide +kernel
theorem d_W_law_257 : decode code 257 = .ok (.iaload, 1) := by decide +kernel
theorem d_W_law_258 : decode code 258 = .ok (.i2l, 1) := by decide +kernel
theorem d_W_law_259 : decode code 259 = .ok (.ldc2_w 94, 3) := by decide +kernel
theorem d_W_law_262 : decode code 262 = .ok (.land, 1) := by decide +kernel
theorem d_W_law_263 : decode code 263 = .ok (.lor, 1) := by decide +kernel
theorem d_W_law_264 : decode code 264 = .ok (.aload_n 3, 1) := by decide +kernel
theorem d_W_law_265 : decode code 265 = .ok (.invokestatic 96, 3) := by decide +kernel
theorem d_W_law_268 : decode code 268 = .ok (.istore 5, 2) := by decide +kernel
theorem d_W_law_270 : decode code 270 = .ok (.aload_n 2, 1) := by decide +kernel
theorem d_W_law_271 : decode code 271 = .ok (.aload_n 0, 1) := by decide +kernel
theorem d_W_law_272 : decode code 272 = .ok (.iload 4, 2) := by decide +kernel
theorem d_W_law_274 : decode code 274 = .ok (.iconst 1, 1) := by decide +kernel
theorem d_W_law_275 : decode code 275 = .ok (.iadd, 1) := by decide +kernel
theorem d_W_law_276 : decode code 276 = .ok (.iaload, 1) := by decide +kernel
theorem d_W_law_277 : decode code 277 = .ok (.aload_n 0, 1) := by decide +kernel
theorem d_W_law_278 : decode code 278 = .ok (.iload 4, 2) := by decide +kernel
theorem d_W_law_280 : decode code 280 = .ok (.iconst 2, 1) := by decide +kernel
theorem d_W_law_281 : decode code 281 = .ok (.iadd, 1) := by decide +kernel
theorem d_W_law_282 : decode code 282 = .ok (.iaload, 1) := by decide +kernel
theorem d_W_law_283 : decode code 283 = .ok (.aload_n 0, 1) := by decide +kernel
theorem d_W_law_284 : decode code 284 = .ok (.iload 4, 2) := by decide +kernel
theorem d_W_law_286 : decode code 286 = .ok (.iconst 3, 1) := by decide +kernel
theorem d_W_law_287 : decode code 287 = .ok (.iadd, 1) := by decide +kernel
theorem d_W_law_288 : decode code 288 = .ok (.iaload, 1) := by decide +kernel
theorem d_W_law_289 : decode code 289 = .ok (.aload_n 0, 1) := by decide +kernel
theorem d_W_law_290 : decode code 290 = .ok (.iload 4, 2) := by decide +kernel
theorem d_W_law_292 : decode code 292 = .ok (.iconst 4, 1) := by decide +kernel
theorem d_W_law_293 : decode code 293 = .ok (.iadd, 1) := by decide +kernel
theorem d_W_law_294 : decode code 294 = .ok (.iaload, 1) := by decide +kernel
theorem d_W_law_295 : decode code 295 = .ok (.aload_n 0, 1) := by decide +kernel
theorem d_W_law_296 : decode code 296 = .ok (.iload 4, 2) := by decide +kernel
theorem d_W_law_298 : decode code 298 = .ok (.iconst 5, 1) := by decide +kernel
theorem d_W_law_299 : decode code 299 = .ok (.iadd, 1) := by decide +kernel
theorem d_W_law_300 : decode code 300 = .ok (.iaload, 1) := by decide +kernel
theorem d_W_law_301 : decode code 301 = .ok (.i2l, 1) := by decide +kernel
theorem d_W_law_302 : decode code 302 = .ok (.bipush 32, 2) := by decide +kernel
theorem d_W_law_304 : decode code 304 = .ok (.lshl, 1) := by decide +kernel
theorem d_W_law_305 : decode code 305 = .ok (.aload_n 0, 1) := by decide +kernel
theorem d_W_law_306 : decode code 306 = .ok (.iload 4, 2) := by decide +kernel
theorem d_W_law_308 : decode code 308 = .ok (.bipush 6, 2) := by decide +kernel
theorem d_W_law_310 : decode code 310 = .ok (.iadd, 1) := by decide +kernel
theorem d_W_law_311 : decode code 311 = .ok (.iaload, 1) := by decide +kernel
theorem d_W_law_312 : decode code 312 = .ok (.i2l, 1) := by decide +kernel
theorem d_W_law_313 : decode code 313 = .ok (.ldc2_w 94, 3) := by decide +kernel
theorem d_W_law_316 : decode code 316 = .ok (.land, 1) := by decide +kernel
theorem d_W_law_317 : decode code 317 = .ok (.lor, 1) := by decide +kernel
theorem d_W_law_318 : decode code 318 = .ok (.invokevirtual 99, 3) := by decide +kernel
theorem d_W_law_321 : decode code 321 = .ok (.istore 6, 2) := by decide +kernel
theorem d_W_law_323 : decode code 323 = .ok (.aload_n 2, 1) := by decide +kernel
theorem d_W_law_324 : decode code 324 = .ok (.invokevirtual 91, 3) := by decide +kernel
theorem d_W_law_327 : decode code 327 = .ok (.iload 5, 2) := by decide +kernel
theorem d_W_law_329 : decode code 329 = .ok (.if_icmp .eq 5, 3) := by decide +kernel
theorem d_W_law_332 : decode code 332 = .ok (.iconst 0, 1) := by decide +kernel
theorem d_W_law_333 : decode code 333 = .ok (.ireturn, 1) := by decide +kernel
theorem d_W_law_334 : decode code 334 = .ok (.iload 5, 2) := by decide +kernel
theorem d_W_law_336 : decode code 336 = .ok (.ifCond .ne 15, 3) := by decide +kernel
theorem d_W_law_339 : decode code 339 = .ok (.aload_n 3, 1) := by decide +kernel
theorem d_W_law_340 : decode code 340 = .ok (.iconst 0, 1) := by decide +kernel
theorem d_W_law_341 : decode code 341 = .ok (.laload, 1) := by decide +kernel
theorem d_W_law_342 : decode code 342 = .ok (.iload 6, 2) := by decide +kernel
theorem d_W_law_344 : decode code 344 = .ok (.i2l, 1) := by decide +kernel
theorem d_W_law_345 : decode code 345 = .ok (.lcmp, 1) := by decide +kernel
theorem d_W_law_346 : decode code 346 = .ok (.ifCond .eq 5, 3) := by decide +kernel
theorem d_W_law_349 : decode code 349 = .ok (.iconst 0, 1) := by decide +kernel
theorem d_W_law_350 : decode code 350 = .ok (.ireturn, 1) := by decide +kernel
theorem d_W_law_351 : decode code 351 = .ok (.goto 1241, 3) := by decide +kernel
theorem d_W_law_354 : decode code 354 = .ok (.aload_n 1, 1) := by decide +kernel
theorem d_W_law_355 : decode code 355 = .ok (.aload_n 0, 1) := by decide +kernel
theorem d_W_law_356 : decode code 356 = .ok (.iload 4, 2) := by decide +kernel
theorem d_W_law_358 : decode code 358 = .ok (.iconst 1, 1) := by decide +kernel
theorem d_W_law_359 : decode code 359 = .ok (.iadd, 1) := by decide +kernel
theorem d_W_law_360 : decode code 360 = .ok (.iaload, 1) := by decide +kernel
theorem d_W_law_361 : decode code 361 = .ok (.aload_n 0, 1) := by decide +kernel
theorem d_W_law_362 : decode code 362 = .ok (.iload 4, 2) := by decide +kernel
theorem d_W_law_364 : decode code 364 = .ok (.iconst 2, 1) := by decide +kernel
theorem d_W_law_365 : decode code 365 = .ok (.iadd, 1) := by decide +kernel
theorem d_W_law_366 : decode code 366 = .ok (.iaload, 1) := by decide +kernel
theorem d_W_law_367 : decode code 367 = .ok (.aload_n 0, 1) := by decide +kernel
theorem d_W_law_368 : decode code 368 = .ok (.iload 4, 2) := by decide +kernel
theorem d_W_law_370 : decode code 370 = .ok (.iconst 3, 1) := by decide +kernel
theorem d_W_law_371 : decode code 371 = .ok (.iadd, 1) := by decide +kernel
theorem d_W_law_372 : decode code 372 = .ok (.iaload, 1) := by decide +kernel
theorem d_W_law_373 : decode code 373 = .ok (.aload_n 0, 1) := by decide +kernel
theorem d_W_law_374 : decode code 374 = .ok (.iload 4, 2) := by decide +kernel
theorem d_W_law_376 : decode code 376 = .ok (.iconst 4, 1) := by decide +kernel
theorem d_W_law_377 : decode code 377 = .ok (.iadd, 1) := by decide +kernel
theorem d_W_law_378 : decode code 378 = .ok (.iaload, 1) := by decide +kernel
theorem d_W_law_379 : decode code 379 = .ok (.aload_n 3, 1) := by decide +kernel
theorem d_W_law_380 : decode code 380 = .ok (.invokestatic 100, 3) := by decide +kernel
theorem d_W_law_383 : decode code 383 = .ok (.istore 5, 2) := by decide +kernel
theorem d_W_law_385 : decode code 385 = .ok (.aload_n 2, 1) := by decide +kernel
theorem d_W_law_386 : decode code 386 = .ok (.aload_n 0, 1) := by decide +kernel
theorem d_W_law_387 : decode code 387 = .ok (.iload 4, 2) := by decide +kernel
theorem d_W_law_389 : decode code 389 = .ok (.iconst 1, 1) := by decide +kernel
theorem d_W_law_390 : decode code 390 = .ok (.iadd, 1) := by decide +kernel
theorem d_W_law_391 : decode code 391 = .ok (.iaload, 1) := by decide +kernel
theorem d_W_law_392 : decode code 392 = .ok (.aload_n 0, 1) := by decide +kernel
theorem d_W_law_393 : decode code 393 = .ok (.iload 4, 2) := by decide +kernel
theorem d_W_law_395 : decode code 395 = .ok (.iconst 2, 1) := by decide +kernel
theorem d_W_law_396 : decode code 396 = .ok (.iadd, 1) := by decide +kernel
theorem d_W_law_397 : decode code 397 = .ok (.iaload, 1) := by decide +kernel
theorem d_W_law_398 : decode code 398 = .ok (.aload_n 0, 1) := by decide +kernel
theorem d_W_law_399 : decode code 399 = .ok (.iload 4, 2) := by decide +kernel
theorem d_W_law_401 : decode code 401 = .ok (.iconst 3, 1) := by decide +kernel
theorem d_W_law_402 : decode code 402 = .ok (.iadd, 1) := by decide +kernel
theorem d_W_law_403 : decode code 403 = .ok (.iaload, 1) := by decide +kernel
theorem d_W_law_404 : decode code 404 = .ok (.aload_n 0, 1) := by decide +kernel
theorem d_W_law_405 : decode code 405 = .ok (.iload 4, 2) := by decide +kernel
theorem d_W_law_407 : decode code 407 = .ok (.iconst 4, 1) := by decide +kernel
theorem d_W_law_408 : decode code 408 = .ok (.iadd, 1) := by decide +kernel
theorem d_W_law_409 : decode code 409 = .ok (.iaload, 1) := by decide +kernel
theorem d_W_law_410 : decode code 410 = .ok (.invokevirtual 103, 3) := by decide +kernel
theorem d_W_law_413 : decode code 413 = .ok (.istore 6, 2) := by decide +kernel
theorem d_W_law_415 : decode code 415 = .ok (.aload_n 2, 1) := by decide +kernel
theorem d_W_law_416 : decode code 416 = .ok (.invokevirtual 91, 3) := by decide +kernel
theorem d_W_law_419 : decode code 419 = .ok (.iload 5, 2) := by decide +kernel
theorem d_W_law_421 : decode code 421 = .ok (.if_icmp .eq 5, 3) := by decide +kernel
theorem d_W_law_424 : decode code 424 = .ok (.iconst 0, 1) := by decide +kernel
theorem d_W_law_425 : decode code 425 = .ok (.ireturn, 1) := by decide +kernel
theorem d_W_law_426 : decode code 426 = .ok (.iload 5, 2) := by decide +kernel
theorem d_W_law_428 : decode code 428 = .ok (.ifCond .ne 15, 3) := by decide +kernel
theorem d_W_law_431 : decode code 431 = .ok (.aload_n 3, 1) := by decide +kernel
theorem d_W_law_432 : decode code 432 = .ok (.iconst 0, 1) := by decide +kernel
theorem d_W_law_433 : decode code 433 = .ok (.laload, 1) := by decide +kernel
theorem d_W_law_434 : decode code 434 = .ok (.iload 6, 2) := by decide +kernel
theorem d_W_law_436 : decode code 436 = .ok (.i2l, 1) := by decide +kernel
theorem d_W_law_437 : decode code 437 = .ok (.lcmp, 1) := by decide +kernel
theorem d_W_law_438 : decode code 438 = .ok (.ifCond .eq 5, 3) := by decide +kernel
theorem d_W_law_441 : decode code 441 = .ok (.iconst 0, 1) := by decide +kernel
theorem d_W_law_442 : decode code 442 = .ok (.ireturn, 1) := by decide +kernel
theorem d_W_law_443 : decode code 443 = .ok (.goto 1149, 3) := by decide +kernel
theorem d_W_law_446 : decode code 446 = .ok (.aload_n 1, 1) := by decide +kernel
theorem d_W_law_447 : decode code 447 = .ok (.aload_n 0, 1) := by decide +kernel
theorem d_W_law_448 : decode code 448 = .ok (.iload 4, 2) := by decide +kernel
theorem d_W_law_450 : decode code 450 = .ok (.iconst 1, 1) := by decide +kernel
theorem d_W_law_451 : decode code 451 = .ok (.iadd, 1) := by decide +kernel
theorem d_W_law_452 : decode code 452 = .ok (.iaload, 1) := by decide +kernel
theorem d_W_law_453 : decode code 453 = .ok (.aload_n 0, 1) := by decide +kernel
theorem d_W_law_454 : decode code 454 = .ok (.iload 4, 2) := by decide +kernel
theorem d_W_law_456 : decode code 456 = .ok (.iconst 2, 1) := by decide +kernel
