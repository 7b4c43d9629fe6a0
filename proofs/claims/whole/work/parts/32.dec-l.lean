theorem d_L_law_23 : decode code 23 = .ok (.iload 4, 2) := by decide +kernel
theorem d_L_law_25 : decode code 25 = .ok (.aload_n 0, 1) := by decide +kernel
theorem d_L_law_26 : decode code 26 = .ok (.arraylength, 1) := by decide +kernel
theorem d_L_law_27 : decode code 27 = .ok (.iconst 5, 1) := by decide +kernel
theorem d_L_law_28 : decode code 28 = .ok (.isub, 1) := by decide +kernel
theorem d_L_law_29 : decode code 29 = .ok (.if_icmp .gt 1298, 3) := by decide +kernel
theorem d_L_law_1327 : decode code 1327 = .ok (.iconst 1, 1) := by decide +kernel
theorem d_L_law_1328 : decode code 1328 = .ok (.ireturn, 1) := by decide +kernel
theorem d_L_law_32 : decode code 32 = .ok (.aload_n 0, 1) := by decide +kernel
theorem d_L_law_33 : decode code 33 = .ok (.iload 4, 2) := by decide +kernel
theorem d_L_law_35 : decode code 35 = .ok (.iaload, 1) := by decide +kernel
theorem d_L_law_36 : decode code 36 = .ok (.bipush 31, 2) := by decide +kernel
theorem d_L_law_38 : decode code 38 = .ok (.iand, 1) := by decide +kernel
theorem d_L_law_39 : decode code 39 = .ok (.tableswitch 1282 0 19 #[93, 104, 148, 220, 288, 356, 428, 520, 592, 664, 736, 784, 808, 888, 913, 926, 994, 1050, 1134, 1214], 93) := by decide +kernel
theorem d_L_law_132 : decode code 132 = .ok (.aload_n 1, 1) := by decide +kernel
theorem d_L_law_133 : decode code 133 = .ok (.invokevirtual 79, 3) := by decide +kernel
theorem d_L_law_136 : decode code 136 = .ok (.aload_n 2, 1) := by decide +kernel
theorem d_L_law_137 : decode code 137 = .ok (.invokevirtual 82, 3) := by decide +kernel
theorem d_L_law_140 : decode code 140 = .ok (.goto 1181, 3) := by decide +kernel
theorem d_L_law_1321 : decode code 1321 = .ok (.iinc 4 5, 3) := by decide +kernel
theorem d_L_law_1324 : decode code 1324 = .ok (.goto (-1301), 3) := by decide +kernel
theorem d_L_law_143 : decode code 143 = .ok (.aload_n 1, 1) := by decide +kernel
theorem d_L_law_144 : decode code 144 = .ok (.aload_n 3, 1) := by decide +kernel
theorem d_L_law_145 : decode code 145 = .ok (.invokestatic 83, 3) := by decide +kernel
theorem d_L_law_148 : decode code 148 = .ok (.istore 5, 2) := by decide +kernel
theorem d_L_law_150 : decode code 150 = .ok (.aload_n 2, 1) := by decide +kernel
theorem d_L_law_151 : decode code 151 = .ok (.invokevirtual 88, 3) := by decide +kernel
theorem d_L_law_154 : decode code 154 = .ok (.istore 6, 2) := by decide +kernel
theorem d_L_law_156 : decode code 156 = .ok (.aload_n 2, 1) := by decide +kernel
theorem d_L_law_157 : decode code 157 = .ok (.invokevirtual 89, 3) := by decide +kernel
theorem d_L_law_160 : decode code 160 = .ok (.iload 5, 2) := by decide +kernel
theorem d_L_law_162 : decode code 162 = .ok (.if_icmp .eq 5, 3) := by decide +kernel
theorem d_L_law_167 : decode code 167 = .ok (.iload 5, 2) := by decide +kernel
theorem d_L_law_169 : decode code 169 = .ok (.ifCond .ne 15, 3) := by decide +kernel
theorem d_L_law_184 : decode code 184 = .ok (.goto 1137, 3) := by decide +kernel
theorem d_L_law_172 : decode code 172 = .ok (.aload_n 3, 1) := by decide +kernel
theorem d_L_law_173 : decode code 173 = .ok (.iconst 0, 1) := by decide +kernel
theorem d_L_law_174 : decode code 174 = .ok (.laload, 1) := by decide +kernel
theorem d_L_law_175 : decode code 175 = .ok (.iload 6, 2) := by decide +kernel
theorem d_L_law_177 : decode code 177 = .ok (.i2l, 1) := by decide +kernel
theorem d_L_law_178 : decode code 178 = .ok (.lcmp, 1) := by decide +kernel
theorem d_L_law_179 : decode code 179 = .ok (.ifCond .eq 5, 3) := by decide +kernel
theorem d_L_law_182 : decode code 182 = .ok (.iconst 0, 1) := by decide +kernel
theorem d_L_law_183 : decode code 183 = .ok (.ireturn, 1) := by decide +kernel
theorem d_L_law_165 : decode code 165 = .ok (.iconst 0, 1) := by decide +kernel
theorem d_L_law_166 : decode code 166 = .ok (.ireturn, 1) := by decide +kernel
theorem d_L_law_187 : decode code 187 = .ok (.aload_n 1, 1) := by decide +kernel
theorem d_L_law_188 : decode code 188 = .ok (.aload_n 0, 1) := by decide +kernel
theorem d_L_law_189 : decode code 189 = .ok (.iload 4, 2) := by decide +kernel
theorem d_L_law_191 : decode code 191 = .ok (.iconst 1, 1) := by decide +kernel
theorem d_L_law_192 : decode code 192 = .ok (.iadd, 1) := by decide +kernel
theorem d_L_law_193 : decode code 193 = .ok (.iaload, 1) := by decide +kernel
theorem d_L_law_194 : decode code 194 = .ok (.aload_n 0, 1) := by decide +kernel
theorem d_L_law_195 : decode code 195 = .ok (.iload 4, 2) := by decide +kernel
theorem d_L_law_197 : decode code 197 = .ok (.iconst 2, 1) := by decide +kernel
theorem d_L_law_198 : decode code 198 = .ok (.iadd, 1) := by decide +kernel
theorem d_L_law_199 : decode code 199 = .ok (.iaload, 1) := by decide +kernel
theorem d_L_law_200 : decode code 200 = .ok (.aload_n 0, 1) := by decide +kernel
theorem d_L_law_201 : decode code 201 = .ok (.iload 4, 2) := by decide +kernel
theorem d_L_law_203 : decode code 203 = .ok (.iconst 3, 1) := by decide +kernel
theorem d_L_law_204 : decode code 204 = .ok (.iadd, 1) := by decide +kernel
theorem d_L_law_205 : decode code 205 = .ok (.iaload, 1) := by decide +kernel
theorem d_L_law_206 : decode code 206 = .ok (.aload_n 0, 1) := by decide +kernel
theorem d_L_law_207 : decode code 207 = .ok (.iload 4, 2) := by decide +kernel
theorem d_L_law_209 : decode code 209 = .ok (.iconst 4, 1) := by decide +kernel
theorem d_L_law_210 : decode code 210 = .ok (.iadd, 1) := by decide +kernel
theorem d_L_law_211 : decode code 211 = .ok (.iaload, 1) := by decide +kernel
theorem d_L_law_212 : decode code 212 = .ok (.invokestatic 92, 3) := by decide +kernel
theorem d_L_law_215 : decode code 215 = .ok (.istore 5, 2) := by decide +kernel
theorem d_L_law_217 : decode code 217 = .ok (.aload_n 2, 1) := by decide +kernel
theorem d_L_law_218 : decode code 218 = .ok (.aload_n 0, 1) := by decide +kernel
theorem d_L_law_219 : decode code 219 = .ok (.iload 4, 2) := by decide +kernel
theorem d_L_law_221 : decode code 221 = .ok (.iconst 1, 1) := by decide +kernel
theorem d_L_law_222 : decode code 222 = .ok (.iadd, 1) := by decide +kernel
theorem d_L_law_223 : decode code 223 = .ok (.iaload, 1) := by decide +kernel
theorem d_L_law_224 : decode code 224 = .ok (.aload_n 0, 1) := by decide +kernel
theorem d_L_law_225 : decode code 225 = .ok (.iload 4, 2) := by decide +kernel
theorem d_L_law_227 : decode code 227 = .ok (.iconst 2, 1) := by decide +kernel
theorem d_L_law_228 : decode code 228 = .ok (.iadd, 1) := by decide +kernel
theorem d_L_law_229 : decode code 229 = .ok (.iaload, 1) := by decide +kernel
theorem d_L_law_230 : decode code 230 = .ok (.aload_n 0, 1) := by decide +kernel
theorem d_L_law_231 : decode code 231 = .ok (.iload 4, 2) := by decide +kernel
theorem d_L_law_233 : decode code 233 = .ok (.iconst 3, 1) := by decide +kernel
theorem d_L_law_234 : decode code 234 = .ok (.iadd, 1) := by decide +kernel
theorem d_L_law_235 : decode code 235 = .ok (.iaload, 1) := by decide +kernel
theorem d_L_law_236 : decode code 236 = .ok (.aload_n 0, 1) := by decide +kernel
theorem d_L_law_237 : decode code 237 = .ok (.iload 4, 2) := by decide +kernel
theorem d_L_law_239 : decode code 239 = .ok (.iconst 4, 1) := by decide +kernel
theorem d_L_law_240 : decode code 240 = .ok (.iadd, 1) := by decide +kernel
theorem d_L_law_241 : decode code 241 = .ok (.iaload, 1) := by decide +kernel
theorem d_L_law_242 : decode code 242 = .ok (.invokevirtual 95, 3) := by decide +kernel
theorem d_L_law_245 : decode code 245 = .ok (.aload_n 2, 1) := by decide +kernel
theorem d_L_law_246 : decode code 246 = .ok (.invokevirtual 89, 3) := by decide +kernel
theorem d_L_law_249 : decode code 249 = .ok (.iload 5, 2) := by decide +kernel
theorem d_L_law_251 : decode code 251 = .ok (.if_icmp .eq 5, 3) := by decide +kernel
theorem d_L_law_256 : decode code 256 = .ok (.goto 1065, 3) := by decide +kernel
theorem d_L_law_254 : decode code 254 = .ok (.iconst 0, 1) := by decide +kernel
theorem d_L_law_255 : decode code 255 = .ok (.ireturn, 1) := by decide +kernel
theorem d_L_law_259 : decode code 259 = .ok (.aload_n 1, 1) := by decide +kernel
theorem d_L_law_260 : decode code 260 = .ok (.aload_n 0, 1) := by decide +kernel
theorem d_L_law_261 : decode code 261 = .ok (.iload 4, 2) := by decide +kernel
theorem d_L_law_263 : decode code 263 = .ok (.iconst 1, 1) := by decide +kernel
theorem d_L_law_264 : decode code 264 = .ok (.iadd, 1) := by decide +kernel
theorem d_L_law_265 : decode code 265 = .ok (.iaload, 1) := by decide +kernel
theorem d_L_law_266 : decode code 266 = .ok (.aload_n 0, 1) := by decide +kernel
theorem d_L_law_267 : decode code 267 = .ok (.iload 4, 2) := by decide +kernel
theorem d_L_law_269 : decode code 269 = .ok (.iconst 2, 1) := by decide +kernel
theorem d_L_law_270 : decode code 270 = .ok (.iadd, 1) := by decide +kernel
theorem d_L_law_271 : decode code 271 = .ok (.iaload, 1) := by decide +kernel
theorem d_L_law_272 : decode code 272 = .ok (.aload_n 3, 1) := by decide +kernel
theorem d_L_law_273 : decode code 273 = .ok (.invokestatic 96, 3) := by decide +kernel
theorem d_L_law_276 : decode code 276 = .ok (.istore 5, 2) := by decide +kernel
theorem d_L_law_278 : decode code 278 = .ok (.aload_n 2, 1) := by decide +kernel
theorem d_L_law_279 : decode code 279 = .ok (.aload_n 0, 1) := by decide +kernel
theorem d_L_law_280 : decode code 280 = .ok (.iload 4, 2) := by decide +kernel
theorem d_L_law_282 : decode code 282 = .ok (.iconst 1, 1) := by decide +kernel
theorem d_L_law_283 : decode code 283 = .ok (.iadd, 1) := by decide +kernel
theorem d_L_law_284 : decode code 284 = .ok (.iaload, 1) := by decide +kernel
theorem d_L_law_285 : decode code 285 = .ok (.aload_n 0, 1) := by decide +kernel
theorem d_L_law_286 : decode code 286 = .ok (.iload 4, 2) := by decide +kernel
theorem d_L_law_288 : decode code 288 = .ok (.iconst 2, 1) := by decide +kernel
theorem d_L_law_289 : decode code 289 = .ok (.iadd, 1) := by decide +kernel
theorem d_L_law_290 : decode code 290 = .ok (.iaload, 1) := by decide +kernel
theorem d_L_law_291 : decode code 291 = .ok (.invokevirtual 99, 3) := by decide +kernel
theorem d_L_law_294 : decode code 294 = .ok (.istore 6, 2) := by decide +kernel
theorem d_L_law_296 : decode code 296 = .ok (.aload_n 2, 1) := by decide +kernel
theorem d_L_law_297 : decode code 297 = .ok (.invokevirtual 89, 3) := by decide +kernel
theorem d_L_law_300 : decode code 300 = .ok (.iload 5, 2) := by decide +kernel
theorem d_L_law_302 : decode code 302 = .ok (.if_icmp .eq 5, 3) := by decide +kernel
theorem d_L_law_307 : decode code 307 = .ok (.iload 5, 2) := by decide +kernel
theorem d_L_law_309 : decode code 309 = .ok (.ifCond .ne 15, 3) := by decide +kernel
theorem d_L_law_324 : decode code 324 = .ok (.goto 997, 3) := by decide +kernel
theorem d_L_law_312 : decode code 312 = .ok (.aload_n 3, 1) := by decide +kernel
theorem d_L_law_313 : decode code 313 = .ok (.iconst 0, 1) := by decide +kernel
theorem d_L_law_314 : decode code 314 = .ok (.laload, 1) := by decide +kernel
theorem d_L_law_315 : decode code 315 = .ok (.iload 6, 2) := by decide +kernel
theorem d_L_law_317 : decode code 317 = .ok (.i2l, 1) := by decide +kernel
theorem d_L_law_318 : decode code 318 = .ok (.lcmp, 1) := by decide +kernel
theorem d_L_law_319 : decode code 319 = .ok (.ifCond .eq 5, 3) := by decide +kernel
theorem d_L_law_322 : decode code 322 = .ok (.iconst 0, 1) := by decide +kernel
theorem d_L_law_323 : decode code 323 = .ok (.ireturn, 1) := by decide +kernel
theorem d_L_law_305 : decode code 305 = .ok (.iconst 0, 1) := by decide +kernel
theorem d_L_law_306 : decode code 306 = .ok (.ireturn, 1) := by decide +kernel
theorem d_L_law_327 : decode code 327 = .ok (.aload_n 1, 1) := by decide +kernel
theorem d_L_law_328 : decode code 328 = .ok (.aload_n 0, 1) := by decide +kernel
theorem d_L_law_329 : decode code 329 = .ok (.iload 4, 2) := by decide +kernel
theorem d_L_law_331 : decode code 331 = .ok (.iconst 1, 1) := by decide +kernel
theorem d_L_law_332 : decode code 332 = .ok (.iadd, 1) := by decide +kernel
theorem d_L_law_333 : decode code 333 = .ok (.iaload, 1) := by decide +kernel
theorem d_L_law_334 : decode code 334 = .ok (.aload_n 0, 1) := by decide +kernel
theorem d_L_law_335 : decode code 335 = .ok (.iload 4, 2) := by decide +kernel
theorem d_L_law_337 : decode code 337 = .ok (.iconst 2, 1) := by decide +kernel
theorem d_L_law_338 : decode code 338 = .ok (.iadd, 1) := by decide +kernel
theorem d_L_law_339 : decode code 339 = .ok (.iaload, 1) := by decide +kernel
theorem d_L_law_340 : decode code 340 = .ok (.aload_n 3, 1) := by decide +kernel
theorem d_L_law_341 : decode code 341 = .ok (.invokestatic 100, 3) := by decide +kernel
theorem d_L_law_344 : decode code 344 = .ok (.istore 5, 2) := by decide +kernel
theorem d_L_law_346 : decode code 346 = .ok (.aload_n 2, 1) := by decide +kernel
theorem d_L_law_347 : decode code 347 = .ok (.aload_n 0, 1) := by decide +kernel
theorem d_L_law_348 : decode code 348 = .ok (.iload 4, 2) := by decide +kernel
theorem d_L_law_350 : decode code 350 = .ok (.iconst 1, 1) := by decide +kernel
theorem d_L_law_351 : decode code 351 = .ok (.iadd, 1) := by decide +kernel
theorem d_L_law_352 : decode code 352 = .ok (.iaload, 1) := by decide +kernel
theorem d_L_law_353 : decode code 353 = .ok (.aload_n 0, 1) := by decide +kernel
theorem d_L_law_354 : decode code 354 = .ok (.iload 4, 2) := by decide +kernel
theorem d_L_law_356 : decode code 356 = .ok (.iconst 2, 1) := by decide +kernel
theorem d_L_law_357 : decode code 357 = .ok (.iadd, 1) := by decide +kernel
theorem d_L_law_358 : decode code 358 = .ok (.iaload, 1) := by decide +kernel
theorem d_L_law_359 : decode code 359 = .ok (.invokevirtual 102, 3) := by decide +kernel
theorem d_L_law_362 : decode code 362 = .ok (.istore 6, 2) := by decide +kernel
theorem d_L_law_364 : decode code 364 = .ok (.aload_n 2, 1) := by decide +kernel
theorem d_L_law_365 : decode code 365 = .ok (.invokevirtual 89, 3) := by decide +kernel
theorem d_L_law_368 : decode code 368 = .ok (.iload 5, 2) := by decide +kernel
theorem d_L_law_370 : decode code 370 = .ok (.if_icmp .eq 5, 3) := by decide +kernel
theorem d_L_law_375 : decode code 375 = .ok (.iload 5, 2) := by decide +kernel
theorem d_L_law_377 : decode code 377 = .ok (.ifCond .ne 15, 3) := by decide +kernel
theorem d_L_law_392 : decode code 392 = .ok (.goto 929, 3) := by decide +kernel
theorem d_L_law_380 : decode code 380 = .ok (.aload_n 3, 1) := by decide +kernel
theorem d_L_law_381 : decode code 381 = .ok (.iconst 0, 1) := by decide +kernel
theorem d_L_law_382 : decode code 382 = .ok (.laload, 1) := by decide +kernel
theorem d_L_law_383 : decode code 383 = .ok (.iload 6, 2) := by decide +kernel
theorem d_L_law_385 : decode code 385 = .ok (.i2l, 1) := by decide +kernel
theorem d_L_law_386 : decode code 386 = .ok (.lcmp, 1) := by decide +kernel
theorem d_L_law_387 : decode code 387 = .ok (.ifCond .eq 5, 3) := by decide +kernel
theorem d_L_law_390 : decode code 390 = .ok (.iconst 0, 1) := by decide +kernel
theorem d_L_law_391 : decode code 391 = .ok (.ireturn, 1) := by decide +kernel
theorem d_L_law_373 : decode code 373 = .ok (.iconst 0, 1) := by decide +kernel
theorem d_L_law_374 : decode code 374 = .ok (.ireturn, 1) := by decide +kernel
theorem d_L_law_395 : decode code 395 = .ok (.aload_n 1, 1) := by decide +kernel
theorem d_L_law_396 : decode code 396 = .ok (.aload_n 0, 1) := by decide +kernel
theorem d_L_law_397 : decode code 397 = .ok (.iload 4, 2) := by decide +kernel
theorem d_L_law_399 : decode code 399 = .ok (.iconst 1, 1) := by decide +kernel
theorem d_L_law_400 : decode code 400 = .ok (.iadd, 1) := by decide +kernel
theorem d_L_law_401 : decode code 401 = .ok (.iaload, 1) := by decide +kernel
theorem d_L_law_402 : decode code 402 = .ok (.ifCond .eq 7, 3) := by decide +kernel
theorem d_L_law_409 : decode code 409 = .ok (.iconst 0, 1) := by decide +kernel
theorem d_L_law_410 : decode code 410 = .ok (.aload_n 3, 1) := by decide +kernel
theorem d_L_law_411 : decode code 411 = .ok (.invokestatic 103, 3) := by decide +kernel
theorem d_L_law_414 : decode code 414 = .ok (.istore 5, 2) := by decide +kernel
theorem d_L_law_416 : decode code 416 = .ok (.aload_n 2, 1) := by decide +kernel
theorem d_L_law_417 : decode code 417 = .ok (.aload_n 0, 1) := by decide +kernel
theorem d_L_law_418 : decode code 418 = .ok (.iload 4, 2) := by decide +kernel
theorem d_L_law_420 : decode code 420 = .ok (.iconst 1, 1) := by decide +kernel
theorem d_L_law_421 : decode code 421 = .ok (.iadd, 1) := by decide +kernel
theorem d_L_law_422 : decode code 422 = .ok (.iaload, 1) := by decide +kernel
theorem d_L_law_423 : decode code 423 = .ok (.ifCond .eq 7, 3) := by decide +kernel
theorem d_L_law_430 : decode code 430 = .ok (.iconst 0, 1) := by decide +kernel
theorem d_L_law_431 : decode code 431 = .ok (.invokevirtual 106, 3) := by decide +kernel
theorem d_L_law_434 : decode code 434 = .ok (.istore 6, 2) := by decide +kernel
theorem d_L_law_436 : decode code 436 = .ok (.aload_n 2, 1) := by decide +kernel
theorem d_L_law_437 : decode code 437 = .ok (.invokevirtual 89, 3) := by decide +kernel
theorem d_L_law_440 : decode code 440 = .ok (.iload 5, 2) := by decide +kernel
theorem d_L_law_442 : decode code 442 = .ok (.if_icmp .eq 5, 3) := by decide +kernel
theorem d_L_law_447 : decode code 447 = .ok (.iload 5, 2) := by decide +kernel
theorem d_L_law_449 : decode code 449 = .ok (.ifCond .ne 15, 3) := by decide +kernel
theorem d_L_law_464 : decode code 464 = .ok (.goto 857, 3) := by decide +kernel
theorem d_L_law_452 : decode code 452 = .ok (.aload_n 3, 1) := by decide +kernel
theorem d_L_law_453 : decode code 453 = .ok (.iconst 0, 1) := by decide +kernel
theorem d_L_law_454 : decode code 454 = .ok (.laload, 1) := by decide +kernel
theorem d_L_law_455 : decode code 455 = .ok (.iload 6, 2) := by decide +kernel
theorem d_L_law_457 : decode code 457 = .ok (.i2l, 1) := by decide +kernel
theorem d_L_law_458 : decode code 458 = .ok (.lcmp, 1) := by decide +kernel
theorem d_L_law_459 : decode code 459 = .ok (.ifCond .eq 5, 3) := by decide +kernel
theorem d_L_law_462 : decode code 462 = .ok (.iconst 0, 1) := by decide +kernel
theorem d_L_law_463 : decode code 463 = .ok (.ireturn, 1) := by decide +kernel
theorem d_L_law_445 : decode code 445 = .ok (.iconst 0, 1) := by decide +kernel
theorem d_L_law_446 : decode code 446 = .ok (.ireturn, 1) := by decide +kernel
theorem d_L_law_405 : decode code 405 = .ok (.iconst 1, 1) := by decide +kernel
theorem d_L_law_406 : decode code 406 = .ok (.goto 4, 3) := by decide +kernel
theorem d_L_law_426 : decode code 426 = .ok (.iconst 1, 1) := by decide +kernel
theorem d_L_law_427 : decode code 427 = .ok (.goto 4, 3) := by decide +kernel
theorem d_L_law_467 : decode code 467 = .ok (.aload_n 1, 1) := by decide +kernel
theorem d_L_law_468 : decode code 468 = .ok (.aload_n 0, 1) := by decide +kernel
theorem d_L_law_469 : decode code 469 = .ok (.iload 4, 2) := by decide +kernel
theorem d_L_law_471 : decode code 471 = .ok (.iconst 1, 1) := by decide +kernel
theorem d_L_law_472 : decode code 472 = .ok (.iadd, 1) := by decide +kernel
theorem d_L_law_473 : decode code 473 = .ok (.iaload, 1) := by decide +kernel
theorem d_L_law_474 : decode code 474 = .ok (.aload_n 0, 1) := by decide +kernel
theorem d_L_law_475 : decode code 475 = .ok (.iload 4, 2) := by decide +kernel
theorem d_L_law_477 : decode code 477 = .ok (.iconst 2, 1) := by decide +kernel
theorem d_L_law_478 : decode code 478 = .ok (.iadd, 1) := by decide +kernel
theorem d_L_law_479 : decode code 479 = .ok (.iaload, 1) := by decide +kernel
theorem d_L_law_480 : decode code 480 = .ok (.aload_n 0, 1) := by decide +kernel
theorem d_L_law_481 : decode code 481 = .ok (.iload 4, 2) := by decide +kernel
theorem d_L_law_483 : decode code 483 = .ok (.iconst 3, 1) := by decide +kernel
theorem d_L_law_484 : decode code 484 = .ok (.iadd, 1) := by decide +kernel
theorem d_L_law_485 : decode code 485 = .ok (.iaload, 1) := by decide +kernel
theorem d_L_law_486 : decode code 486 = .ok (.aload_n 0, 1) := by decide +kernel
theorem d_L_law_487 : decode code 487 = .ok (.iload 4, 2) := by decide +kernel
theorem d_L_law_489 : decode code 489 = .ok (.iconst 4, 1) := by decide +kernel
theorem d_L_law_490 : decode code 490 = .ok (.iadd, 1) := by decide +kernel
theorem d_L_law_491 : decode code 491 = .ok (.iaload, 1) := by decide +kernel
theorem d_L_law_492 : decode code 492 = .ok (.aload_n 3, 1) := by decide +kernel
theorem d_L_law_493 : decode code 493 = .ok (.invokestatic 107, 3) := by decide +kernel
theorem d_L_law_496 : decode code 496 = .ok (.istore 5, 2) := by decide +kernel
theorem d_L_law_498 : decode code 498 = .ok (.aload_n 2, 1) := by decide +kernel
theorem d_L_law_499 : decode code 499 = .ok (.aload_n 0, 1) := by decide +kernel
theorem d_L_law_500 : decode code 500 = .ok (.iload 4, 2) := by decide +kernel
theorem d_L_law_502 : decode code 502 = .ok (.iconst 1, 1) := by decide +kernel
theorem d_L_law_503 : decode code 503 = .ok (.iadd, 1) := by decide +kernel
theorem d_L_law_504 : decode code 504 = .ok (.iaload, 1) := by decide +kernel
theorem d_L_law_505 : decode code 505 = .ok (.aload_n 0, 1) := by decide +kernel
theorem d_L_law_506 : decode code 506 = .ok (.iload 4, 2) := by decide +kernel
theorem d_L_law_508 : decode code 508 = .ok (.iconst 2, 1) := by decide +kernel
theorem d_L_law_509 : decode code 509 = .ok (.iadd, 1) := by decide +kernel
theorem d_L_law_510 : decode code 510 = .ok (.iaload, 1) := by decide +kernel
theorem d_L_law_511 : decode code 511 = .ok (.aload_n 0, 1) := by decide +kernel
theorem d_L_law_512 : decode code 512 = .ok (.iload 4, 2) := by decide +kernel
theorem d_L_law_514 : decode code 514 = .ok (.iconst 3, 1) := by decide +kernel
theorem d_L_law_515 : decode code 515 = .ok (.iadd, 1) := by decide +kernel
theorem d_L_law_516 : decode code 516 = .ok (.iaload, 1) := by decide +kernel
theorem d_L_law_517 : decode code 517 = .ok (.aload_n 0, 1) := by decide +kernel
theorem d_L_law_518 : decode code 518 = .ok (.iload 4, 2) := by decide +kernel
theorem d_L_law_520 : decode code 520 = .ok (.iconst 4, 1) := by decide +kernel
theorem d_L_law_521 : decode code 521 = .ok (.iadd, 1) := by decide +kernel
theorem d_L_law_522 : decode code 522 = .ok (.iaload, 1) := by decide +kernel
theorem d_L_law_523 : decode code 523 = .ok (.invokevirtual 110, 3) := by decide +kernel
theorem d_L_law_526 : decode code 526 = .ok (.istore 6, 2) := by decide +kernel
theorem d_L_law_528 : decode code 528 = .ok (.aload_n 2, 1) := by decide +kernel
theorem d_L_law_529 : decode code 529 = .ok (.invokevirtual 89, 3) := by decide +kernel
theorem d_L_law_532 : decode code 532 = .ok (.iload 5, 2) := by decide +kernel
theorem d_L_law_534 : decode code 534 = .ok (.if_icmp .eq 5, 3) := by decide +kernel
theorem d_L_law_539 : decode code 539 = .ok (.iload 5, 2) := by decide +kernel
theorem d_L_law_541 : decode code 541 = .ok (.ifCond .ne 15, 3) := by decide +kernel
theorem d_L_law_556 : decode code 556 = .ok (.goto 765, 3) := by decide +kernel
theorem d_L_law_544 : decode code 544 = .ok (.aload_n 3, 1) := by decide +kernel
theorem d_L_law_545 : decode code 545 = .ok (.iconst 0, 1) := by decide +kernel
theorem d_L_law_546 : decode code 546 = .ok (.laload, 1) := by decide +kernel
theorem d_L_law_547 : decode code 547 = .ok (.iload 6, 2) := by decide +kernel
theorem d_L_law_549 : decode code 549 = .ok (.i2l, 1) := by decide +kernel
theorem d_L_law_550 : decode code 550 = .ok (.lcmp, 1) := by decide +kernel
theorem d_L_law_551 : decode code 551 = .ok (.ifCond .eq 5, 3) := by decide +kernel
theorem d_L_law_554 : decode code 554 = .ok (.iconst 0, 1) := by decide +kernel
theorem d_L_law_555 : decode code 555 = .ok (.ireturn, 1) := by decide +kernel
theorem d_L_law_537 : decode code 537 = .ok (.iconst 0, 1) := by decide +kernel
theorem d_L_law_538 : decode code 538 = .ok (.ireturn, 1) := by decide +kernel
theorem d_L_law_559 : decode code 559 = .ok (.aload_n 1, 1) := by decide +kernel
theorem d_L_law_560 : decode code 560 = .ok (.aload_n 0, 1) := by decide +kernel
theorem d_L_law_561 : decode code 561 = .ok (.iload 4, 2) := by decide +kernel
theorem d_L_law_563 : decode code 563 = .ok (.iconst 1, 1) := by decide +kernel
theorem d_L_law_564 : decode code 564 = .ok (.iadd, 1) := by decide +kernel
theorem d_L_law_565 : decode code 565 = .ok (.iaload, 1) := by decide +kernel
theorem d_L_law_566 : decode code 566 = .ok (.aload_n 0, 1) := by decide +kernel
theorem d_L_law_567 : decode code 567 = .ok (.iload 4, 2) := by decide +kernel
theorem d_L_law_569 : decode code 569 = .ok (.iconst 2, 1) := by decide +kernel
theorem d_L_law_570 : decode code 570 = .ok (.iadd, 1) := by decide +kernel
theorem d_L_law_571 : decode code 571 = .ok (.iaload, 1) := by decide +kernel
theorem d_L_law_572 : decode code 572 = .ok (.aload_n 0, 1) := by decide +kernel
theorem d_L_law_573 : decode code 573 = .ok (.iload 4, 2) := by decide +kernel
theorem d_L_law_575 : decode code 575 = .ok (.iconst 3, 1) := by decide +kernel
theorem d_L_law_576 : decode code 576 = .ok (.iadd, 1) := by decide +kernel
theorem d_L_law_577 : decode code 577 = .ok (.iaload, 1) := by decide +kernel
theorem d_L_law_578 : decode code 578 = .ok (.aload_n 0, 1) := by decide +kernel
theorem d_L_law_579 : decode code 579 = .ok (.iload 4, 2) := by decide +kernel
theorem d_L_law_581 : decode code 581 = .ok (.iconst 4, 1) := by decide +kernel
theorem d_L_law_582 : decode code 582 = .ok (.iadd, 1) := by decide +kernel
theorem d_L_law_583 : decode code 583 = .ok (.iaload, 1) := by decide +kernel
theorem d_L_law_584 : decode code 584 = .ok (.invokestatic 111, 3) := by decide +kernel
theorem d_L_law_587 : decode code 587 = .ok (.istore 5, 2) := by decide +kernel
theorem d_L_law_589 : decode code 589 = .ok (.aload_n 2, 1) := by decide +kernel
theorem d_L_law_590 : decode code 590 = .ok (.aload_n 0, 1) := by decide +kernel
theorem d_L_law_591 : decode code 591 = .ok (.iload 4, 2) := by decide +kernel
theorem d_L_law_593 : decode code 593 = .ok (.iconst 1, 1) := by decide +kernel
theorem d_L_law_594 : decode code 594 = .ok (.iadd, 1) := by decide +kernel
theorem d_L_law_595 : decode code 595 = .ok (.iaload, 1) := by decide +kernel
theorem d_L_law_596 : decode code 596 = .ok (.aload_n 0, 1) := by decide +kernel
theorem d_L_law_597 : decode code 597 = .ok (.iload 4, 2) := by decide +kernel
theorem d_L_law_599 : decode code 599 = .ok (.iconst 2, 1) := by decide +kernel
theorem d_L_law_600 : decode code 600 = .ok (.iadd, 1) := by decide +kernel
theorem d_L_law_601 : decode code 601 = .ok (.iaload, 1) := by decide +kernel
theorem d_L_law_602 : decode code 602 = .ok (.aload_n 0, 1) := by decide +kernel
theorem d_L_law_603 : decode code 603 = .ok (.iload 4, 2) := by decide +kernel
theorem d_L_law_605 : decode code 605 = .ok (.iconst 3, 1) := by decide +kernel
theorem d_L_law_606 : decode code 606 = .ok (.iadd, 1) := by decide +kernel
theorem d_L_law_607 : decode code 607 = .ok (.iaload, 1) := by decide +kernel
theorem d_L_law_608 : decode code 608 = .ok (.aload_n 0, 1) := by decide +kernel
theorem d_L_law_609 : decode code 609 = .ok (.iload 4, 2) := by decide +kernel
theorem d_L_law_611 : decode code 611 = .ok (.iconst 4, 1) := by decide +kernel
theorem d_L_law_612 : decode code 612 = .ok (.iadd, 1) := by decide +kernel
theorem d_L_law_613 : decode code 613 = .ok (.iaload, 1) := by decide +kernel
theorem d_L_law_614 : decode code 614 = .ok (.invokevirtual 113, 3) := by decide +kernel
theorem d_L_law_617 : decode code 617 = .ok (.aload_n 2, 1) := by decide +kernel
theorem d_L_law_618 : decode code 618 = .ok (.invokevirtual 89, 3) := by decide +kernel
theorem d_L_law_621 : decode code 621 = .ok (.iload 5, 2) := by decide +kernel
theorem d_L_law_623 : decode code 623 = .ok (.if_icmp .eq 5, 3) := by decide +kernel
theorem d_L_law_628 : decode code 628 = .ok (.goto 693, 3) := by decide +kernel
theorem d_L_law_626 : decode code 626 = .ok (.iconst 0, 1) := by decide +kernel
theorem d_L_law_627 : decode code 627 = .ok (.ireturn, 1) := by decide +kernel
theorem d_L_law_631 : decode code 631 = .ok (.aload_n 1, 1) := by decide +kernel
theorem d_L_law_632 : decode code 632 = .ok (.aload_n 0, 1) := by decide +kernel
theorem d_L_law_633 : decode code 633 = .ok (.iload 4, 2) := by decide +kernel
theorem d_L_law_635 : decode code 635 = .ok (.iconst 1, 1) := by decide +kernel
theorem d_L_law_636 : decode code 636 = .ok (.iadd, 1) := by decide +kernel
theorem d_L_law_637 : decode code 637 = .ok (.iaload, 1) := by decide +kernel
theorem d_L_law_638 : decode code 638 = .ok (.aload_n 0, 1) := by decide +kernel
theorem d_L_law_639 : decode code 639 = .ok (.iload 4, 2) := by decide +kernel
theorem d_L_law_641 : decode code 641 = .ok (.iconst 2, 1) := by decide +kernel
theorem d_L_law_642 : decode code 642 = .ok (.iadd, 1) := by decide +kernel
theorem d_L_law_643 : decode code 643 = .ok (.iaload, 1) := by decide +kernel
theorem d_L_law_644 : decode code 644 = .ok (.aload_n 0, 1) := by decide +kernel
theorem d_L_law_645 : decode code 645 = .ok (.iload 4, 2) := by decide +kernel
theorem d_L_law_647 : decode code 647 = .ok (.iconst 3, 1) := by decide +kernel
theorem d_L_law_648 : decode code 648 = .ok (.iadd, 1) := by decide +kernel
theorem d_L_law_649 : decode code 649 = .ok (.iaload, 1) := by decide +kernel
theorem d_L_law_650 : decode code 650 = .ok (.aload_n 0, 1) := by decide +kernel
theorem d_L_law_651 : decode code 651 = .ok (.iload 4, 2) := by decide +kernel
theorem d_L_law_653 : decode code 653 = .ok (.iconst 4, 1) := by decide +kernel
theorem d_L_law_654 : decode code 654 = .ok (.iadd, 1) := by decide +kernel
theorem d_L_law_655 : decode code 655 = .ok (.iaload, 1) := by decide +kernel
theorem d_L_law_656 : decode code 656 = .ok (.invokestatic 114, 3) := by decide +kernel
theorem d_L_law_659 : decode code 659 = .ok (.istore 5, 2) := by decide +kernel
theorem d_L_law_661 : decode code 661 = .ok (.aload_n 2, 1) := by decide +kernel
theorem d_L_law_662 : decode code 662 = .ok (.aload_n 0, 1) := by decide +kernel
theorem d_L_law_663 : decode code 663 = .ok (.iload 4, 2) := by decide +kernel
theorem d_L_law_665 : decode code 665 = .ok (.iconst 1, 1) := by decide +kernel
theorem d_L_law_666 : decode code 666 = .ok (.iadd, 1) := by decide +kernel
theorem d_L_law_667 : decode code 667 = .ok (.iaload, 1) := by decide +kernel
theorem d_L_law_668 : decode code 668 = .ok (.aload_n 0, 1) := by decide +kernel
theorem d_L_law_669 : decode code 669 = .ok (.iload 4, 2) := by decide +kernel
theorem d_L_law_671 : decode code 671 = .ok (.iconst 2, 1) := by decide +kernel
theorem d_L_law_672 : decode code 672 = .ok (.iadd, 1) := by decide +kernel
theorem d_L_law_673 : decode code 673 = .ok (.iaload, 1) := by decide +kernel
theorem d_L_law_674 : decode code 674 = .ok (.aload_n 0, 1) := by decide +kernel
theorem d_L_law_675 : decode code 675 = .ok (.iload 4, 2) := by decide +kernel
theorem d_L_law_677 : decode code 677 = .ok (.iconst 3, 1) := by decide +kernel
theorem d_L_law_678 : decode code 678 = .ok (.iadd, 1) := by decide +kernel
theorem d_L_law_679 : decode code 679 = .ok (.iaload, 1) := by decide +kernel
theorem d_L_law_680 : decode code 680 = .ok (.aload_n 0, 1) := by decide +kernel
theorem d_L_law_681 : decode code 681 = .ok (.iload 4, 2) := by decide +kernel
theorem d_L_law_683 : decode code 683 = .ok (.iconst 4, 1) := by decide +kernel
theorem d_L_law_684 : decode code 684 = .ok (.iadd, 1) := by decide +kernel
theorem d_L_law_685 : decode code 685 = .ok (.iaload, 1) := by decide +kernel
theorem d_L_law_686 : decode code 686 = .ok (.invokevirtual 116, 3) := by decide +kernel
theorem d_L_law_689 : decode code 689 = .ok (.aload_n 2, 1) := by decide +kernel
theorem d_L_law_690 : decode code 690 = .ok (.invokevirtual 89, 3) := by decide +kernel
theorem d_L_law_693 : decode code 693 = .ok (.iload 5, 2) := by decide +kernel
theorem d_L_law_695 : decode code 695 = .ok (.if_icmp .eq 5, 3) := by decide +kernel
theorem d_L_law_700 : decode code 700 = .ok (.goto 621, 3) := by decide +kernel
theorem d_L_law_698 : decode code 698 = .ok (.iconst 0, 1) := by decide +kernel
theorem d_L_law_699 : decode code 699 = .ok (.ireturn, 1) := by decide +kernel
theorem d_L_law_703 : decode code 703 = .ok (.aload_n 1, 1) := by decide +kernel
theorem d_L_law_704 : decode code 704 = .ok (.aload_n 0, 1) := by decide +kernel
theorem d_L_law_705 : decode code 705 = .ok (.iload 4, 2) := by decide +kernel
theorem d_L_law_707 : decode code 707 = .ok (.iconst 1, 1) := by decide +kernel
theorem d_L_law_708 : decode code 708 = .ok (.iadd, 1) := by decide +kernel
theorem d_L_law_709 : decode code 709 = .ok (.iaload, 1) := by decide +kernel
theorem d_L_law_710 : decode code 710 = .ok (.aload_n 0, 1) := by decide +kernel
theorem d_L_law_711 : decode code 711 = .ok (.iload 4, 2) := by decide +kernel
theorem d_L_law_713 : decode code 713 = .ok (.iconst 2, 1) := by decide +kernel
theorem d_L_law_714 : decode code 714 = .ok (.iadd, 1) := by decide +kernel
theorem d_L_law_715 : decode code 715 = .ok (.iaload, 1) := by decide +kernel
theorem d_L_law_716 : decode code 716 = .ok (.aload_n 0, 1) := by decide +kernel
theorem d_L_law_717 : decode code 717 = .ok (.iload 4, 2) := by decide +kernel
theorem d_L_law_719 : decode code 719 = .ok (.iconst 3, 1) := by decide +kernel
theorem d_L_law_720 : decode code 720 = .ok (.iadd, 1) := by decide +kernel
theorem d_L_law_721 : decode code 721 = .ok (.iaload, 1) := by decide +kernel
theorem d_L_law_722 : decode code 722 = .ok (.aload_n 0, 1) := by decide +kernel
theorem d_L_law_723 : decode code 723 = .ok (.iload 4, 2) := by decide +kernel
theorem d_L_law_725 : decode code 725 = .ok (.iconst 4, 1) := by decide +kernel
theorem d_L_law_726 : decode code 726 = .ok (.iadd, 1) := by decide +kernel
theorem d_L_law_727 : decode code 727 = .ok (.iaload, 1) := by decide +kernel
theorem d_L_law_728 : decode code 728 = .ok (.invokestatic 117, 3) := by decide +kernel
theorem d_L_law_731 : decode code 731 = .ok (.istore 5, 2) := by decide +kernel
theorem d_L_law_733 : decode code 733 = .ok (.aload_n 2, 1) := by decide +kernel
theorem d_L_law_734 : decode code 734 = .ok (.aload_n 0, 1) := by decide +kernel
theorem d_L_law_735 : decode code 735 = .ok (.iload 4, 2) := by decide +kernel
theorem d_L_law_737 : decode code 737 = .ok (.iconst 1, 1) := by decide +kernel
theorem d_L_law_738 : decode code 738 = .ok (.iadd, 1) := by decide +kernel
theorem d_L_law_739 : decode code 739 = .ok (.iaload, 1) := by decide +kernel
theorem d_L_law_740 : decode code 740 = .ok (.aload_n 0, 1) := by decide +kernel
theorem d_L_law_741 : decode code 741 = .ok (.iload 4, 2) := by decide +kernel
theorem d_L_law_743 : decode code 743 = .ok (.iconst 2, 1) := by decide +kernel
theorem d_L_law_744 : decode code 744 = .ok (.iadd, 1) := by decide +kernel
theorem d_L_law_745 : decode code 745 = .ok (.iaload, 1) := by decide +kernel
theorem d_L_law_746 : decode code 746 = .ok (.aload_n 0, 1) := by decide +kernel
theorem d_L_law_747 : decode code 747 = .ok (.iload 4, 2) := by decide +kernel
theorem d_L_law_749 : decode code 749 = .ok (.iconst 3, 1) := by decide +kernel
theorem d_L_law_750 : decode code 750 = .ok (.iadd, 1) := by decide +kernel
theorem d_L_law_751 : decode code 751 = .ok (.iaload, 1) := by decide +kernel
theorem d_L_law_752 : decode code 752 = .ok (.aload_n 0, 1) := by decide +kernel
theorem d_L_law_753 : decode code 753 = .ok (.iload 4, 2) := by decide +kernel
theorem d_L_law_755 : decode code 755 = .ok (.iconst 4, 1) := by decide +kernel
theorem d_L_law_756 : decode code 756 = .ok (.iadd, 1) := by decide +kernel
theorem d_L_law_757 : decode code 757 = .ok (.iaload, 1) := by decide +kernel
theorem d_L_law_758 : decode code 758 = .ok (.invokevirtual 119, 3) := by decide +kernel
theorem d_L_law_761 : decode code 761 = .ok (.aload_n 2, 1) := by decide +kernel
theorem d_L_law_762 : decode code 762 = .ok (.invokevirtual 89, 3) := by decide +kernel
theorem d_L_law_765 : decode code 765 = .ok (.iload 5, 2) := by decide +kernel
theorem d_L_law_767 : decode code 767 = .ok (.if_icmp .eq 5, 3) := by decide +kernel
theorem d_L_law_772 : decode code 772 = .ok (.goto 549, 3) := by decide +kernel
theorem d_L_law_770 : decode code 770 = .ok (.iconst 0, 1) := by decide +kernel
theorem d_L_law_771 : decode code 771 = .ok (.ireturn, 1) := by decide +kernel
theorem d_L_law_775 : decode code 775 = .ok (.aload_n 1, 1) := by decide +kernel
theorem d_L_law_776 : decode code 776 = .ok (.aload_n 0, 1) := by decide +kernel
theorem d_L_law_777 : decode code 777 = .ok (.iload 4, 2) := by decide +kernel
theorem d_L_law_779 : decode code 779 = .ok (.iconst 1, 1) := by decide +kernel
theorem d_L_law_780 : decode code 780 = .ok (.iadd, 1) := by decide +kernel
theorem d_L_law_781 : decode code 781 = .ok (.iaload, 1) := by decide +kernel
theorem d_L_law_782 : decode code 782 = .ok (.aload_n 0, 1) := by decide +kernel
theorem d_L_law_783 : decode code 783 = .ok (.iload 4, 2) := by decide +kernel
theorem d_L_law_785 : decode code 785 = .ok (.iconst 2, 1) := by decide +kernel
theorem d_L_law_786 : decode code 786 = .ok (.iadd, 1) := by decide +kernel
theorem d_L_law_787 : decode code 787 = .ok (.iaload, 1) := by decide +kernel
theorem d_L_law_788 : decode code 788 = .ok (.invokestatic 120, 3) := by decide +kernel
theorem d_L_law_791 : decode code 791 = .ok (.istore 5, 2) := by decide +kernel
theorem d_L_law_793 : decode code 793 = .ok (.aload_n 2, 1) := by decide +kernel
theorem d_L_law_794 : decode code 794 = .ok (.aload_n 0, 1) := by decide +kernel
theorem d_L_law_795 : decode code 795 = .ok (.iload 4, 2) := by decide +kernel
theorem d_L_law_797 : decode code 797 = .ok (.iconst 1, 1) := by decide +kernel
theorem d_L_law_798 : decode code 798 = .ok (.iadd, 1) := by decide +kernel
theorem d_L_law_799 : decode code 799 = .ok (.iaload, 1) := by decide +kernel
theorem d_L_law_800 : decode code 800 = .ok (.aload_n 0, 1) := by decide +kernel
theorem d_L_law_801 : decode code 801 = .ok (.iload 4, 2) := by decide +kernel
theorem d_L_law_803 : decode code 803 = .ok (.iconst 2, 1) := by decide +kernel
theorem d_L_law_804 : decode code 804 = .ok (.iadd, 1) := by decide +kernel
theorem d_L_law_805 : decode code 805 = .ok (.iaload, 1) := by decide +kernel
theorem d_L_law_806 : decode code 806 = .ok (.invokevirtual 123, 3) := by decide +kernel
theorem d_L_law_809 : decode code 809 = .ok (.aload_n 2, 1) := by decide +kernel
theorem d_L_law_810 : decode code 810 = .ok (.invokevirtual 89, 3) := by decide +kernel
theorem d_L_law_813 : decode code 813 = .ok (.iload 5, 2) := by decide +kernel
theorem d_L_law_815 : decode code 815 = .ok (.if_icmp .eq 5, 3) := by decide +kernel
theorem d_L_law_820 : decode code 820 = .ok (.goto 501, 3) := by decide +kernel
theorem d_L_law_818 : decode code 818 = .ok (.iconst 0, 1) := by decide +kernel
theorem d_L_law_819 : decode code 819 = .ok (.ireturn, 1) := by decide +kernel
theorem d_L_law_823 : decode code 823 = .ok (.aload_n 1, 1) := by decide +kernel
theorem d_L_law_824 : decode code 824 = .ok (.invokestatic 124, 3) := by decide +kernel
theorem d_L_law_827 : decode code 827 = .ok (.istore 5, 2) := by decide +kernel
theorem d_L_law_829 : decode code 829 = .ok (.aload_n 2, 1) := by decide +kernel
theorem d_L_law_830 : decode code 830 = .ok (.invokevirtual 127, 3) := by decide +kernel
theorem d_L_law_833 : decode code 833 = .ok (.aload_n 2, 1) := by decide +kernel
theorem d_L_law_834 : decode code 834 = .ok (.invokevirtual 89, 3) := by decide +kernel
theorem d_L_law_837 : decode code 837 = .ok (.iload 5, 2) := by decide +kernel
theorem d_L_law_839 : decode code 839 = .ok (.if_icmp .eq 5, 3) := by decide +kernel
theorem d_L_law_844 : decode code 844 = .ok (.goto 477, 3) := by decide +kernel
theorem d_L_law_842 : decode code 842 = .ok (.iconst 0, 1) := by decide +kernel
theorem d_L_law_843 : decode code 843 = .ok (.ireturn, 1) := by decide +kernel
theorem d_L_law_847 : decode code 847 = .ok (.aload_n 1, 1) := by decide +kernel
theorem d_L_law_848 : decode code 848 = .ok (.aload_n 0, 1) := by decide +kernel
theorem d_L_law_849 : decode code 849 = .ok (.iload 4, 2) := by decide +kernel
theorem d_L_law_851 : decode code 851 = .ok (.iconst 1, 1) := by decide +kernel
theorem d_L_law_852 : decode code 852 = .ok (.iadd, 1) := by decide +kernel
theorem d_L_law_853 : decode code 853 = .ok (.iaload, 1) := by decide +kernel
theorem d_L_law_854 : decode code 854 = .ok (.aload_n 0, 1) := by decide +kernel
theorem d_L_law_855 : decode code 855 = .ok (.iload 4, 2) := by decide +kernel
theorem d_L_law_857 : decode code 857 = .ok (.iconst 2, 1) := by decide +kernel
theorem d_L_law_858 : decode code 858 = .ok (.iadd, 1) := by decide +kernel
theorem d_L_law_859 : decode code 859 = .ok (.iaload, 1) := by decide +kernel
theorem d_L_law_860 : decode code 860 = .ok (.aload_n 0, 1) := by decide +kernel
theorem d_L_law_861 : decode code 861 = .ok (.iload 4, 2) := by decide +kernel
theorem d_L_law_863 : decode code 863 = .ok (.iconst 3, 1) := by decide +kernel
theorem d_L_law_864 : decode code 864 = .ok (.iadd, 1) := by decide +kernel
theorem d_L_law_865 : decode code 865 = .ok (.iaload, 1) := by decide +kernel
theorem d_L_law_866 : decode code 866 = .ok (.aload_n 3, 1) := by decide +kernel
theorem d_L_law_867 : decode code 867 = .ok (.invokestatic 128, 3) := by decide +kernel
theorem d_L_law_870 : decode code 870 = .ok (.istore 5, 2) := by decide +kernel
theorem d_L_law_872 : decode code 872 = .ok (.aload_n 2, 1) := by decide +kernel
theorem d_L_law_873 : decode code 873 = .ok (.aload_n 0, 1) := by decide +kernel
theorem d_L_law_874 : decode code 874 = .ok (.iload 4, 2) := by decide +kernel
theorem d_L_law_876 : decode code 876 = .ok (.iconst 1, 1) := by decide +kernel
theorem d_L_law_877 : decode code 877 = .ok (.iadd, 1) := by decide +kernel
theorem d_L_law_878 : decode code 878 = .ok (.iaload, 1) := by decide +kernel
theorem d_L_law_879 : decode code 879 = .ok (.aload_n 0, 1) := by decide +kernel
theorem d_L_law_880 : decode code 880 = .ok (.iload 4, 2) := by decide +kernel
theorem d_L_law_882 : decode code 882 = .ok (.iconst 2, 1) := by decide +kernel
theorem d_L_law_883 : decode code 883 = .ok (.iadd, 1) := by decide +kernel
theorem d_L_law_884 : decode code 884 = .ok (.iaload, 1) := by decide +kernel
theorem d_L_law_885 : decode code 885 = .ok (.aload_n 0, 1) := by decide +kernel
theorem d_L_law_886 : decode code 886 = .ok (.iload 4, 2) := by decide +kernel
theorem d_L_law_888 : decode code 888 = .ok (.iconst 3, 1) := by decide +kernel
theorem d_L_law_889 : decode code 889 = .ok (.iadd, 1) := by decide +kernel
theorem d_L_law_890 : decode code 890 = .ok (.iaload, 1) := by decide +kernel
theorem d_L_law_891 : decode code 891 = .ok (.invokevirtual 131, 3) := by decide +kernel
theorem d_L_law_894 : decode code 894 = .ok (.istore 6, 2) := by decide +kernel
theorem d_L_law_896 : decode code 896 = .ok (.aload_n 2, 1) := by decide +kernel
theorem d_L_law_897 : decode code 897 = .ok (.invokevirtual 89, 3) := by decide +kernel
theorem d_L_law_900 : decode code 900 = .ok (.iload 5, 2) := by decide +kernel
theorem d_L_law_902 : decode code 902 = .ok (.if_icmp .eq 5, 3) := by decide +kernel
theorem d_L_law_907 : decode code 907 = .ok (.iload 5, 2) := by decide +kernel
theorem d_L_law_909 : decode code 909 = .ok (.ifCond .ne 15, 3) := by decide +kernel
theorem d_L_law_924 : decode code 924 = .ok (.goto 397, 3) := by decide +kernel
theorem d_L_law_912 : decode code 912 = .ok (.aload_n 3, 1) := by decide +kernel
theorem d_L_law_913 : decode code 913 = .ok (.iconst 0, 1) := by decide +kernel
theorem d_L_law_914 : decode code 914 = .ok (.laload, 1) := by decide +kernel
theorem d_L_law_915 : decode code 915 = .ok (.iload 6, 2) := by decide +kernel
theorem d_L_law_917 : decode code 917 = .ok (.i2l, 1) := by decide +kernel
theorem d_L_law_918 : decode code 918 = .ok (.lcmp, 1) := by decide +kernel
theorem d_L_law_919 : decode code 919 = .ok (.ifCond .eq 5, 3) := by decide +kernel
theorem d_L_law_922 : decode code 922 = .ok (.iconst 0, 1) := by decide +kernel
theorem d_L_law_923 : decode code 923 = .ok (.ireturn, 1) := by decide +kernel
theorem d_L_law_905 : decode code 905 = .ok (.iconst 0, 1) := by decide +kernel
theorem d_L_law_906 : decode code 906 = .ok (.ireturn, 1) := by decide +kernel
theorem d_L_law_927 : decode code 927 = .ok (.aload_n 1, 1) := by decide +kernel
theorem d_L_law_928 : decode code 928 = .ok (.aload_n 0, 1) := by decide +kernel
theorem d_L_law_929 : decode code 929 = .ok (.iload 4, 2) := by decide +kernel
theorem d_L_law_931 : decode code 931 = .ok (.iconst 1, 1) := by decide +kernel
theorem d_L_law_932 : decode code 932 = .ok (.iadd, 1) := by decide +kernel
theorem d_L_law_933 : decode code 933 = .ok (.iaload, 1) := by decide +kernel
theorem d_L_law_934 : decode code 934 = .ok (.invokevirtual 132, 3) := by decide +kernel
theorem d_L_law_937 : decode code 937 = .ok (.aload_n 2, 1) := by decide +kernel
theorem d_L_law_938 : decode code 938 = .ok (.aload_n 0, 1) := by decide +kernel
theorem d_L_law_939 : decode code 939 = .ok (.iload 4, 2) := by decide +kernel
theorem d_L_law_941 : decode code 941 = .ok (.iconst 1, 1) := by decide +kernel
theorem d_L_law_942 : decode code 942 = .ok (.iadd, 1) := by decide +kernel
theorem d_L_law_943 : decode code 943 = .ok (.iaload, 1) := by decide +kernel
theorem d_L_law_944 : decode code 944 = .ok (.invokevirtual 135, 3) := by decide +kernel
theorem d_L_law_947 : decode code 947 = .ok (.if_icmp .eq 374, 3) := by decide +kernel
theorem d_L_law_950 : decode code 950 = .ok (.iconst 0, 1) := by decide +kernel
theorem d_L_law_951 : decode code 951 = .ok (.ireturn, 1) := by decide +kernel
theorem d_L_law_952 : decode code 952 = .ok (.aload_n 1, 1) := by decide +kernel
theorem d_L_law_953 : decode code 953 = .ok (.invokevirtual 136, 3) := by decide +kernel
theorem d_L_law_956 : decode code 956 = .ok (.aload_n 2, 1) := by decide +kernel
theorem d_L_law_957 : decode code 957 = .ok (.invokevirtual 140, 3) := by decide +kernel
theorem d_L_law_960 : decode code 960 = .ok (.if_icmp .eq 361, 3) := by decide +kernel
theorem d_L_law_963 : decode code 963 = .ok (.iconst 0, 1) := by decide +kernel
theorem d_L_law_964 : decode code 964 = .ok (.ireturn, 1) := by decide +kernel
theorem d_L_law_965 : decode code 965 = .ok (.aload_n 1, 1) := by decide +kernel
theorem d_L_law_966 : decode code 966 = .ok (.aload_n 0, 1) := by decide +kernel
theorem d_L_law_967 : decode code 967 = .ok (.iload 4, 2) := by decide +kernel
theorem d_L_law_969 : decode code 969 = .ok (.iconst 1, 1) := by decide +kernel
theorem d_L_law_970 : decode code 970 = .ok (.iadd, 1) := by decide +kernel
theorem d_L_law_971 : decode code 971 = .ok (.iaload, 1) := by decide +kernel
theorem d_L_law_972 : decode code 972 = .ok (.aload_n 0, 1) := by decide +kernel
theorem d_L_law_973 : decode code 973 = .ok (.iload 4, 2) := by decide +kernel
theorem d_L_law_975 : decode code 975 = .ok (.iconst 2, 1) := by decide +kernel
theorem d_L_law_976 : decode code 976 = .ok (.iadd, 1) := by decide +kernel
theorem d_L_law_977 : decode code 977 = .ok (.iaload, 1) := by decide +kernel
theorem d_L_law_978 : decode code 978 = .ok (.aload_n 3, 1) := by decide +kernel
theorem d_L_law_979 : decode code 979 = .ok (.invokestatic 141, 3) := by decide +kernel
theorem d_L_law_982 : decode code 982 = .ok (.istore 5, 2) := by decide +kernel
theorem d_L_law_984 : decode code 984 = .ok (.aload_n 2, 1) := by decide +kernel
theorem d_L_law_985 : decode code 985 = .ok (.aload_n 0, 1) := by decide +kernel
theorem d_L_law_986 : decode code 986 = .ok (.iload 4, 2) := by decide +kernel
theorem d_L_law_988 : decode code 988 = .ok (.iconst 1, 1) := by decide +kernel
theorem d_L_law_989 : decode code 989 = .ok (.iadd, 1) := by decide +kernel
theorem d_L_law_990 : decode code 990 = .ok (.iaload, 1) := by decide +kernel
theorem d_L_law_991 : decode code 991 = .ok (.aload_n 0, 1) := by decide +kernel
theorem d_L_law_992 : decode code 992 = .ok (.iload 4, 2) := by decide +kernel
theorem d_L_law_994 : decode code 994 = .ok (.iconst 2, 1) := by decide +kernel
theorem d_L_law_995 : decode code 995 = .ok (.iadd, 1) := by decide +kernel
theorem d_L_law_996 : decode code 996 = .ok (.iaload, 1) := by decide +kernel
theorem d_L_law_997 : decode code 997 = .ok (.invokevirtual 143, 3) := by decide +kernel
theorem d_L_law_1000 : decode code 1000 = .ok (.istore 6, 2) := by decide +kernel
theorem d_L_law_1002 : decode code 1002 = .ok (.aload_n 2, 1) := by decide +kernel
theorem d_L_law_1003 : decode code 1003 = .ok (.invokevirtual 89, 3) := by decide +kernel
theorem d_L_law_1006 : decode code 1006 = .ok (.iload 5, 2) := by decide +kernel
theorem d_L_law_1008 : decode code 1008 = .ok (.if_icmp .eq 5, 3) := by decide +kernel
theorem d_L_law_1013 : decode code 1013 = .ok (.iload 5, 2) := by decide +kernel
theorem d_L_law_1015 : decode code 1015 = .ok (.ifCond .ne 15, 3) := by decide +kernel
theorem d_L_law_1030 : decode code 1030 = .ok (.goto 291, 3) := by decide +kernel
theorem d_L_law_1018 : decode code 1018 = .ok (.aload_n 3, 1) := by decide +kernel
theorem d_L_law_1019 : decode code 1019 = .ok (.iconst 0, 1) := by decide +kernel
theorem d_L_law_1020 : decode code 1020 = .ok (.laload, 1) := by decide +kernel
theorem d_L_law_1021 : decode code 1021 = .ok (.iload 6, 2) := by decide +kernel
theorem d_L_law_1023 : decode code 1023 = .ok (.i2l, 1) := by decide +kernel
theorem d_L_law_1024 : decode code 1024 = .ok (.lcmp, 1) := by decide +kernel
theorem d_L_law_1025 : decode code 1025 = .ok (.ifCond .eq 5, 3) := by decide +kernel
theorem d_L_law_1028 : decode code 1028 = .ok (.iconst 0, 1) := by decide +kernel
theorem d_L_law_1029 : decode code 1029 = .ok (.ireturn, 1) := by decide +kernel
theorem d_L_law_1011 : decode code 1011 = .ok (.iconst 0, 1) := by decide +kernel
theorem d_L_law_1012 : decode code 1012 = .ok (.ireturn, 1) := by decide +kernel
theorem d_L_law_1033 : decode code 1033 = .ok (.aload_n 1, 1) := by decide +kernel
theorem d_L_law_1034 : decode code 1034 = .ok (.aload_n 0, 1) := by decide +kernel
theorem d_L_law_1035 : decode code 1035 = .ok (.iload 4, 2) := by decide +kernel
theorem d_L_law_1037 : decode code 1037 = .ok (.iconst 1, 1) := by decide +kernel
theorem d_L_law_1038 : decode code 1038 = .ok (.iadd, 1) := by decide +kernel
theorem d_L_law_1039 : decode code 1039 = .ok (.iaload, 1) := by decide +kernel
theorem d_L_law_1040 : decode code 1040 = .ok (.aload_n 3, 1) := by decide +kernel
theorem d_L_law_1041 : decode code 1041 = .ok (.invokestatic 144, 3) := by decide +kernel
theorem d_L_law_1044 : decode code 1044 = .ok (.istore 5, 2) := by decide +kernel
theorem d_L_law_1046 : decode code 1046 = .ok (.aload_n 2, 1) := by decide +kernel
theorem d_L_law_1047 : decode code 1047 = .ok (.aload_n 0, 1) := by decide +kernel
theorem d_L_law_1048 : decode code 1048 = .ok (.iload 4, 2) := by decide +kernel
theorem d_L_law_1050 : decode code 1050 = .ok (.iconst 1, 1) := by decide +kernel
theorem d_L_law_1051 : decode code 1051 = .ok (.iadd, 1) := by decide +kernel
theorem d_L_law_1052 : decode code 1052 = .ok (.iaload, 1) := by decide +kernel
theorem d_L_law_1053 : decode code 1053 = .ok (.invokevirtual 147, 3) := by decide +kernel
theorem d_L_law_1056 : decode code 1056 = .ok (.istore 6, 2) := by decide +kernel
theorem d_L_law_1058 : decode code 1058 = .ok (.aload_n 2, 1) := by decide +kernel
theorem d_L_law_1059 : decode code 1059 = .ok (.invokevirtual 89, 3) := by decide +kernel
theorem d_L_law_1062 : decode code 1062 = .ok (.iload 5, 2) := by decide +kernel
theorem d_L_law_1064 : decode code 1064 = .ok (.if_icmp .eq 5, 3) := by decide +kernel
theorem d_L_law_1069 : decode code 1069 = .ok (.iload 5, 2) := by decide +kernel
theorem d_L_law_1071 : decode code 1071 = .ok (.ifCond .ne 15, 3) := by decide +kernel
theorem d_L_law_1086 : decode code 1086 = .ok (.goto 235, 3) := by decide +kernel
theorem d_L_law_1074 : decode code 1074 = .ok (.aload_n 3, 1) := by decide +kernel
theorem d_L_law_1075 : decode code 1075 = .ok (.iconst 0, 1) := by decide +kernel
theorem d_L_law_1076 : decode code 1076 = .ok (.laload, 1) := by decide +kernel
theorem d_L_law_1077 : decode code 1077 = .ok (.iload 6, 2) := by decide +kernel
theorem d_L_law_1079 : decode code 1079 = .ok (.i2l, 1) := by decide +kernel
theorem d_L_law_1080 : decode code 1080 = .ok (.lcmp, 1) := by decide +kernel
theorem d_L_law_1081 : decode code 1081 = .ok (.ifCond .eq 5, 3) := by decide +kernel
theorem d_L_law_1084 : decode code 1084 = .ok (.iconst 0, 1) := by decide +kernel
theorem d_L_law_1085 : decode code 1085 = .ok (.ireturn, 1) := by decide +kernel
theorem d_L_law_1067 : decode code 1067 = .ok (.iconst 0, 1) := by decide +kernel
theorem d_L_law_1068 : decode code 1068 = .ok (.ireturn, 1) := by decide +kernel
theorem d_L_law_1089 : decode code 1089 = .ok (.aload_n 1, 1) := by decide +kernel
theorem d_L_law_1090 : decode code 1090 = .ok (.aload_n 0, 1) := by decide +kernel
theorem d_L_law_1091 : decode code 1091 = .ok (.iload 4, 2) := by decide +kernel
theorem d_L_law_1093 : decode code 1093 = .ok (.iconst 1, 1) := by decide +kernel
theorem d_L_law_1094 : decode code 1094 = .ok (.iadd, 1) := by decide +kernel
theorem d_L_law_1095 : decode code 1095 = .ok (.iaload, 1) := by decide +kernel
theorem d_L_law_1096 : decode code 1096 = .ok (.aload_n 0, 1) := by decide +kernel
theorem d_L_law_1097 : decode code 1097 = .ok (.iload 4, 2) := by decide +kernel
theorem d_L_law_1099 : decode code 1099 = .ok (.iconst 2, 1) := by decide +kernel
theorem d_L_law_1100 : decode code 1100 = .ok (.iadd, 1) := by decide +kernel
theorem d_L_law_1101 : decode code 1101 = .ok (.iaload, 1) := by decide +kernel
theorem d_L_law_1102 : decode code 1102 = .ok (.ifCond .eq 7, 3) := by decide +kernel
theorem d_L_law_1109 : decode code 1109 = .ok (.iconst 0, 1) := by decide +kernel
theorem d_L_law_1110 : decode code 1110 = .ok (.aload_n 3, 1) := by decide +kernel
theorem d_L_law_1111 : decode code 1111 = .ok (.invokestatic 148, 3) := by decide +kernel
theorem d_L_law_1114 : decode code 1114 = .ok (.istore 5, 2) := by decide +kernel
theorem d_L_law_1116 : decode code 1116 = .ok (.aload_n 2, 1) := by decide +kernel
theorem d_L_law_1117 : decode code 1117 = .ok (.aload_n 0, 1) := by decide +kernel
theorem d_L_law_1118 : decode code 1118 = .ok (.iload 4, 2) := by decide +kernel
theorem d_L_law_1120 : decode code 1120 = .ok (.iconst 1, 1) := by decide +kernel
theorem d_L_law_1121 : decode code 1121 = .ok (.iadd, 1) := by decide +kernel
theorem d_L_law_1122 : decode code 1122 = .ok (.iaload, 1) := by decide +kernel
theorem d_L_law_1123 : decode code 1123 = .ok (.aload_n 0, 1) := by decide +kernel
theorem d_L_law_1124 : decode code 1124 = .ok (.iload 4, 2) := by decide +kernel
theorem d_L_law_1126 : decode code 1126 = .ok (.iconst 2, 1) := by decide +kernel
theorem d_L_law_1127 : decode code 1127 = .ok (.iadd, 1) := by decide +kernel
theorem d_L_law_1128 : decode code 1128 = .ok (.iaload, 1) := by decide +kernel
theorem d_L_law_1129 : decode code 1129 = .ok (.ifCond .eq 7, 3) := by decide +kernel
theorem d_L_law_1136 : decode code 1136 = .ok (.iconst 0, 1) := by decide +kernel
theorem d_L_law_1137 : decode code 1137 = .ok (.invokevirtual 151, 3) := by decide +kernel
theorem d_L_law_1140 : decode code 1140 = .ok (.istore 6, 2) := by decide +kernel
theorem d_L_law_1142 : decode code 1142 = .ok (.aload_n 2, 1) := by decide +kernel
theorem d_L_law_1143 : decode code 1143 = .ok (.invokevirtual 89, 3) := by decide +kernel
theorem d_L_law_1146 : decode code 1146 = .ok (.iload 5, 2) := by decide +kernel
theorem d_L_law_1148 : decode code 1148 = .ok (.if_icmp .eq 5, 3) := by decide +kernel
theorem d_L_law_1153 : decode code 1153 = .ok (.iload 5, 2) := by decide +kernel
theorem d_L_law_1155 : decode code 1155 = .ok (.ifCond .ne 15, 3) := by decide +kernel
theorem d_L_law_1170 : decode code 1170 = .ok (.goto 151, 3) := by decide +kernel
theorem d_L_law_1158 : decode code 1158 = .ok (.aload_n 3, 1) := by decide +kernel
theorem d_L_law_1159 : decode code 1159 = .ok (.iconst 0, 1) := by decide +kernel
theorem d_L_law_1160 : decode code 1160 = .ok (.laload, 1) := by decide +kernel
theorem d_L_law_1161 : decode code 1161 = .ok (.iload 6, 2) := by decide +kernel
theorem d_L_law_1163 : decode code 1163 = .ok (.i2l, 1) := by decide +kernel
theorem d_L_law_1164 : decode code 1164 = .ok (.lcmp, 1) := by decide +kernel
theorem d_L_law_1165 : decode code 1165 = .ok (.ifCond .eq 5, 3) := by decide +kernel
theorem d_L_law_1168 : decode code 1168 = .ok (.iconst 0, 1) := by decide +kernel
theorem d_L_law_1169 : decode code 1169 = .ok (.ireturn, 1) := by decide +kernel
theorem d_L_law_1151 : decode code 1151 = .ok (.iconst 0, 1) := by decide +kernel
theorem d_L_law_1152 : decode code 1152 = .ok (.ireturn, 1) := by decide +kernel
theorem d_L_law_1105 : decode code 1105 = .ok (.iconst 1, 1) := by decide +kernel
theorem d_L_law_1106 : decode code 1106 = .ok (.goto 4, 3) := by decide +kernel
theorem d_L_law_1132 : decode code 1132 = .ok (.iconst 1, 1) := by decide +kernel
theorem d_L_law_1133 : decode code 1133 = .ok (.goto 4, 3) := by decide +kernel
theorem d_L_law_1173 : decode code 1173 = .ok (.aload_n 1, 1) := by decide +kernel
theorem d_L_law_1174 : decode code 1174 = .ok (.aload_n 0, 1) := by decide +kernel
theorem d_L_law_1175 : decode code 1175 = .ok (.iload 4, 2) := by decide +kernel
theorem d_L_law_1177 : decode code 1177 = .ok (.iconst 1, 1) := by decide +kernel
theorem d_L_law_1178 : decode code 1178 = .ok (.iadd, 1) := by decide +kernel
theorem d_L_law_1179 : decode code 1179 = .ok (.iaload, 1) := by decide +kernel
theorem d_L_law_1180 : decode code 1180 = .ok (.aload_n 0, 1) := by decide +kernel
theorem d_L_law_1181 : decode code 1181 = .ok (.iload 4, 2) := by decide +kernel
theorem d_L_law_1183 : decode code 1183 = .ok (.iconst 2, 1) := by decide +kernel
theorem d_L_law_1184 : decode code 1184 = .ok (.iadd, 1) := by decide +kernel
theorem d_L_law_1185 : decode code 1185 = .ok (.iaload, 1) := by decide +kernel
theorem d_L_law_1186 : decode code 1186 = .ok (.aload_n 0, 1) := by decide +kernel
theorem d_L_law_1187 : decode code 1187 = .ok (.iload 4, 2) := by decide +kernel
theorem d_L_law_1189 : decode code 1189 = .ok (.iconst 3, 1) := by decide +kernel
theorem d_L_law_1190 : decode code 1190 = .ok (.iadd, 1) := by decide +kernel
theorem d_L_law_1191 : decode code 1191 = .ok (.iaload, 1) := by decide +kernel
theorem d_L_law_1192 : decode code 1192 = .ok (.aload_n 3, 1) := by decide +kernel
theorem d_L_law_1193 : decode code 1193 = .ok (.invokestatic 152, 3) := by decide +kernel
theorem d_L_law_1196 : decode code 1196 = .ok (.istore 5, 2) := by decide +kernel
theorem d_L_law_1198 : decode code 1198 = .ok (.aload_n 2, 1) := by decide +kernel
theorem d_L_law_1199 : decode code 1199 = .ok (.aload_n 0, 1) := by decide +kernel
theorem d_L_law_1200 : decode code 1200 = .ok (.iload 4, 2) := by decide +kernel
theorem d_L_law_1202 : decode code 1202 = .ok (.iconst 1, 1) := by decide +kernel
theorem d_L_law_1203 : decode code 1203 = .ok (.iadd, 1) := by decide +kernel
theorem d_L_law_1204 : decode code 1204 = .ok (.iaload, 1) := by decide +kernel
theorem d_L_law_1205 : decode code 1205 = .ok (.aload_n 0, 1) := by decide +kernel
theorem d_L_law_1206 : decode code 1206 = .ok (.iload 4, 2) := by decide +kernel
theorem d_L_law_1208 : decode code 1208 = .ok (.iconst 2, 1) := by decide +kernel
theorem d_L_law_1209 : decode code 1209 = .ok (.iadd, 1) := by decide +kernel
theorem d_L_law_1210 : decode code 1210 = .ok (.iaload, 1) := by decide +kernel
theorem d_L_law_1211 : decode code 1211 = .ok (.aload_n 0, 1) := by decide +kernel
theorem d_L_law_1212 : decode code 1212 = .ok (.iload 4, 2) := by decide +kernel
theorem d_L_law_1214 : decode code 1214 = .ok (.iconst 3, 1) := by decide +kernel
theorem d_L_law_1215 : decode code 1215 = .ok (.iadd, 1) := by decide +kernel
theorem d_L_law_1216 : decode code 1216 = .ok (.iaload, 1) := by decide +kernel
theorem d_L_law_1217 : decode code 1217 = .ok (.invokevirtual 154, 3) := by decide +kernel
theorem d_L_law_1220 : decode code 1220 = .ok (.istore 6, 2) := by decide +kernel
theorem d_L_law_1222 : decode code 1222 = .ok (.aload_n 2, 1) := by decide +kernel
theorem d_L_law_1223 : decode code 1223 = .ok (.invokevirtual 89, 3) := by decide +kernel
theorem d_L_law_1226 : decode code 1226 = .ok (.iload 5, 2) := by decide +kernel
theorem d_L_law_1228 : decode code 1228 = .ok (.if_icmp .eq 5, 3) := by decide +kernel
theorem d_L_law_1233 : decode code 1233 = .ok (.iload 5, 2) := by decide +kernel
theorem d_L_law_1235 : decode code 1235 = .ok (.ifCond .ne 15, 3) := by decide +kernel
theorem d_L_law_1250 : decode code 1250 = .ok (.goto 71, 3) := by decide +kernel
theorem d_L_law_1238 : decode code 1238 = .ok (.aload_n 3, 1) := by decide +kernel
theorem d_L_law_1239 : decode code 1239 = .ok (.iconst 0, 1) := by decide +kernel
theorem d_L_law_1240 : decode code 1240 = .ok (.laload, 1) := by decide +kernel
theorem d_L_law_1241 : decode code 1241 = .ok (.iload 6, 2) := by decide +kernel
theorem d_L_law_1243 : decode code 1243 = .ok (.i2l, 1) := by decide +kernel
theorem d_L_law_1244 : decode code 1244 = .ok (.lcmp, 1) := by decide +kernel
theorem d_L_law_1245 : decode code 1245 = .ok (.ifCond .eq 5, 3) := by decide +kernel
theorem d_L_law_1248 : decode code 1248 = .ok (.iconst 0, 1) := by decide +kernel
theorem d_L_law_1249 : decode code 1249 = .ok (.ireturn, 1) := by decide +kernel
theorem d_L_law_1231 : decode code 1231 = .ok (.iconst 0, 1) := by decide +kernel
theorem d_L_law_1232 : decode code 1232 = .ok (.ireturn, 1) := by decide +kernel
theorem d_L_law_1253 : decode code 1253 = .ok (.aload_n 1, 1) := by decide +kernel
theorem d_L_law_1254 : decode code 1254 = .ok (.aload_n 0, 1) := by decide +kernel
theorem d_L_law_1255 : decode code 1255 = .ok (.iload 4, 2) := by decide +kernel
theorem d_L_law_1257 : decode code 1257 = .ok (.iconst 1, 1) := by decide +kernel
theorem d_L_law_1258 : decode code 1258 = .ok (.iadd, 1) := by decide +kernel
theorem d_L_law_1259 : decode code 1259 = .ok (.iaload, 1) := by decide +kernel
theorem d_L_law_1260 : decode code 1260 = .ok (.aload_n 0, 1) := by decide +kernel
theorem d_L_law_1261 : decode code 1261 = .ok (.iload 4, 2) := by decide +kernel
theorem d_L_law_1263 : decode code 1263 = .ok (.iconst 2, 1) := by decide +kernel
theorem d_L_law_1264 : decode code 1264 = .ok (.iadd, 1) := by decide +kernel
theorem d_L_law_1265 : decode code 1265 = .ok (.iaload, 1) := by decide +kernel
theorem d_L_law_1266 : decode code 1266 = .ok (.aload_n 3, 1) := by decide +kernel
theorem d_L_law_1267 : decode code 1267 = .ok (.invokestatic 155, 3) := by decide +kernel
theorem d_L_law_1270 : decode code 1270 = .ok (.istore 5, 2) := by decide +kernel
theorem d_L_law_1272 : decode code 1272 = .ok (.aload_n 2, 1) := by decide +kernel
theorem d_L_law_1273 : decode code 1273 = .ok (.aload_n 0, 1) := by decide +kernel
theorem d_L_law_1274 : decode code 1274 = .ok (.iload 4, 2) := by decide +kernel
theorem d_L_law_1276 : decode code 1276 = .ok (.iconst 1, 1) := by decide +kernel
theorem d_L_law_1277 : decode code 1277 = .ok (.iadd, 1) := by decide +kernel
theorem d_L_law_1278 : decode code 1278 = .ok (.iaload, 1) := by decide +kernel
theorem d_L_law_1279 : decode code 1279 = .ok (.aload_n 0, 1) := by decide +kernel
theorem d_L_law_1280 : decode code 1280 = .ok (.iload 4, 2) := by decide +kernel
theorem d_L_law_1282 : decode code 1282 = .ok (.iconst 2, 1) := by decide +kernel
theorem d_L_law_1283 : decode code 1283 = .ok (.iadd, 1) := by decide +kernel
theorem d_L_law_1284 : decode code 1284 = .ok (.iaload, 1) := by decide +kernel
theorem d_L_law_1285 : decode code 1285 = .ok (.invokevirtual 157, 3) := by decide +kernel
theorem d_L_law_1288 : decode code 1288 = .ok (.istore 6, 2) := by decide +kernel
theorem d_L_law_1290 : decode code 1290 = .ok (.aload_n 2, 1) := by decide +kernel
theorem d_L_law_1291 : decode code 1291 = .ok (.invokevirtual 89, 3) := by decide +kernel
theorem d_L_law_1294 : decode code 1294 = .ok (.iload 5, 2) := by decide +kernel
theorem d_L_law_1296 : decode code 1296 = .ok (.if_icmp .eq 5, 3) := by decide +kernel
theorem d_L_law_1301 : decode code 1301 = .ok (.iload 5, 2) := by decide +kernel
theorem d_L_law_1303 : decode code 1303 = .ok (.ifCond .ne 15, 3) := by decide +kernel
theorem d_L_law_1318 : decode code 1318 = .ok (.goto 3, 3) := by decide +kernel
theorem d_L_law_1306 : decode code 1306 = .ok (.aload_n 3, 1) := by decide +kernel
theorem d_L_law_1307 : decode code 1307 = .ok (.iconst 0, 1) := by decide +kernel
theorem d_L_law_1308 : decode code 1308 = .ok (.laload, 1) := by decide +kernel
theorem d_L_law_1309 : decode code 1309 = .ok (.iload 6, 2) := by decide +kernel
theorem d_L_law_1311 : decode code 1311 = .ok (.i2l, 1) := by decide +kernel
theorem d_L_law_1312 : decode code 1312 = .ok (.lcmp, 1) := by decide +kernel
theorem d_L_law_1313 : decode code 1313 = .ok (.ifCond .eq 5, 3) := by decide +kernel
theorem d_L_law_1316 : decode code 1316 = .ok (.iconst 0, 1) := by decide +kernel
theorem d_L_law_1317 : decode code 1317 = .ok (.ireturn, 1) := by decide +kernel
theorem d_L_law_1299 : decode code 1299 = .ok (.iconst 0, 1) := by decide +kernel
theorem d_L_law_1300 : decode code 1300 = .ok (.ireturn, 1) := by decide +kernel
