/-! the law: rows, words, blocks, rule (written by gen_l.py) -/
theorem dL_law_0 : decode cL_law 0 = .ok (.new 8, 3) := by decide +kernel
theorem dL_law_3 : decode cL_law 3 = .ok (.dup, 1) := by decide +kernel
theorem dL_law_4 : decode cL_law 4 = .ok (.invokespecial 15, 3) := by decide +kernel
theorem dL_law_7 : decode cL_law 7 = .ok (.astore_n 1, 1) := by decide +kernel
theorem dL_law_8 : decode cL_law 8 = .ok (.new 16, 3) := by decide +kernel
theorem dL_law_11 : decode cL_law 11 = .ok (.dup, 1) := by decide +kernel
theorem dL_law_12 : decode cL_law 12 = .ok (.invokespecial 18, 3) := by decide +kernel
theorem dL_law_15 : decode cL_law 15 = .ok (.astore_n 2, 1) := by decide +kernel
theorem dL_law_16 : decode cL_law 16 = .ok (.iconst 1, 1) := by decide +kernel
theorem dL_law_17 : decode cL_law 17 = .ok (.newarray .long, 2) := by decide +kernel
theorem dL_law_19 : decode cL_law 19 = .ok (.astore_n 3, 1) := by decide +kernel
theorem dL_law_20 : decode cL_law 20 = .ok (.iconst 0, 1) := by decide +kernel
theorem dL_law_21 : decode cL_law 21 = .ok (.istore 4, 2) := by decide +kernel
theorem dL_law_23 : decode cL_law 23 = .ok (.iload 4, 2) := by decide +kernel
theorem dL_law_25 : decode cL_law 25 = .ok (.aload_n 0, 1) := by decide +kernel
theorem dL_law_26 : decode cL_law 26 = .ok (.arraylength, 1) := by decide +kernel
theorem dL_law_27 : decode cL_law 27 = .ok (.bipush 6, 2) := by decide +kernel
theorem dL_law_29 : decode cL_law 29 = .ok (.isub, 1) := by decide +kernel
theorem dL_law_30 : decode cL_law 30 = .ok (.if_icmp .gt 836, 3) := by decide +kernel
theorem dL_law_33 : decode cL_law 33 = .ok (.aload_n 0, 1) := by decide +kernel
theorem dL_law_34 : decode cL_law 34 = .ok (.iload 4, 2) := by decide +kernel
theorem dL_law_36 : decode cL_law 36 = .ok (.iaload, 1) := by decide +kernel
theorem dL_law_37 : decode cL_law 37 = .ok (.bipush 31, 2) := by decide +kernel
theorem dL_law_39 : decode cL_law 39 = .ok (.iand, 1) := by decide +kernel
theorem dL_law_40 : decode cL_law 40 = .ok (.tableswitch 820 0 19 #[96, 145, 170, 207, 268, 293, 330, 367, 404, 471, 509, 546, 583, 608, 633, 706, 743, 757, 782, 795], 96) := by decide +kernel
theorem dL_law_136 : decode cL_law 136 = .ok (.aload_n 1, 1) := by decide +kernel
theorem dL_law_137 : decode cL_law 137 = .ok (.aload_n 0, 1) := by decide +kernel
theorem dL_law_138 : decode cL_law 138 = .ok (.iload 4, 2) := by decide +kernel
theorem dL_law_140 : decode cL_law 140 = .ok (.iconst 1, 1) := by decide +kernel
theorem dL_law_141 : decode cL_law 141 = .ok (.iadd, 1) := by decide +kernel
theorem dL_law_142 : decode cL_law 142 = .ok (.iaload, 1) := by decide +kernel
theorem dL_law_143 : decode cL_law 143 = .ok (.aload_n 0, 1) := by decide +kernel
theorem dL_law_144 : decode cL_law 144 = .ok (.iload 4, 2) := by decide +kernel
theorem dL_law_146 : decode cL_law 146 = .ok (.iconst 2, 1) := by decide +kernel
theorem dL_law_147 : decode cL_law 147 = .ok (.iadd, 1) := by decide +kernel
theorem dL_law_148 : decode cL_law 148 = .ok (.iaload, 1) := by decide +kernel
theorem dL_law_149 : decode cL_law 149 = .ok (.aload_n 0, 1) := by decide +kernel
theorem dL_law_150 : decode cL_law 150 = .ok (.iload 4, 2) := by decide +kernel
theorem dL_law_152 : decode cL_law 152 = .ok (.iconst 3, 1) := by decide +kernel
theorem dL_law_153 : decode cL_law 153 = .ok (.iadd, 1) := by decide +kernel
theorem dL_law_154 : decode cL_law 154 = .ok (.iaload, 1) := by decide +kernel
theorem dL_law_155 : decode cL_law 155 = .ok (.invokevirtual 19, 3) := by decide +kernel
theorem dL_law_158 : decode cL_law 158 = .ok (.aload_n 2, 1) := by decide +kernel
theorem dL_law_159 : decode cL_law 159 = .ok (.aload_n 0, 1) := by decide +kernel
theorem dL_law_160 : decode cL_law 160 = .ok (.iload 4, 2) := by decide +kernel
theorem dL_law_162 : decode cL_law 162 = .ok (.iconst 1, 1) := by decide +kernel
theorem dL_law_163 : decode cL_law 163 = .ok (.iadd, 1) := by decide +kernel
theorem dL_law_164 : decode cL_law 164 = .ok (.iaload, 1) := by decide +kernel
theorem dL_law_165 : decode cL_law 165 = .ok (.aload_n 0, 1) := by decide +kernel
theorem dL_law_166 : decode cL_law 166 = .ok (.iload 4, 2) := by decide +kernel
theorem dL_law_168 : decode cL_law 168 = .ok (.iconst 2, 1) := by decide +kernel
theorem dL_law_169 : decode cL_law 169 = .ok (.iadd, 1) := by decide +kernel
theorem dL_law_170 : decode cL_law 170 = .ok (.iaload, 1) := by decide +kernel
theorem dL_law_171 : decode cL_law 171 = .ok (.aload_n 0, 1) := by decide +kernel
theorem dL_law_172 : decode cL_law 172 = .ok (.iload 4, 2) := by decide +kernel
theorem dL_law_174 : decode cL_law 174 = .ok (.iconst 3, 1) := by decide +kernel
theorem dL_law_175 : decode cL_law 175 = .ok (.iadd, 1) := by decide +kernel
theorem dL_law_176 : decode cL_law 176 = .ok (.iaload, 1) := by decide +kernel
theorem dL_law_177 : decode cL_law 177 = .ok (.invokevirtual 23, 3) := by decide +kernel
theorem dL_law_180 : decode cL_law 180 = .ok (.if_icmp .eq 680, 3) := by decide +kernel
theorem dL_law_183 : decode cL_law 183 = .ok (.iconst 0, 1) := by decide +kernel
theorem dL_law_184 : decode cL_law 184 = .ok (.ireturn, 1) := by decide +kernel
theorem dL_law_185 : decode cL_law 185 = .ok (.aload_n 1, 1) := by decide +kernel
theorem dL_law_186 : decode cL_law 186 = .ok (.aload_n 0, 1) := by decide +kernel
theorem dL_law_187 : decode cL_law 187 = .ok (.iload 4, 2) := by decide +kernel
theorem dL_law_189 : decode cL_law 189 = .ok (.iconst 1, 1) := by decide +kernel
theorem dL_law_190 : decode cL_law 190 = .ok (.iadd, 1) := by decide +kernel
theorem dL_law_191 : decode cL_law 191 = .ok (.iaload, 1) := by decide +kernel
theorem dL_law_192 : decode cL_law 192 = .ok (.invokevirtual 24, 3) := by decide +kernel
theorem dL_law_195 : decode cL_law 195 = .ok (.aload_n 2, 1) := by decide +kernel
theorem dL_law_196 : decode cL_law 196 = .ok (.aload_n 0, 1) := by decide +kernel
theorem dL_law_197 : decode cL_law 197 = .ok (.iload 4, 2) := by decide +kernel
theorem dL_law_199 : decode cL_law 199 = .ok (.iconst 1, 1) := by decide +kernel
theorem dL_law_200 : decode cL_law 200 = .ok (.iadd, 1) := by decide +kernel
theorem dL_law_201 : decode cL_law 201 = .ok (.iaload, 1) := by decide +kernel
theorem dL_law_202 : decode cL_law 202 = .ok (.invokevirtual 28, 3) := by decide +kernel
theorem dL_law_205 : decode cL_law 205 = .ok (.if_icmp .eq 655, 3) := by decide +kernel
theorem dL_law_208 : decode cL_law 208 = .ok (.iconst 0, 1) := by decide +kernel
theorem dL_law_209 : decode cL_law 209 = .ok (.ireturn, 1) := by decide +kernel
theorem dL_law_210 : decode cL_law 210 = .ok (.aload_n 1, 1) := by decide +kernel
theorem dL_law_211 : decode cL_law 211 = .ok (.aload_n 0, 1) := by decide +kernel
theorem dL_law_212 : decode cL_law 212 = .ok (.iload 4, 2) := by decide +kernel
theorem dL_law_214 : decode cL_law 214 = .ok (.iconst 1, 1) := by decide +kernel
theorem dL_law_215 : decode cL_law 215 = .ok (.iadd, 1) := by decide +kernel
theorem dL_law_216 : decode cL_law 216 = .ok (.iaload, 1) := by decide +kernel
theorem dL_law_217 : decode cL_law 217 = .ok (.aload_n 0, 1) := by decide +kernel
theorem dL_law_218 : decode cL_law 218 = .ok (.iload 4, 2) := by decide +kernel
theorem dL_law_220 : decode cL_law 220 = .ok (.iconst 2, 1) := by decide +kernel
theorem dL_law_221 : decode cL_law 221 = .ok (.iadd, 1) := by decide +kernel
theorem dL_law_222 : decode cL_law 222 = .ok (.iaload, 1) := by decide +kernel
theorem dL_law_223 : decode cL_law 223 = .ok (.invokevirtual 29, 3) := by decide +kernel
theorem dL_law_226 : decode cL_law 226 = .ok (.aload_n 2, 1) := by decide +kernel
theorem dL_law_227 : decode cL_law 227 = .ok (.aload_n 0, 1) := by decide +kernel
theorem dL_law_228 : decode cL_law 228 = .ok (.iload 4, 2) := by decide +kernel
theorem dL_law_230 : decode cL_law 230 = .ok (.iconst 1, 1) := by decide +kernel
theorem dL_law_231 : decode cL_law 231 = .ok (.iadd, 1) := by decide +kernel
theorem dL_law_232 : decode cL_law 232 = .ok (.iaload, 1) := by decide +kernel
theorem dL_law_233 : decode cL_law 233 = .ok (.aload_n 0, 1) := by decide +kernel
theorem dL_law_234 : decode cL_law 234 = .ok (.iload 4, 2) := by decide +kernel
theorem dL_law_236 : decode cL_law 236 = .ok (.iconst 2, 1) := by decide +kernel
theorem dL_law_237 : decode cL_law 237 = .ok (.iadd, 1) := by decide +kernel
theorem dL_law_238 : decode cL_law 238 = .ok (.iaload, 1) := by decide +kernel
theorem dL_law_239 : decode cL_law 239 = .ok (.invokevirtual 33, 3) := by decide +kernel
theorem dL_law_242 : decode cL_law 242 = .ok (.if_icmp .eq 618, 3) := by decide +kernel
theorem dL_law_245 : decode cL_law 245 = .ok (.iconst 0, 1) := by decide +kernel
theorem dL_law_246 : decode cL_law 246 = .ok (.ireturn, 1) := by decide +kernel
theorem dL_law_247 : decode cL_law 247 = .ok (.aload_n 1, 1) := by decide +kernel
theorem dL_law_248 : decode cL_law 248 = .ok (.aload_n 0, 1) := by decide +kernel
theorem dL_law_249 : decode cL_law 249 = .ok (.iload 4, 2) := by decide +kernel
theorem dL_law_251 : decode cL_law 251 = .ok (.iconst 1, 1) := by decide +kernel
theorem dL_law_252 : decode cL_law 252 = .ok (.iadd, 1) := by decide +kernel
theorem dL_law_253 : decode cL_law 253 = .ok (.iaload, 1) := by decide +kernel
theorem dL_law_254 : decode cL_law 254 = .ok (.aload_n 0, 1) := by decide +kernel
theorem dL_law_255 : decode cL_law 255 = .ok (.iload 4, 2) := by decide +kernel
theorem dL_law_257 : decode cL_law 257 = .ok (.iconst 2, 1) := by decide +kernel
theorem dL_law_258 : decode cL_law 258 = .ok (.iadd, 1) := by decide +kernel
theorem dL_law_259 : decode cL_law 259 = .ok (.iaload, 1) := by decide +kernel
theorem dL_law_260 : decode cL_law 260 = .ok (.aload_n 0, 1) := by decide +kernel
theorem dL_law_261 : decode cL_law 261 = .ok (.iload 4, 2) := by decide +kernel
theorem dL_law_263 : decode cL_law 263 = .ok (.iconst 3, 1) := by decide +kernel
theorem dL_law_264 : decode cL_law 264 = .ok (.iadd, 1) := by decide +kernel
theorem dL_law_265 : decode cL_law 265 = .ok (.iaload, 1) := by decide +kernel
theorem dL_law_266 : decode cL_law 266 = .ok (.aload_n 0, 1) := by decide +kernel
theorem dL_law_267 : decode cL_law 267 = .ok (.iload 4, 2) := by decide +kernel
theorem dL_law_269 : decode cL_law 269 = .ok (.iconst 4, 1) := by decide +kernel
theorem dL_law_270 : decode cL_law 270 = .ok (.iadd, 1) := by decide +kernel
theorem dL_law_271 : decode cL_law 271 = .ok (.iaload, 1) := by decide +kernel
theorem dL_law_272 : decode cL_law 272 = .ok (.invokevirtual 34, 3) := by decide +kernel
theorem dL_law_275 : decode cL_law 275 = .ok (.aload_n 2, 1) := by decide +kernel
theorem dL_law_276 : decode cL_law 276 = .ok (.aload_n 0, 1) := by decide +kernel
theorem dL_law_277 : decode cL_law 277 = .ok (.iload 4, 2) := by decide +kernel
theorem dL_law_279 : decode cL_law 279 = .ok (.iconst 1, 1) := by decide +kernel
theorem dL_law_280 : decode cL_law 280 = .ok (.iadd, 1) := by decide +kernel
theorem dL_law_281 : decode cL_law 281 = .ok (.iaload, 1) := by decide +kernel
theorem dL_law_282 : decode cL_law 282 = .ok (.aload_n 0, 1) := by decide +kernel
theorem dL_law_283 : decode cL_law 283 = .ok (.iload 4, 2) := by decide +kernel
theorem dL_law_285 : decode cL_law 285 = .ok (.iconst 2, 1) := by decide +kernel
theorem dL_law_286 : decode cL_law 286 = .ok (.iadd, 1) := by decide +kernel
theorem dL_law_287 : decode cL_law 287 = .ok (.iaload, 1) := by decide +kernel
theorem dL_law_288 : decode cL_law 288 = .ok (.aload_n 0, 1) := by decide +kernel
theorem dL_law_289 : decode cL_law 289 = .ok (.iload 4, 2) := by decide +kernel
theorem dL_law_291 : decode cL_law 291 = .ok (.iconst 3, 1) := by decide +kernel
theorem dL_law_292 : decode cL_law 292 = .ok (.iadd, 1) := by decide +kernel
theorem dL_law_293 : decode cL_law 293 = .ok (.iaload, 1) := by decide +kernel
theorem dL_law_294 : decode cL_law 294 = .ok (.aload_n 0, 1) := by decide +kernel
theorem dL_law_295 : decode cL_law 295 = .ok (.iload 4, 2) := by decide +kernel
theorem dL_law_297 : decode cL_law 297 = .ok (.iconst 4, 1) := by decide +kernel
theorem dL_law_298 : decode cL_law 298 = .ok (.iadd, 1) := by decide +kernel
theorem dL_law_299 : decode cL_law 299 = .ok (.iaload, 1) := by decide +kernel
theorem dL_law_300 : decode cL_law 300 = .ok (.invokevirtual 38, 3) := by decide +kernel
theorem dL_law_303 : decode cL_law 303 = .ok (.if_icmp .eq 557, 3) := by decide +kernel
theorem dL_law_306 : decode cL_law 306 = .ok (.iconst 0, 1) := by decide +kernel
theorem dL_law_307 : decode cL_law 307 = .ok (.ireturn, 1) := by decide +kernel
theorem dL_law_308 : decode cL_law 308 = .ok (.aload_n 1, 1) := by decide +kernel
theorem dL_law_309 : decode cL_law 309 = .ok (.aload_n 0, 1) := by decide +kernel
theorem dL_law_310 : decode cL_law 310 = .ok (.iload 4, 2) := by decide +kernel
theorem dL_law_312 : decode cL_law 312 = .ok (.iconst 1, 1) := by decide +kernel
theorem dL_law_313 : decode cL_law 313 = .ok (.iadd, 1) := by decide +kernel
theorem dL_law_314 : decode cL_law 314 = .ok (.iaload, 1) := by decide +kernel
theorem dL_law_315 : decode cL_law 315 = .ok (.invokevirtual 39, 3) := by decide +kernel
theorem dL_law_318 : decode cL_law 318 = .ok (.aload_n 2, 1) := by decide +kernel
theorem dL_law_319 : decode cL_law 319 = .ok (.aload_n 0, 1) := by decide +kernel
theorem dL_law_320 : decode cL_law 320 = .ok (.iload 4, 2) := by decide +kernel
theorem dL_law_322 : decode cL_law 322 = .ok (.iconst 1, 1) := by decide +kernel
theorem dL_law_323 : decode cL_law 323 = .ok (.iadd, 1) := by decide +kernel
theorem dL_law_324 : decode cL_law 324 = .ok (.iaload, 1) := by decide +kernel
theorem dL_law_325 : decode cL_law 325 = .ok (.invokevirtual 42, 3) := by decide +kernel
theorem dL_law_328 : decode cL_law 328 = .ok (.if_icmp .eq 532, 3) := by decide +kernel
theorem dL_law_331 : decode cL_law 331 = .ok (.iconst 0, 1) := by decide +kernel
theorem dL_law_332 : decode cL_law 332 = .ok (.ireturn, 1) := by decide +kernel
theorem dL_law_333 : decode cL_law 333 = .ok (.aload_n 1, 1) := by decide +kernel
theorem dL_law_334 : decode cL_law 334 = .ok (.aload_n 0, 1) := by decide +kernel
theorem dL_law_335 : decode cL_law 335 = .ok (.iload 4, 2) := by decide +kernel
theorem dL_law_337 : decode cL_law 337 = .ok (.iconst 1, 1) := by decide +kernel
theorem dL_law_338 : decode cL_law 338 = .ok (.iadd, 1) := by decide +kernel
theorem dL_law_339 : decode cL_law 339 = .ok (.iaload, 1) := by decide +kernel
theorem dL_law_340 : decode cL_law 340 = .ok (.aload_n 0, 1) := by decide +kernel
theorem dL_law_341 : decode cL_law 341 = .ok (.iload 4, 2) := by decide +kernel
theorem dL_law_343 : decode cL_law 343 = .ok (.iconst 2, 1) := by decide +kernel
theorem dL_law_344 : decode cL_law 344 = .ok (.iadd, 1) := by decide +kernel
theorem dL_law_345 : decode cL_law 345 = .ok (.iaload, 1) := by decide +kernel
theorem dL_law_346 : decode cL_law 346 = .ok (.invokevirtual 43, 3) := by decide +kernel
theorem dL_law_349 : decode cL_law 349 = .ok (.aload_n 2, 1) := by decide +kernel
theorem dL_law_350 : decode cL_law 350 = .ok (.aload_n 0, 1) := by decide +kernel
theorem dL_law_351 : decode cL_law 351 = .ok (.iload 4, 2) := by decide +kernel
theorem dL_law_353 : decode cL_law 353 = .ok (.iconst 1, 1) := by decide +kernel
theorem dL_law_354 : decode cL_law 354 = .ok (.iadd, 1) := by decide +kernel
theorem dL_law_355 : decode cL_law 355 = .ok (.iaload, 1) := by decide +kernel
theorem dL_law_356 : decode cL_law 356 = .ok (.aload_n 0, 1) := by decide +kernel
theorem dL_law_357 : decode cL_law 357 = .ok (.iload 4, 2) := by decide +kernel
theorem dL_law_359 : decode cL_law 359 = .ok (.iconst 2, 1) := by decide +kernel
theorem dL_law_360 : decode cL_law 360 = .ok (.iadd, 1) := by decide +kernel
theorem dL_law_361 : decode cL_law 361 = .ok (.iaload, 1) := by decide +kernel
theorem dL_law_362 : decode cL_law 362 = .ok (.invokevirtual 47, 3) := by decide +kernel
theorem dL_law_365 : decode cL_law 365 = .ok (.if_icmp .eq 495, 3) := by decide +kernel
theorem dL_law_368 : decode cL_law 368 = .ok (.iconst 0, 1) := by decide +kernel
theorem dL_law_369 : decode cL_law 369 = .ok (.ireturn, 1) := by decide +kernel
theorem dL_law_370 : decode cL_law 370 = .ok (.aload_n 1, 1) := by decide +kernel
theorem dL_law_371 : decode cL_law 371 = .ok (.aload_n 0, 1) := by decide +kernel
theorem dL_law_372 : decode cL_law 372 = .ok (.iload 4, 2) := by decide +kernel
theorem dL_law_374 : decode cL_law 374 = .ok (.iconst 1, 1) := by decide +kernel
theorem dL_law_375 : decode cL_law 375 = .ok (.iadd, 1) := by decide +kernel
theorem dL_law_376 : decode cL_law 376 = .ok (.iaload, 1) := by decide +kernel
theorem dL_law_377 : decode cL_law 377 = .ok (.aload_n 0, 1) := by decide +kernel
theorem dL_law_378 : decode cL_law 378 = .ok (.iload 4, 2) := by decide +kernel
theorem dL_law_380 : decode cL_law 380 = .ok (.iconst 2, 1) := by decide +kernel
theorem dL_law_381 : decode cL_law 381 = .ok (.iadd, 1) := by decide +kernel
theorem dL_law_382 : decode cL_law 382 = .ok (.iaload, 1) := by decide +kernel
theorem dL_law_383 : decode cL_law 383 = .ok (.invokevirtual 48, 3) := by decide +kernel
theorem dL_law_386 : decode cL_law 386 = .ok (.aload_n 2, 1) := by decide +kernel
theorem dL_law_387 : decode cL_law 387 = .ok (.aload_n 0, 1) := by decide +kernel
theorem dL_law_388 : decode cL_law 388 = .ok (.iload 4, 2) := by decide +kernel
theorem dL_law_390 : decode cL_law 390 = .ok (.iconst 1, 1) := by decide +kernel
theorem dL_law_391 : decode cL_law 391 = .ok (.iadd, 1) := by decide +kernel
theorem dL_law_392 : decode cL_law 392 = .ok (.iaload, 1) := by decide +kernel
theorem dL_law_393 : decode cL_law 393 = .ok (.aload_n 0, 1) := by decide +kernel
theorem dL_law_394 : decode cL_law 394 = .ok (.iload 4, 2) := by decide +kernel
theorem dL_law_396 : decode cL_law 396 = .ok (.iconst 2, 1) := by decide +kernel
theorem dL_law_397 : decode cL_law 397 = .ok (.iadd, 1) := by decide +kernel
theorem dL_law_398 : decode cL_law 398 = .ok (.iaload, 1) := by decide +kernel
theorem dL_law_399 : decode cL_law 399 = .ok (.invokevirtual 51, 3) := by decide +kernel
theorem dL_law_402 : decode cL_law 402 = .ok (.if_icmp .eq 458, 3) := by decide +kernel
theorem dL_law_405 : decode cL_law 405 = .ok (.iconst 0, 1) := by decide +kernel
theorem dL_law_406 : decode cL_law 406 = .ok (.ireturn, 1) := by decide +kernel
theorem dL_law_407 : decode cL_law 407 = .ok (.aload_n 1, 1) := by decide +kernel
theorem dL_law_408 : decode cL_law 408 = .ok (.aload_n 0, 1) := by decide +kernel
theorem dL_law_409 : decode cL_law 409 = .ok (.iload 4, 2) := by decide +kernel
theorem dL_law_411 : decode cL_law 411 = .ok (.iconst 1, 1) := by decide +kernel
theorem dL_law_412 : decode cL_law 412 = .ok (.iadd, 1) := by decide +kernel
theorem dL_law_413 : decode cL_law 413 = .ok (.iaload, 1) := by decide +kernel
theorem dL_law_414 : decode cL_law 414 = .ok (.aload_n 0, 1) := by decide +kernel
theorem dL_law_415 : decode cL_law 415 = .ok (.iload 4, 2) := by decide +kernel
theorem dL_law_417 : decode cL_law 417 = .ok (.iconst 2, 1) := by decide +kernel
theorem dL_law_418 : decode cL_law 418 = .ok (.iadd, 1) := by decide +kernel
theorem dL_law_419 : decode cL_law 419 = .ok (.iaload, 1) := by decide +kernel
theorem dL_law_420 : decode cL_law 420 = .ok (.invokevirtual 52, 3) := by decide +kernel
theorem dL_law_423 : decode cL_law 423 = .ok (.aload_n 2, 1) := by decide +kernel
theorem dL_law_424 : decode cL_law 424 = .ok (.aload_n 0, 1) := by decide +kernel
theorem dL_law_425 : decode cL_law 425 = .ok (.iload 4, 2) := by decide +kernel
theorem dL_law_427 : decode cL_law 427 = .ok (.iconst 1, 1) := by decide +kernel
theorem dL_law_428 : decode cL_law 428 = .ok (.iadd, 1) := by decide +kernel
theorem dL_law_429 : decode cL_law 429 = .ok (.iaload, 1) := by decide +kernel
theorem dL_law_430 : decode cL_law 430 = .ok (.aload_n 0, 1) := by decide +kernel
theorem dL_law_431 : decode cL_law 431 = .ok (.iload 4, 2) := by decide +kernel
theorem dL_law_433 : decode cL_law 433 = .ok (.iconst 2, 1) := by decide +kernel
theorem dL_law_434 : decode cL_law 434 = .ok (.iadd, 1) := by decide +kernel
theorem dL_law_435 : decode cL_law 435 = .ok (.iaload, 1) := by decide +kernel
theorem dL_law_436 : decode cL_law 436 = .ok (.invokevirtual 55, 3) := by decide +kernel
theorem dL_law_439 : decode cL_law 439 = .ok (.if_icmp .eq 421, 3) := by decide +kernel
theorem dL_law_442 : decode cL_law 442 = .ok (.iconst 0, 1) := by decide +kernel
theorem dL_law_443 : decode cL_law 443 = .ok (.ireturn, 1) := by decide +kernel
theorem dL_law_444 : decode cL_law 444 = .ok (.aload_n 1, 1) := by decide +kernel
theorem dL_law_445 : decode cL_law 445 = .ok (.aload_n 0, 1) := by decide +kernel
theorem dL_law_446 : decode cL_law 446 = .ok (.iload 4, 2) := by decide +kernel
theorem dL_law_448 : decode cL_law 448 = .ok (.iconst 1, 1) := by decide +kernel
theorem dL_law_449 : decode cL_law 449 = .ok (.iadd, 1) := by decide +kernel
theorem dL_law_450 : decode cL_law 450 = .ok (.iaload, 1) := by decide +kernel
theorem dL_law_451 : decode cL_law 451 = .ok (.aload_n 0, 1) := by decide +kernel
theorem dL_law_452 : decode cL_law 452 = .ok (.iload 4, 2) := by decide +kernel
theorem dL_law_454 : decode cL_law 454 = .ok (.iconst 2, 1) := by decide +kernel
theorem dL_law_455 : decode cL_law 455 = .ok (.iadd, 1) := by decide +kernel
theorem dL_law_456 : decode cL_law 456 = .ok (.iaload, 1) := by decide +kernel
theorem dL_law_457 : decode cL_law 457 = .ok (.aload_n 3, 1) := by decide +kernel
theorem dL_law_458 : decode cL_law 458 = .ok (.invokestatic 56, 3) := by decide +kernel
theorem dL_law_461 : decode cL_law 461 = .ok (.istore 5, 2) := by decide +kernel
theorem dL_law_463 : decode cL_law 463 = .ok (.aload_n 2, 1) := by decide +kernel
theorem dL_law_464 : decode cL_law 464 = .ok (.aload_n 0, 1) := by decide +kernel
theorem dL_law_465 : decode cL_law 465 = .ok (.iload 4, 2) := by decide +kernel
theorem dL_law_467 : decode cL_law 467 = .ok (.iconst 1, 1) := by decide +kernel
theorem dL_law_468 : decode cL_law 468 = .ok (.iadd, 1) := by decide +kernel
theorem dL_law_469 : decode cL_law 469 = .ok (.iaload, 1) := by decide +kernel
theorem dL_law_470 : decode cL_law 470 = .ok (.aload_n 0, 1) := by decide +kernel
theorem dL_law_471 : decode cL_law 471 = .ok (.iload 4, 2) := by decide +kernel
theorem dL_law_473 : decode cL_law 473 = .ok (.iconst 2, 1) := by decide +kernel
theorem dL_law_474 : decode cL_law 474 = .ok (.iadd, 1) := by decide +kernel
theorem dL_law_475 : decode cL_law 475 = .ok (.iaload, 1) := by decide +kernel
theorem dL_law_476 : decode cL_law 476 = .ok (.invokevirtual 61, 3) := by decide +kernel
theorem dL_law_479 : decode cL_law 479 = .ok (.lstore 6, 2) := by decide +kernel
theorem dL_law_481 : decode cL_law 481 = .ok (.aload_n 2, 1) := by decide +kernel
theorem dL_law_482 : decode cL_law 482 = .ok (.invokevirtual 62, 3) := by decide +kernel
theorem dL_law_485 : decode cL_law 485 = .ok (.iload 5, 2) := by decide +kernel
theorem dL_law_487 : decode cL_law 487 = .ok (.if_icmp .eq 5, 3) := by decide +kernel
theorem dL_law_490 : decode cL_law 490 = .ok (.iconst 0, 1) := by decide +kernel
theorem dL_law_491 : decode cL_law 491 = .ok (.ireturn, 1) := by decide +kernel
theorem dL_law_492 : decode cL_law 492 = .ok (.iload 5, 2) := by decide +kernel
theorem dL_law_494 : decode cL_law 494 = .ok (.ifCond .ne 14, 3) := by decide +kernel
theorem dL_law_497 : decode cL_law 497 = .ok (.aload_n 3, 1) := by decide +kernel
theorem dL_law_498 : decode cL_law 498 = .ok (.iconst 0, 1) := by decide +kernel
theorem dL_law_499 : decode cL_law 499 = .ok (.laload, 1) := by decide +kernel
theorem dL_law_500 : decode cL_law 500 = .ok (.lload 6, 2) := by decide +kernel
theorem dL_law_502 : decode cL_law 502 = .ok (.lcmp, 1) := by decide +kernel
theorem dL_law_503 : decode cL_law 503 = .ok (.ifCond .eq 5, 3) := by decide +kernel
theorem dL_law_506 : decode cL_law 506 = .ok (.iconst 0, 1) := by decide +kernel
theorem dL_law_507 : decode cL_law 507 = .ok (.ireturn, 1) := by decide +kernel
theorem dL_law_508 : decode cL_law 508 = .ok (.goto 352, 3) := by decide +kernel
theorem dL_law_511 : decode cL_law 511 = .ok (.aload_n 1, 1) := by decide +kernel
theorem dL_law_512 : decode cL_law 512 = .ok (.aload_n 0, 1) := by decide +kernel
theorem dL_law_513 : decode cL_law 513 = .ok (.iload 4, 2) := by decide +kernel
theorem dL_law_515 : decode cL_law 515 = .ok (.iconst 1, 1) := by decide +kernel
theorem dL_law_516 : decode cL_law 516 = .ok (.iadd, 1) := by decide +kernel
theorem dL_law_517 : decode cL_law 517 = .ok (.iaload, 1) := by decide +kernel
theorem dL_law_518 : decode cL_law 518 = .ok (.aload_n 0, 1) := by decide +kernel
theorem dL_law_519 : decode cL_law 519 = .ok (.iload 4, 2) := by decide +kernel
theorem dL_law_521 : decode cL_law 521 = .ok (.iconst 2, 1) := by decide +kernel
theorem dL_law_522 : decode cL_law 522 = .ok (.iadd, 1) := by decide +kernel
theorem dL_law_523 : decode cL_law 523 = .ok (.iaload, 1) := by decide +kernel
theorem dL_law_524 : decode cL_law 524 = .ok (.invokevirtual 66, 3) := by decide +kernel
theorem dL_law_527 : decode cL_law 527 = .ok (.aload_n 2, 1) := by decide +kernel
theorem dL_law_528 : decode cL_law 528 = .ok (.aload_n 0, 1) := by decide +kernel
theorem dL_law_529 : decode cL_law 529 = .ok (.iload 4, 2) := by decide +kernel
theorem dL_law_531 : decode cL_law 531 = .ok (.iconst 1, 1) := by decide +kernel
theorem dL_law_532 : decode cL_law 532 = .ok (.iadd, 1) := by decide +kernel
theorem dL_law_533 : decode cL_law 533 = .ok (.iaload, 1) := by decide +kernel
theorem dL_law_534 : decode cL_law 534 = .ok (.aload_n 0, 1) := by decide +kernel
theorem dL_law_535 : decode cL_law 535 = .ok (.iload 4, 2) := by decide +kernel
theorem dL_law_537 : decode cL_law 537 = .ok (.iconst 2, 1) := by decide +kernel
theorem dL_law_538 : decode cL_law 538 = .ok (.iadd, 1) := by decide +kernel
theorem dL_law_539 : decode cL_law 539 = .ok (.iaload, 1) := by decide +kernel
theorem dL_law_540 : decode cL_law 540 = .ok (.invokevirtual 69, 3) := by decide +kernel
theorem dL_law_543 : decode cL_law 543 = .ok (.lcmp, 1) := by decide +kernel
theorem dL_law_544 : decode cL_law 544 = .ok (.ifCond .eq 316, 3) := by decide +kernel
theorem dL_law_547 : decode cL_law 547 = .ok (.iconst 0, 1) := by decide +kernel
theorem dL_law_548 : decode cL_law 548 = .ok (.ireturn, 1) := by decide +kernel
theorem dL_law_549 : decode cL_law 549 = .ok (.aload_n 1, 1) := by decide +kernel
theorem dL_law_550 : decode cL_law 550 = .ok (.aload_n 0, 1) := by decide +kernel
theorem dL_law_551 : decode cL_law 551 = .ok (.iload 4, 2) := by decide +kernel
theorem dL_law_553 : decode cL_law 553 = .ok (.iconst 1, 1) := by decide +kernel
theorem dL_law_554 : decode cL_law 554 = .ok (.iadd, 1) := by decide +kernel
theorem dL_law_555 : decode cL_law 555 = .ok (.iaload, 1) := by decide +kernel
theorem dL_law_556 : decode cL_law 556 = .ok (.aload_n 0, 1) := by decide +kernel
theorem dL_law_557 : decode cL_law 557 = .ok (.iload 4, 2) := by decide +kernel
theorem dL_law_559 : decode cL_law 559 = .ok (.iconst 2, 1) := by decide +kernel
theorem dL_law_560 : decode cL_law 560 = .ok (.iadd, 1) := by decide +kernel
theorem dL_law_561 : decode cL_law 561 = .ok (.iaload, 1) := by decide +kernel
theorem dL_law_562 : decode cL_law 562 = .ok (.invokevirtual 70, 3) := by decide +kernel
theorem dL_law_565 : decode cL_law 565 = .ok (.aload_n 2, 1) := by decide +kernel
theorem dL_law_566 : decode cL_law 566 = .ok (.aload_n 0, 1) := by decide +kernel
theorem dL_law_567 : decode cL_law 567 = .ok (.iload 4, 2) := by decide +kernel
theorem dL_law_569 : decode cL_law 569 = .ok (.iconst 1, 1) := by decide +kernel
theorem dL_law_570 : decode cL_law 570 = .ok (.iadd, 1) := by decide +kernel
theorem dL_law_571 : decode cL_law 571 = .ok (.iaload, 1) := by decide +kernel
theorem dL_law_572 : decode cL_law 572 = .ok (.aload_n 0, 1) := by decide +kernel
theorem dL_law_573 : decode cL_law 573 = .ok (.iload 4, 2) := by decide +kernel
theorem dL_law_575 : decode cL_law 575 = .ok (.iconst 2, 1) := by decide +kernel
theorem dL_law_576 : decode cL_law 576 = .ok (.iadd, 1) := by decide +kernel
theorem dL_law_577 : decode cL_law 577 = .ok (.iaload, 1) := by decide +kernel
theorem dL_law_578 : decode cL_law 578 = .ok (.invokevirtual 73, 3) := by decide +kernel
theorem dL_law_581 : decode cL_law 581 = .ok (.if_icmp .eq 279, 3) := by decide +kernel
theorem dL_law_584 : decode cL_law 584 = .ok (.iconst 0, 1) := by decide +kernel
theorem dL_law_585 : decode cL_law 585 = .ok (.ireturn, 1) := by decide +kernel
theorem dL_law_586 : decode cL_law 586 = .ok (.aload_n 1, 1) := by decide +kernel
theorem dL_law_587 : decode cL_law 587 = .ok (.aload_n 0, 1) := by decide +kernel
theorem dL_law_588 : decode cL_law 588 = .ok (.iload 4, 2) := by decide +kernel
theorem dL_law_590 : decode cL_law 590 = .ok (.iconst 1, 1) := by decide +kernel
theorem dL_law_591 : decode cL_law 591 = .ok (.iadd, 1) := by decide +kernel
theorem dL_law_592 : decode cL_law 592 = .ok (.iaload, 1) := by decide +kernel
theorem dL_law_593 : decode cL_law 593 = .ok (.aload_n 0, 1) := by decide +kernel
theorem dL_law_594 : decode cL_law 594 = .ok (.iload 4, 2) := by decide +kernel
theorem dL_law_596 : decode cL_law 596 = .ok (.iconst 2, 1) := by decide +kernel
theorem dL_law_597 : decode cL_law 597 = .ok (.iadd, 1) := by decide +kernel
theorem dL_law_598 : decode cL_law 598 = .ok (.iaload, 1) := by decide +kernel
theorem dL_law_599 : decode cL_law 599 = .ok (.invokevirtual 74, 3) := by decide +kernel
theorem dL_law_602 : decode cL_law 602 = .ok (.aload_n 2, 1) := by decide +kernel
theorem dL_law_603 : decode cL_law 603 = .ok (.aload_n 0, 1) := by decide +kernel
theorem dL_law_604 : decode cL_law 604 = .ok (.iload 4, 2) := by decide +kernel
theorem dL_law_606 : decode cL_law 606 = .ok (.iconst 1, 1) := by decide +kernel
theorem dL_law_607 : decode cL_law 607 = .ok (.iadd, 1) := by decide +kernel
theorem dL_law_608 : decode cL_law 608 = .ok (.iaload, 1) := by decide +kernel
theorem dL_law_609 : decode cL_law 609 = .ok (.aload_n 0, 1) := by decide +kernel
theorem dL_law_610 : decode cL_law 610 = .ok (.iload 4, 2) := by decide +kernel
theorem dL_law_612 : decode cL_law 612 = .ok (.iconst 2, 1) := by decide +kernel
theorem dL_law_613 : decode cL_law 613 = .ok (.iadd, 1) := by decide +kernel
theorem dL_law_614 : decode cL_law 614 = .ok (.iaload, 1) := by decide +kernel
theorem dL_law_615 : decode cL_law 615 = .ok (.invokevirtual 77, 3) := by decide +kernel
theorem dL_law_618 : decode cL_law 618 = .ok (.if_icmp .eq 242, 3) := by decide +kernel
theorem dL_law_621 : decode cL_law 621 = .ok (.iconst 0, 1) := by decide +kernel
theorem dL_law_622 : decode cL_law 622 = .ok (.ireturn, 1) := by decide +kernel
theorem dL_law_623 : decode cL_law 623 = .ok (.aload_n 1, 1) := by decide +kernel
theorem dL_law_624 : decode cL_law 624 = .ok (.aload_n 0, 1) := by decide +kernel
theorem dL_law_625 : decode cL_law 625 = .ok (.iload 4, 2) := by decide +kernel
theorem dL_law_627 : decode cL_law 627 = .ok (.iconst 1, 1) := by decide +kernel
theorem dL_law_628 : decode cL_law 628 = .ok (.iadd, 1) := by decide +kernel
theorem dL_law_629 : decode cL_law 629 = .ok (.iaload, 1) := by decide +kernel
theorem dL_law_630 : decode cL_law 630 = .ok (.invokevirtual 78, 3) := by decide +kernel
theorem dL_law_633 : decode cL_law 633 = .ok (.aload_n 2, 1) := by decide +kernel
theorem dL_law_634 : decode cL_law 634 = .ok (.aload_n 0, 1) := by decide +kernel
theorem dL_law_635 : decode cL_law 635 = .ok (.iload 4, 2) := by decide +kernel
theorem dL_law_637 : decode cL_law 637 = .ok (.iconst 1, 1) := by decide +kernel
theorem dL_law_638 : decode cL_law 638 = .ok (.iadd, 1) := by decide +kernel
theorem dL_law_639 : decode cL_law 639 = .ok (.iaload, 1) := by decide +kernel
theorem dL_law_640 : decode cL_law 640 = .ok (.invokevirtual 82, 3) := by decide +kernel
theorem dL_law_643 : decode cL_law 643 = .ok (.if_icmp .eq 217, 3) := by decide +kernel
theorem dL_law_646 : decode cL_law 646 = .ok (.iconst 0, 1) := by decide +kernel
theorem dL_law_647 : decode cL_law 647 = .ok (.ireturn, 1) := by decide +kernel
theorem dL_law_648 : decode cL_law 648 = .ok (.aload_n 1, 1) := by decide +kernel
theorem dL_law_649 : decode cL_law 649 = .ok (.aload_n 0, 1) := by decide +kernel
theorem dL_law_650 : decode cL_law 650 = .ok (.iload 4, 2) := by decide +kernel
theorem dL_law_652 : decode cL_law 652 = .ok (.iconst 1, 1) := by decide +kernel
theorem dL_law_653 : decode cL_law 653 = .ok (.iadd, 1) := by decide +kernel
theorem dL_law_654 : decode cL_law 654 = .ok (.iaload, 1) := by decide +kernel
theorem dL_law_655 : decode cL_law 655 = .ok (.invokevirtual 83, 3) := by decide +kernel
theorem dL_law_658 : decode cL_law 658 = .ok (.aload_n 2, 1) := by decide +kernel
theorem dL_law_659 : decode cL_law 659 = .ok (.aload_n 0, 1) := by decide +kernel
theorem dL_law_660 : decode cL_law 660 = .ok (.iload 4, 2) := by decide +kernel
theorem dL_law_662 : decode cL_law 662 = .ok (.iconst 1, 1) := by decide +kernel
theorem dL_law_663 : decode cL_law 663 = .ok (.iadd, 1) := by decide +kernel
theorem dL_law_664 : decode cL_law 664 = .ok (.iaload, 1) := by decide +kernel
theorem dL_law_665 : decode cL_law 665 = .ok (.invokevirtual 86, 3) := by decide +kernel
theorem dL_law_668 : decode cL_law 668 = .ok (.if_icmp .eq 192, 3) := by decide +kernel
theorem dL_law_671 : decode cL_law 671 = .ok (.iconst 0, 1) := by decide +kernel
theorem dL_law_672 : decode cL_law 672 = .ok (.ireturn, 1) := by decide +kernel
theorem dL_law_673 : decode cL_law 673 = .ok (.aload_n 1, 1) := by decide +kernel
theorem dL_law_674 : decode cL_law 674 = .ok (.aload_n 0, 1) := by decide +kernel
theorem dL_law_675 : decode cL_law 675 = .ok (.iload 4, 2) := by decide +kernel
theorem dL_law_677 : decode cL_law 677 = .ok (.iconst 1, 1) := by decide +kernel
theorem dL_law_678 : decode cL_law 678 = .ok (.iadd, 1) := by decide +kernel
theorem dL_law_679 : decode cL_law 679 = .ok (.iaload, 1) := by decide +kernel
theorem dL_law_680 : decode cL_law 680 = .ok (.aload_n 0, 1) := by decide +kernel
theorem dL_law_681 : decode cL_law 681 = .ok (.iload 4, 2) := by decide +kernel
theorem dL_law_683 : decode cL_law 683 = .ok (.iconst 2, 1) := by decide +kernel
theorem dL_law_684 : decode cL_law 684 = .ok (.iadd, 1) := by decide +kernel
theorem dL_law_685 : decode cL_law 685 = .ok (.iaload, 1) := by decide +kernel
theorem dL_law_686 : decode cL_law 686 = .ok (.aload_n 0, 1) := by decide +kernel
theorem dL_law_687 : decode cL_law 687 = .ok (.iload 4, 2) := by decide +kernel
theorem dL_law_689 : decode cL_law 689 = .ok (.iconst 3, 1) := by decide +kernel
theorem dL_law_690 : decode cL_law 690 = .ok (.iadd, 1) := by decide +kernel
theorem dL_law_691 : decode cL_law 691 = .ok (.iaload, 1) := by decide +kernel
theorem dL_law_692 : decode cL_law 692 = .ok (.aload_n 0, 1) := by decide +kernel
theorem dL_law_693 : decode cL_law 693 = .ok (.iload 4, 2) := by decide +kernel
theorem dL_law_695 : decode cL_law 695 = .ok (.iconst 4, 1) := by decide +kernel
theorem dL_law_696 : decode cL_law 696 = .ok (.iadd, 1) := by decide +kernel
theorem dL_law_697 : decode cL_law 697 = .ok (.iaload, 1) := by decide +kernel
theorem dL_law_698 : decode cL_law 698 = .ok (.aload_n 0, 1) := by decide +kernel
theorem dL_law_699 : decode cL_law 699 = .ok (.iload 4, 2) := by decide +kernel
theorem dL_law_701 : decode cL_law 701 = .ok (.iconst 5, 1) := by decide +kernel
theorem dL_law_702 : decode cL_law 702 = .ok (.iadd, 1) := by decide +kernel
theorem dL_law_703 : decode cL_law 703 = .ok (.iaload, 1) := by decide +kernel
theorem dL_law_704 : decode cL_law 704 = .ok (.invokevirtual 87, 3) := by decide +kernel
theorem dL_law_707 : decode cL_law 707 = .ok (.aload_n 2, 1) := by decide +kernel
theorem dL_law_708 : decode cL_law 708 = .ok (.aload_n 0, 1) := by decide +kernel
theorem dL_law_709 : decode cL_law 709 = .ok (.iload 4, 2) := by decide +kernel
theorem dL_law_711 : decode cL_law 711 = .ok (.iconst 1, 1) := by decide +kernel
theorem dL_law_712 : decode cL_law 712 = .ok (.iadd, 1) := by decide +kernel
theorem dL_law_713 : decode cL_law 713 = .ok (.iaload, 1) := by decide +kernel
theorem dL_law_714 : decode cL_law 714 = .ok (.aload_n 0, 1) := by decide +kernel
theorem dL_law_715 : decode cL_law 715 = .ok (.iload 4, 2) := by decide +kernel
theorem dL_law_717 : decode cL_law 717 = .ok (.iconst 2, 1) := by decide +kernel
theorem dL_law_718 : decode cL_law 718 = .ok (.iadd, 1) := by decide +kernel
theorem dL_law_719 : decode cL_law 719 = .ok (.iaload, 1) := by decide +kernel
theorem dL_law_720 : decode cL_law 720 = .ok (.aload_n 0, 1) := by decide +kernel
theorem dL_law_721 : decode cL_law 721 = .ok (.iload 4, 2) := by decide +kernel
theorem dL_law_723 : decode cL_law 723 = .ok (.iconst 3, 1) := by decide +kernel
theorem dL_law_724 : decode cL_law 724 = .ok (.iadd, 1) := by decide +kernel
theorem dL_law_725 : decode cL_law 725 = .ok (.iaload, 1) := by decide +kernel
theorem dL_law_726 : decode cL_law 726 = .ok (.aload_n 0, 1) := by decide +kernel
theorem dL_law_727 : decode cL_law 727 = .ok (.iload 4, 2) := by decide +kernel
theorem dL_law_729 : decode cL_law 729 = .ok (.iconst 4, 1) := by decide +kernel
theorem dL_law_730 : decode cL_law 730 = .ok (.iadd, 1) := by decide +kernel
theorem dL_law_731 : decode cL_law 731 = .ok (.iaload, 1) := by decide +kernel
theorem dL_law_732 : decode cL_law 732 = .ok (.aload_n 0, 1) := by decide +kernel
theorem dL_law_733 : decode cL_law 733 = .ok (.iload 4, 2) := by decide +kernel
theorem dL_law_735 : decode cL_law 735 = .ok (.iconst 5, 1) := by decide +kernel
theorem dL_law_736 : decode cL_law 736 = .ok (.iadd, 1) := by decide +kernel
theorem dL_law_737 : decode cL_law 737 = .ok (.iaload, 1) := by decide +kernel
theorem dL_law_738 : decode cL_law 738 = .ok (.invokevirtual 91, 3) := by decide +kernel
theorem dL_law_741 : decode cL_law 741 = .ok (.if_icmp .eq 119, 3) := by decide +kernel
theorem dL_law_744 : decode cL_law 744 = .ok (.iconst 0, 1) := by decide +kernel
theorem dL_law_745 : decode cL_law 745 = .ok (.ireturn, 1) := by decide +kernel
theorem dL_law_746 : decode cL_law 746 = .ok (.aload_n 1, 1) := by decide +kernel
theorem dL_law_747 : decode cL_law 747 = .ok (.aload_n 0, 1) := by decide +kernel
theorem dL_law_748 : decode cL_law 748 = .ok (.iload 4, 2) := by decide +kernel
theorem dL_law_750 : decode cL_law 750 = .ok (.iconst 1, 1) := by decide +kernel
theorem dL_law_751 : decode cL_law 751 = .ok (.iadd, 1) := by decide +kernel
theorem dL_law_752 : decode cL_law 752 = .ok (.iaload, 1) := by decide +kernel
theorem dL_law_753 : decode cL_law 753 = .ok (.aload_n 0, 1) := by decide +kernel
theorem dL_law_754 : decode cL_law 754 = .ok (.iload 4, 2) := by decide +kernel
theorem dL_law_756 : decode cL_law 756 = .ok (.iconst 2, 1) := by decide +kernel
theorem dL_law_757 : decode cL_law 757 = .ok (.iadd, 1) := by decide +kernel
theorem dL_law_758 : decode cL_law 758 = .ok (.iaload, 1) := by decide +kernel
theorem dL_law_759 : decode cL_law 759 = .ok (.invokevirtual 92, 3) := by decide +kernel
theorem dL_law_762 : decode cL_law 762 = .ok (.aload_n 2, 1) := by decide +kernel
theorem dL_law_763 : decode cL_law 763 = .ok (.aload_n 0, 1) := by decide +kernel
theorem dL_law_764 : decode cL_law 764 = .ok (.iload 4, 2) := by decide +kernel
theorem dL_law_766 : decode cL_law 766 = .ok (.iconst 1, 1) := by decide +kernel
theorem dL_law_767 : decode cL_law 767 = .ok (.iadd, 1) := by decide +kernel
theorem dL_law_768 : decode cL_law 768 = .ok (.iaload, 1) := by decide +kernel
theorem dL_law_769 : decode cL_law 769 = .ok (.aload_n 0, 1) := by decide +kernel
theorem dL_law_770 : decode cL_law 770 = .ok (.iload 4, 2) := by decide +kernel
theorem dL_law_772 : decode cL_law 772 = .ok (.iconst 2, 1) := by decide +kernel
theorem dL_law_773 : decode cL_law 773 = .ok (.iadd, 1) := by decide +kernel
theorem dL_law_774 : decode cL_law 774 = .ok (.iaload, 1) := by decide +kernel
theorem dL_law_775 : decode cL_law 775 = .ok (.invokevirtual 95, 3) := by decide +kernel
theorem dL_law_778 : decode cL_law 778 = .ok (.if_icmp .eq 82, 3) := by decide +kernel
theorem dL_law_781 : decode cL_law 781 = .ok (.iconst 0, 1) := by decide +kernel
theorem dL_law_782 : decode cL_law 782 = .ok (.ireturn, 1) := by decide +kernel
theorem dL_law_783 : decode cL_law 783 = .ok (.aload_n 1, 1) := by decide +kernel
theorem dL_law_784 : decode cL_law 784 = .ok (.invokevirtual 96, 3) := by decide +kernel
theorem dL_law_787 : decode cL_law 787 = .ok (.aload_n 2, 1) := by decide +kernel
theorem dL_law_788 : decode cL_law 788 = .ok (.invokevirtual 100, 3) := by decide +kernel
theorem dL_law_791 : decode cL_law 791 = .ok (.lcmp, 1) := by decide +kernel
theorem dL_law_792 : decode cL_law 792 = .ok (.ifCond .eq 68, 3) := by decide +kernel
theorem dL_law_795 : decode cL_law 795 = .ok (.iconst 0, 1) := by decide +kernel
theorem dL_law_796 : decode cL_law 796 = .ok (.ireturn, 1) := by decide +kernel
theorem dL_law_797 : decode cL_law 797 = .ok (.aload_n 1, 1) := by decide +kernel
theorem dL_law_798 : decode cL_law 798 = .ok (.aload_n 0, 1) := by decide +kernel
theorem dL_law_799 : decode cL_law 799 = .ok (.iload 4, 2) := by decide +kernel
theorem dL_law_801 : decode cL_law 801 = .ok (.iconst 1, 1) := by decide +kernel
theorem dL_law_802 : decode cL_law 802 = .ok (.iadd, 1) := by decide +kernel
theorem dL_law_803 : decode cL_law 803 = .ok (.iaload, 1) := by decide +kernel
theorem dL_law_804 : decode cL_law 804 = .ok (.invokevirtual 101, 3) := by decide +kernel
theorem dL_law_807 : decode cL_law 807 = .ok (.aload_n 2, 1) := by decide +kernel
theorem dL_law_808 : decode cL_law 808 = .ok (.aload_n 0, 1) := by decide +kernel
theorem dL_law_809 : decode cL_law 809 = .ok (.iload 4, 2) := by decide +kernel
theorem dL_law_811 : decode cL_law 811 = .ok (.iconst 1, 1) := by decide +kernel
theorem dL_law_812 : decode cL_law 812 = .ok (.iadd, 1) := by decide +kernel
theorem dL_law_813 : decode cL_law 813 = .ok (.iaload, 1) := by decide +kernel
theorem dL_law_814 : decode cL_law 814 = .ok (.invokevirtual 104, 3) := by decide +kernel
theorem dL_law_817 : decode cL_law 817 = .ok (.if_icmp .eq 43, 3) := by decide +kernel
theorem dL_law_820 : decode cL_law 820 = .ok (.iconst 0, 1) := by decide +kernel
theorem dL_law_821 : decode cL_law 821 = .ok (.ireturn, 1) := by decide +kernel
theorem dL_law_822 : decode cL_law 822 = .ok (.aload_n 1, 1) := by decide +kernel
theorem dL_law_823 : decode cL_law 823 = .ok (.invokevirtual 105, 3) := by decide +kernel
theorem dL_law_826 : decode cL_law 826 = .ok (.aload_n 2, 1) := by decide +kernel
theorem dL_law_827 : decode cL_law 827 = .ok (.invokevirtual 108, 3) := by decide +kernel
theorem dL_law_830 : decode cL_law 830 = .ok (.if_icmp .eq 30, 3) := by decide +kernel
theorem dL_law_833 : decode cL_law 833 = .ok (.iconst 0, 1) := by decide +kernel
theorem dL_law_834 : decode cL_law 834 = .ok (.ireturn, 1) := by decide +kernel
theorem dL_law_835 : decode cL_law 835 = .ok (.aload_n 1, 1) := by decide +kernel
theorem dL_law_836 : decode cL_law 836 = .ok (.aload_n 0, 1) := by decide +kernel
theorem dL_law_837 : decode cL_law 837 = .ok (.iload 4, 2) := by decide +kernel
theorem dL_law_839 : decode cL_law 839 = .ok (.iconst 1, 1) := by decide +kernel
theorem dL_law_840 : decode cL_law 840 = .ok (.iadd, 1) := by decide +kernel
theorem dL_law_841 : decode cL_law 841 = .ok (.iaload, 1) := by decide +kernel
theorem dL_law_842 : decode cL_law 842 = .ok (.invokevirtual 109, 3) := by decide +kernel
theorem dL_law_845 : decode cL_law 845 = .ok (.aload_n 2, 1) := by decide +kernel
theorem dL_law_846 : decode cL_law 846 = .ok (.aload_n 0, 1) := by decide +kernel
theorem dL_law_847 : decode cL_law 847 = .ok (.iload 4, 2) := by decide +kernel
theorem dL_law_849 : decode cL_law 849 = .ok (.iconst 1, 1) := by decide +kernel
theorem dL_law_850 : decode cL_law 850 = .ok (.iadd, 1) := by decide +kernel
theorem dL_law_851 : decode cL_law 851 = .ok (.iaload, 1) := by decide +kernel
theorem dL_law_852 : decode cL_law 852 = .ok (.invokevirtual 112, 3) := by decide +kernel
theorem dL_law_855 : decode cL_law 855 = .ok (.if_icmp .eq 5, 3) := by decide +kernel
theorem dL_law_858 : decode cL_law 858 = .ok (.iconst 0, 1) := by decide +kernel
theorem dL_law_859 : decode cL_law 859 = .ok (.ireturn, 1) := by decide +kernel
theorem dL_law_860 : decode cL_law 860 = .ok (.iinc 4 6, 3) := by decide +kernel
theorem dL_law_863 : decode cL_law 863 = .ok (.goto (-840), 3) := by decide +kernel
theorem dL_law_866 : decode cL_law 866 = .ok (.iconst 1, 1) := by decide +kernel
theorem dL_law_867 : decode cL_law 867 = .ok (.ireturn, 1) := by decide +kernel
theorem wd_68 : (Jvm.Cond.classLink "TapeHallLaw" (8 : Nat) "TapeHall") ∈ TB := TB_mem 68 (by decide +kernel) (by decide +kernel)
theorem wd_69 : (Jvm.Cond.instantiable "TapeHall" (18 : Nat)) ∈ TB := TB_mem 69 (by decide +kernel) (by decide +kernel)
theorem wd_70 : (Jvm.Cond.methodLink "TapeHallLaw" (15 : Nat) ({ cls := "TapeHall", name := "<init>", desc := "()V" } : Jvm.MethodName)) ∈ TB := TB_mem 70 (by decide +kernel) (by decide +kernel)
theorem wd_71 : (Jvm.Cond.instanceMethod ({ cls := "TapeHall", name := "<init>", desc := "()V" } : Jvm.MethodName)) ∈ TB := TB_mem 71 (by decide +kernel) (by decide +kernel)
theorem wd_268 : (Jvm.Cond.methodLink "TapeHallLaw" (19 : Nat) ({ cls := "TapeHall", name := "tape", desc := "(III)I" } : Jvm.MethodName)) ∈ TB := TB_mem 268 (by decide +kernel) (by decide +kernel)
theorem wd_269 : (Jvm.Cond.instanceMethod ({ cls := "TapeHall", name := "tape", desc := "(III)I" } : Jvm.MethodName)) ∈ TB := TB_mem 269 (by decide +kernel) (by decide +kernel)
theorem wd_270 : (Jvm.Cond.selects "TapeHall" ({ cls := "TapeHall", name := "tape", desc := "(III)I" } : Jvm.MethodName) ({ cls := "TapeHall", name := "tape", desc := "(III)I" } : Jvm.MethodName)) ∈ TB := TB_mem 270 (by decide +kernel) (by decide +kernel)
theorem wd_320 : (Jvm.Cond.methodLink "TapeHallLaw" (24 : Nat) ({ cls := "TapeHall", name := "reader", desc := "(I)I" } : Jvm.MethodName)) ∈ TB := TB_mem 320 (by decide +kernel) (by decide +kernel)
theorem wd_321 : (Jvm.Cond.instanceMethod ({ cls := "TapeHall", name := "reader", desc := "(I)I" } : Jvm.MethodName)) ∈ TB := TB_mem 321 (by decide +kernel) (by decide +kernel)
theorem wd_322 : (Jvm.Cond.selects "TapeHall" ({ cls := "TapeHall", name := "reader", desc := "(I)I" } : Jvm.MethodName) ({ cls := "TapeHall", name := "reader", desc := "(I)I" } : Jvm.MethodName)) ∈ TB := TB_mem 322 (by decide +kernel) (by decide +kernel)
theorem wd_366 : (Jvm.Cond.methodLink "TapeHallLaw" (29 : Nat) ({ cls := "TapeHall", name := "settings", desc := "(II)Z" } : Jvm.MethodName)) ∈ TB := TB_mem 366 (by decide +kernel) (by decide +kernel)
theorem wd_367 : (Jvm.Cond.instanceMethod ({ cls := "TapeHall", name := "settings", desc := "(II)Z" } : Jvm.MethodName)) ∈ TB := TB_mem 367 (by decide +kernel) (by decide +kernel)
theorem wd_368 : (Jvm.Cond.selects "TapeHall" ({ cls := "TapeHall", name := "settings", desc := "(II)Z" } : Jvm.MethodName) ({ cls := "TapeHall", name := "settings", desc := "(II)Z" } : Jvm.MethodName)) ∈ TB := TB_mem 368 (by decide +kernel) (by decide +kernel)
theorem wd_370 : (Jvm.Cond.methodLink "TapeHallLaw" (34 : Nat) ({ cls := "TapeHall", name := "ask", desc := "(IIII)I" } : Jvm.MethodName)) ∈ TB := TB_mem 370 (by decide +kernel) (by decide +kernel)
theorem wd_371 : (Jvm.Cond.instanceMethod ({ cls := "TapeHall", name := "ask", desc := "(IIII)I" } : Jvm.MethodName)) ∈ TB := TB_mem 371 (by decide +kernel) (by decide +kernel)
theorem wd_372 : (Jvm.Cond.selects "TapeHall" ({ cls := "TapeHall", name := "ask", desc := "(IIII)I" } : Jvm.MethodName) ({ cls := "TapeHall", name := "ask", desc := "(IIII)I" } : Jvm.MethodName)) ∈ TB := TB_mem 372 (by decide +kernel) (by decide +kernel)
theorem wd_442 : (Jvm.Cond.methodLink "TapeHallLaw" (39 : Nat) ({ cls := "TapeHall", name := "tick", desc := "(I)I" } : Jvm.MethodName)) ∈ TB := TB_mem 442 (by decide +kernel) (by decide +kernel)
theorem wd_443 : (Jvm.Cond.instanceMethod ({ cls := "TapeHall", name := "tick", desc := "(I)I" } : Jvm.MethodName)) ∈ TB := TB_mem 443 (by decide +kernel) (by decide +kernel)
theorem wd_444 : (Jvm.Cond.selects "TapeHall" ({ cls := "TapeHall", name := "tick", desc := "(I)I" } : Jvm.MethodName) ({ cls := "TapeHall", name := "tick", desc := "(I)I" } : Jvm.MethodName)) ∈ TB := TB_mem 444 (by decide +kernel) (by decide +kernel)
theorem wd_660 : (Jvm.Cond.methodLink "TapeHallLaw" (43 : Nat) ({ cls := "TapeHall", name := "arm", desc := "(II)I" } : Jvm.MethodName)) ∈ TB := TB_mem 660 (by decide +kernel) (by decide +kernel)
theorem wd_661 : (Jvm.Cond.instanceMethod ({ cls := "TapeHall", name := "arm", desc := "(II)I" } : Jvm.MethodName)) ∈ TB := TB_mem 661 (by decide +kernel) (by decide +kernel)
theorem wd_662 : (Jvm.Cond.selects "TapeHall" ({ cls := "TapeHall", name := "arm", desc := "(II)I" } : Jvm.MethodName) ({ cls := "TapeHall", name := "arm", desc := "(II)I" } : Jvm.MethodName)) ∈ TB := TB_mem 662 (by decide +kernel) (by decide +kernel)
theorem wd_664 : (Jvm.Cond.methodLink "TapeHallLaw" (48 : Nat) ({ cls := "TapeHall", name := "rig", desc := "(II)I" } : Jvm.MethodName)) ∈ TB := TB_mem 664 (by decide +kernel) (by decide +kernel)
theorem wd_665 : (Jvm.Cond.instanceMethod ({ cls := "TapeHall", name := "rig", desc := "(II)I" } : Jvm.MethodName)) ∈ TB := TB_mem 665 (by decide +kernel) (by decide +kernel)
theorem wd_666 : (Jvm.Cond.selects "TapeHall" ({ cls := "TapeHall", name := "rig", desc := "(II)I" } : Jvm.MethodName) ({ cls := "TapeHall", name := "rig", desc := "(II)I" } : Jvm.MethodName)) ∈ TB := TB_mem 666 (by decide +kernel) (by decide +kernel)
theorem wd_668 : (Jvm.Cond.methodLink "TapeHallLaw" (52 : Nat) ({ cls := "TapeHall", name := "tapeOf", desc := "(II)I" } : Jvm.MethodName)) ∈ TB := TB_mem 668 (by decide +kernel) (by decide +kernel)
theorem wd_669 : (Jvm.Cond.instanceMethod ({ cls := "TapeHall", name := "tapeOf", desc := "(II)I" } : Jvm.MethodName)) ∈ TB := TB_mem 669 (by decide +kernel) (by decide +kernel)
theorem wd_670 : (Jvm.Cond.selects "TapeHall" ({ cls := "TapeHall", name := "tapeOf", desc := "(II)I" } : Jvm.MethodName) ({ cls := "TapeHall", name := "tapeOf", desc := "(II)I" } : Jvm.MethodName)) ∈ TB := TB_mem 670 (by decide +kernel) (by decide +kernel)
theorem wd_676 : (Jvm.Cond.methodLink "TapeHallLaw" (66 : Nat) ({ cls := "TapeHall", name := "askOf", desc := "(II)J" } : Jvm.MethodName)) ∈ TB := TB_mem 676 (by decide +kernel) (by decide +kernel)
theorem wd_677 : (Jvm.Cond.instanceMethod ({ cls := "TapeHall", name := "askOf", desc := "(II)J" } : Jvm.MethodName)) ∈ TB := TB_mem 677 (by decide +kernel) (by decide +kernel)
theorem wd_678 : (Jvm.Cond.selects "TapeHall" ({ cls := "TapeHall", name := "askOf", desc := "(II)J" } : Jvm.MethodName) ({ cls := "TapeHall", name := "askOf", desc := "(II)J" } : Jvm.MethodName)) ∈ TB := TB_mem 678 (by decide +kernel) (by decide +kernel)
theorem wd_681 : (Jvm.Cond.methodLink "TapeHallLaw" (70 : Nat) ({ cls := "TapeHall", name := "order", desc := "(II)I" } : Jvm.MethodName)) ∈ TB := TB_mem 681 (by decide +kernel) (by decide +kernel)
theorem wd_682 : (Jvm.Cond.instanceMethod ({ cls := "TapeHall", name := "order", desc := "(II)I" } : Jvm.MethodName)) ∈ TB := TB_mem 682 (by decide +kernel) (by decide +kernel)
theorem wd_683 : (Jvm.Cond.selects "TapeHall" ({ cls := "TapeHall", name := "order", desc := "(II)I" } : Jvm.MethodName) ({ cls := "TapeHall", name := "order", desc := "(II)I" } : Jvm.MethodName)) ∈ TB := TB_mem 683 (by decide +kernel) (by decide +kernel)
theorem wd_685 : (Jvm.Cond.methodLink "TapeHallLaw" (74 : Nat) ({ cls := "TapeHall", name := "told", desc := "(II)I" } : Jvm.MethodName)) ∈ TB := TB_mem 685 (by decide +kernel) (by decide +kernel)
theorem wd_686 : (Jvm.Cond.instanceMethod ({ cls := "TapeHall", name := "told", desc := "(II)I" } : Jvm.MethodName)) ∈ TB := TB_mem 686 (by decide +kernel) (by decide +kernel)
theorem wd_687 : (Jvm.Cond.selects "TapeHall" ({ cls := "TapeHall", name := "told", desc := "(II)I" } : Jvm.MethodName) ({ cls := "TapeHall", name := "told", desc := "(II)I" } : Jvm.MethodName)) ∈ TB := TB_mem 687 (by decide +kernel) (by decide +kernel)
theorem wd_694 : (Jvm.Cond.methodLink "TapeHallLaw" (78 : Nat) ({ cls := "TapeHall", name := "breaks", desc := "(I)Z" } : Jvm.MethodName)) ∈ TB := TB_mem 694 (by decide +kernel) (by decide +kernel)
theorem wd_695 : (Jvm.Cond.instanceMethod ({ cls := "TapeHall", name := "breaks", desc := "(I)Z" } : Jvm.MethodName)) ∈ TB := TB_mem 695 (by decide +kernel) (by decide +kernel)
theorem wd_696 : (Jvm.Cond.selects "TapeHall" ({ cls := "TapeHall", name := "breaks", desc := "(I)Z" } : Jvm.MethodName) ({ cls := "TapeHall", name := "breaks", desc := "(I)Z" } : Jvm.MethodName)) ∈ TB := TB_mem 696 (by decide +kernel) (by decide +kernel)
theorem wd_698 : (Jvm.Cond.methodLink "TapeHallLaw" (83 : Nat) ({ cls := "TapeHall", name := "mends", desc := "(I)Z" } : Jvm.MethodName)) ∈ TB := TB_mem 698 (by decide +kernel) (by decide +kernel)
theorem wd_699 : (Jvm.Cond.instanceMethod ({ cls := "TapeHall", name := "mends", desc := "(I)Z" } : Jvm.MethodName)) ∈ TB := TB_mem 699 (by decide +kernel) (by decide +kernel)
theorem wd_700 : (Jvm.Cond.selects "TapeHall" ({ cls := "TapeHall", name := "mends", desc := "(I)Z" } : Jvm.MethodName) ({ cls := "TapeHall", name := "mends", desc := "(I)Z" } : Jvm.MethodName)) ∈ TB := TB_mem 700 (by decide +kernel) (by decide +kernel)
theorem wd_702 : (Jvm.Cond.methodLink "TapeHallLaw" (87 : Nat) ({ cls := "TapeHall", name := "copy", desc := "(IIIII)I" } : Jvm.MethodName)) ∈ TB := TB_mem 702 (by decide +kernel) (by decide +kernel)
theorem wd_703 : (Jvm.Cond.instanceMethod ({ cls := "TapeHall", name := "copy", desc := "(IIIII)I" } : Jvm.MethodName)) ∈ TB := TB_mem 703 (by decide +kernel) (by decide +kernel)
theorem wd_704 : (Jvm.Cond.selects "TapeHall" ({ cls := "TapeHall", name := "copy", desc := "(IIIII)I" } : Jvm.MethodName) ({ cls := "TapeHall", name := "copy", desc := "(IIIII)I" } : Jvm.MethodName)) ∈ TB := TB_mem 704 (by decide +kernel) (by decide +kernel)
theorem wd_709 : (Jvm.Cond.methodLink "TapeHallLaw" (92 : Nat) ({ cls := "TapeHall", name := "item", desc := "(II)I" } : Jvm.MethodName)) ∈ TB := TB_mem 709 (by decide +kernel) (by decide +kernel)
theorem wd_710 : (Jvm.Cond.instanceMethod ({ cls := "TapeHall", name := "item", desc := "(II)I" } : Jvm.MethodName)) ∈ TB := TB_mem 710 (by decide +kernel) (by decide +kernel)
theorem wd_711 : (Jvm.Cond.selects "TapeHall" ({ cls := "TapeHall", name := "item", desc := "(II)I" } : Jvm.MethodName) ({ cls := "TapeHall", name := "item", desc := "(II)I" } : Jvm.MethodName)) ∈ TB := TB_mem 711 (by decide +kernel) (by decide +kernel)
theorem wd_722 : (Jvm.Cond.methodLink "TapeHallLaw" (96 : Nat) ({ cls := "TapeHall", name := "laid", desc := "()J" } : Jvm.MethodName)) ∈ TB := TB_mem 722 (by decide +kernel) (by decide +kernel)
theorem wd_723 : (Jvm.Cond.instanceMethod ({ cls := "TapeHall", name := "laid", desc := "()J" } : Jvm.MethodName)) ∈ TB := TB_mem 723 (by decide +kernel) (by decide +kernel)
theorem wd_724 : (Jvm.Cond.selects "TapeHall" ({ cls := "TapeHall", name := "laid", desc := "()J" } : Jvm.MethodName) ({ cls := "TapeHall", name := "laid", desc := "()J" } : Jvm.MethodName)) ∈ TB := TB_mem 724 (by decide +kernel) (by decide +kernel)
theorem wd_746 : (Jvm.Cond.methodLink "TapeHallLaw" (101 : Nat) ({ cls := "TapeHall", name := "begins", desc := "(I)I" } : Jvm.MethodName)) ∈ TB := TB_mem 746 (by decide +kernel) (by decide +kernel)
theorem wd_747 : (Jvm.Cond.instanceMethod ({ cls := "TapeHall", name := "begins", desc := "(I)I" } : Jvm.MethodName)) ∈ TB := TB_mem 747 (by decide +kernel) (by decide +kernel)
theorem wd_748 : (Jvm.Cond.selects "TapeHall" ({ cls := "TapeHall", name := "begins", desc := "(I)I" } : Jvm.MethodName) ({ cls := "TapeHall", name := "begins", desc := "(I)I" } : Jvm.MethodName)) ∈ TB := TB_mem 748 (by decide +kernel) (by decide +kernel)
theorem wd_750 : (Jvm.Cond.methodLink "TapeHallLaw" (105 : Nat) ({ cls := "TapeHall", name := "clear", desc := "()I" } : Jvm.MethodName)) ∈ TB := TB_mem 750 (by decide +kernel) (by decide +kernel)
theorem wd_751 : (Jvm.Cond.instanceMethod ({ cls := "TapeHall", name := "clear", desc := "()I" } : Jvm.MethodName)) ∈ TB := TB_mem 751 (by decide +kernel) (by decide +kernel)
theorem wd_752 : (Jvm.Cond.selects "TapeHall" ({ cls := "TapeHall", name := "clear", desc := "()I" } : Jvm.MethodName) ({ cls := "TapeHall", name := "clear", desc := "()I" } : Jvm.MethodName)) ∈ TB := TB_mem 752 (by decide +kernel) (by decide +kernel)
theorem wd_758 : (Jvm.Cond.methodLink "TapeHallLaw" (109 : Nat) ({ cls := "TapeHall", name := "count", desc := "(I)I" } : Jvm.MethodName)) ∈ TB := TB_mem 758 (by decide +kernel) (by decide +kernel)
theorem wd_759 : (Jvm.Cond.instanceMethod ({ cls := "TapeHall", name := "count", desc := "(I)I" } : Jvm.MethodName)) ∈ TB := TB_mem 759 (by decide +kernel) (by decide +kernel)
theorem wd_760 : (Jvm.Cond.selects "TapeHall" ({ cls := "TapeHall", name := "count", desc := "(I)I" } : Jvm.MethodName) ({ cls := "TapeHall", name := "count", desc := "(I)I" } : Jvm.MethodName)) ∈ TB := TB_mem 760 (by decide +kernel) (by decide +kernel)
theorem wd_766 : (Jvm.Cond.methodLink "TapeHallLaw" (56 : Nat) ({ cls := "TapeHallLaw", name := "cell", desc := "(LTapeHall;II[J)I" } : Jvm.MethodName)) ∈ TB := TB_mem 766 (by decide +kernel) (by decide +kernel)
theorem wd_767 : (Jvm.Cond.static ({ cls := "TapeHallLaw", name := "cell", desc := "(LTapeHall;II[J)I" } : Jvm.MethodName)) ∈ TB := TB_mem 767 (by decide +kernel) (by decide +kernel)
theorem wd_844 : (Jvm.Cond.classLink "TapeHallLaw" (16 : Nat) "TapeHallModel") ∈ TB := TB_mem 844 (by decide +kernel) (by decide +kernel)
theorem wd_845 : (Jvm.Cond.instantiable "TapeHallModel" (48 : Nat)) ∈ TB := TB_mem 845 (by decide +kernel) (by decide +kernel)
theorem wd_846 : (Jvm.Cond.methodLink "TapeHallLaw" (18 : Nat) ({ cls := "TapeHallModel", name := "<init>", desc := "()V" } : Jvm.MethodName)) ∈ TB := TB_mem 846 (by decide +kernel) (by decide +kernel)
theorem wd_847 : (Jvm.Cond.instanceMethod ({ cls := "TapeHallModel", name := "<init>", desc := "()V" } : Jvm.MethodName)) ∈ TB := TB_mem 847 (by decide +kernel) (by decide +kernel)
theorem wd_996 : (Jvm.Cond.methodLink "TapeHallLaw" (62 : Nat) ({ cls := "TapeHallModel", name := "thrown", desc := "()I" } : Jvm.MethodName)) ∈ TB := TB_mem 996 (by decide +kernel) (by decide +kernel)
theorem wd_997 : (Jvm.Cond.instanceMethod ({ cls := "TapeHallModel", name := "thrown", desc := "()I" } : Jvm.MethodName)) ∈ TB := TB_mem 997 (by decide +kernel) (by decide +kernel)
theorem wd_998 : (Jvm.Cond.selects "TapeHallModel" ({ cls := "TapeHallModel", name := "thrown", desc := "()I" } : Jvm.MethodName) ({ cls := "TapeHallModel", name := "thrown", desc := "()I" } : Jvm.MethodName)) ∈ TB := TB_mem 998 (by decide +kernel) (by decide +kernel)
theorem wd_1000 : (Jvm.Cond.methodLink "TapeHallLaw" (23 : Nat) ({ cls := "TapeHallModel", name := "tape", desc := "(III)I" } : Jvm.MethodName)) ∈ TB := TB_mem 1000 (by decide +kernel) (by decide +kernel)
theorem wd_1001 : (Jvm.Cond.instanceMethod ({ cls := "TapeHallModel", name := "tape", desc := "(III)I" } : Jvm.MethodName)) ∈ TB := TB_mem 1001 (by decide +kernel) (by decide +kernel)
theorem wd_1002 : (Jvm.Cond.selects "TapeHallModel" ({ cls := "TapeHallModel", name := "tape", desc := "(III)I" } : Jvm.MethodName) ({ cls := "TapeHallModel", name := "tape", desc := "(III)I" } : Jvm.MethodName)) ∈ TB := TB_mem 1002 (by decide +kernel) (by decide +kernel)
theorem wd_1007 : (Jvm.Cond.methodLink "TapeHallLaw" (61 : Nat) ({ cls := "TapeHallModel", name := "cell", desc := "(II)J" } : Jvm.MethodName)) ∈ TB := TB_mem 1007 (by decide +kernel) (by decide +kernel)
theorem wd_1008 : (Jvm.Cond.instanceMethod ({ cls := "TapeHallModel", name := "cell", desc := "(II)J" } : Jvm.MethodName)) ∈ TB := TB_mem 1008 (by decide +kernel) (by decide +kernel)
theorem wd_1009 : (Jvm.Cond.selects "TapeHallModel" ({ cls := "TapeHallModel", name := "cell", desc := "(II)J" } : Jvm.MethodName) ({ cls := "TapeHallModel", name := "cell", desc := "(II)J" } : Jvm.MethodName)) ∈ TB := TB_mem 1009 (by decide +kernel) (by decide +kernel)
theorem wd_1015 : (Jvm.Cond.methodLink "TapeHallLaw" (33 : Nat) ({ cls := "TapeHallModel", name := "settings", desc := "(II)Z" } : Jvm.MethodName)) ∈ TB := TB_mem 1015 (by decide +kernel) (by decide +kernel)
theorem wd_1016 : (Jvm.Cond.instanceMethod ({ cls := "TapeHallModel", name := "settings", desc := "(II)Z" } : Jvm.MethodName)) ∈ TB := TB_mem 1016 (by decide +kernel) (by decide +kernel)
theorem wd_1017 : (Jvm.Cond.selects "TapeHallModel" ({ cls := "TapeHallModel", name := "settings", desc := "(II)Z" } : Jvm.MethodName) ({ cls := "TapeHallModel", name := "settings", desc := "(II)Z" } : Jvm.MethodName)) ∈ TB := TB_mem 1017 (by decide +kernel) (by decide +kernel)
theorem wd_1019 : (Jvm.Cond.methodLink "TapeHallLaw" (38 : Nat) ({ cls := "TapeHallModel", name := "ask", desc := "(IIII)I" } : Jvm.MethodName)) ∈ TB := TB_mem 1019 (by decide +kernel) (by decide +kernel)
theorem wd_1020 : (Jvm.Cond.instanceMethod ({ cls := "TapeHallModel", name := "ask", desc := "(IIII)I" } : Jvm.MethodName)) ∈ TB := TB_mem 1020 (by decide +kernel) (by decide +kernel)
theorem wd_1021 : (Jvm.Cond.selects "TapeHallModel" ({ cls := "TapeHallModel", name := "ask", desc := "(IIII)I" } : Jvm.MethodName) ({ cls := "TapeHallModel", name := "ask", desc := "(IIII)I" } : Jvm.MethodName)) ∈ TB := TB_mem 1021 (by decide +kernel) (by decide +kernel)
theorem wd_1023 : (Jvm.Cond.methodLink "TapeHallLaw" (73 : Nat) ({ cls := "TapeHallModel", name := "order", desc := "(II)I" } : Jvm.MethodName)) ∈ TB := TB_mem 1023 (by decide +kernel) (by decide +kernel)
theorem wd_1024 : (Jvm.Cond.instanceMethod ({ cls := "TapeHallModel", name := "order", desc := "(II)I" } : Jvm.MethodName)) ∈ TB := TB_mem 1024 (by decide +kernel) (by decide +kernel)
theorem wd_1025 : (Jvm.Cond.selects "TapeHallModel" ({ cls := "TapeHallModel", name := "order", desc := "(II)I" } : Jvm.MethodName) ({ cls := "TapeHallModel", name := "order", desc := "(II)I" } : Jvm.MethodName)) ∈ TB := TB_mem 1025 (by decide +kernel) (by decide +kernel)
theorem wd_1051 : (Jvm.Cond.methodLink "TapeHallLaw" (77 : Nat) ({ cls := "TapeHallModel", name := "told", desc := "(II)I" } : Jvm.MethodName)) ∈ TB := TB_mem 1051 (by decide +kernel) (by decide +kernel)
theorem wd_1052 : (Jvm.Cond.instanceMethod ({ cls := "TapeHallModel", name := "told", desc := "(II)I" } : Jvm.MethodName)) ∈ TB := TB_mem 1052 (by decide +kernel) (by decide +kernel)
theorem wd_1053 : (Jvm.Cond.selects "TapeHallModel" ({ cls := "TapeHallModel", name := "told", desc := "(II)I" } : Jvm.MethodName) ({ cls := "TapeHallModel", name := "told", desc := "(II)I" } : Jvm.MethodName)) ∈ TB := TB_mem 1053 (by decide +kernel) (by decide +kernel)
theorem wd_1055 : (Jvm.Cond.methodLink "TapeHallLaw" (28 : Nat) ({ cls := "TapeHallModel", name := "reader", desc := "(I)I" } : Jvm.MethodName)) ∈ TB := TB_mem 1055 (by decide +kernel) (by decide +kernel)
theorem wd_1056 : (Jvm.Cond.instanceMethod ({ cls := "TapeHallModel", name := "reader", desc := "(I)I" } : Jvm.MethodName)) ∈ TB := TB_mem 1056 (by decide +kernel) (by decide +kernel)
theorem wd_1057 : (Jvm.Cond.selects "TapeHallModel" ({ cls := "TapeHallModel", name := "reader", desc := "(I)I" } : Jvm.MethodName) ({ cls := "TapeHallModel", name := "reader", desc := "(I)I" } : Jvm.MethodName)) ∈ TB := TB_mem 1057 (by decide +kernel) (by decide +kernel)
theorem wd_1059 : (Jvm.Cond.methodLink "TapeHallLaw" (82 : Nat) ({ cls := "TapeHallModel", name := "breaks", desc := "(I)Z" } : Jvm.MethodName)) ∈ TB := TB_mem 1059 (by decide +kernel) (by decide +kernel)
theorem wd_1060 : (Jvm.Cond.instanceMethod ({ cls := "TapeHallModel", name := "breaks", desc := "(I)Z" } : Jvm.MethodName)) ∈ TB := TB_mem 1060 (by decide +kernel) (by decide +kernel)
theorem wd_1061 : (Jvm.Cond.selects "TapeHallModel" ({ cls := "TapeHallModel", name := "breaks", desc := "(I)Z" } : Jvm.MethodName) ({ cls := "TapeHallModel", name := "breaks", desc := "(I)Z" } : Jvm.MethodName)) ∈ TB := TB_mem 1061 (by decide +kernel) (by decide +kernel)
theorem wd_1067 : (Jvm.Cond.methodLink "TapeHallLaw" (86 : Nat) ({ cls := "TapeHallModel", name := "mends", desc := "(I)Z" } : Jvm.MethodName)) ∈ TB := TB_mem 1067 (by decide +kernel) (by decide +kernel)
theorem wd_1068 : (Jvm.Cond.instanceMethod ({ cls := "TapeHallModel", name := "mends", desc := "(I)Z" } : Jvm.MethodName)) ∈ TB := TB_mem 1068 (by decide +kernel) (by decide +kernel)
theorem wd_1069 : (Jvm.Cond.selects "TapeHallModel" ({ cls := "TapeHallModel", name := "mends", desc := "(I)Z" } : Jvm.MethodName) ({ cls := "TapeHallModel", name := "mends", desc := "(I)Z" } : Jvm.MethodName)) ∈ TB := TB_mem 1069 (by decide +kernel) (by decide +kernel)
theorem wd_1071 : (Jvm.Cond.methodLink "TapeHallLaw" (42 : Nat) ({ cls := "TapeHallModel", name := "tick", desc := "(I)I" } : Jvm.MethodName)) ∈ TB := TB_mem 1071 (by decide +kernel) (by decide +kernel)
theorem wd_1072 : (Jvm.Cond.instanceMethod ({ cls := "TapeHallModel", name := "tick", desc := "(I)I" } : Jvm.MethodName)) ∈ TB := TB_mem 1072 (by decide +kernel) (by decide +kernel)
theorem wd_1073 : (Jvm.Cond.selects "TapeHallModel" ({ cls := "TapeHallModel", name := "tick", desc := "(I)I" } : Jvm.MethodName) ({ cls := "TapeHallModel", name := "tick", desc := "(I)I" } : Jvm.MethodName)) ∈ TB := TB_mem 1073 (by decide +kernel) (by decide +kernel)
theorem wd_1125 : (Jvm.Cond.methodLink "TapeHallLaw" (47 : Nat) ({ cls := "TapeHallModel", name := "arm", desc := "(II)I" } : Jvm.MethodName)) ∈ TB := TB_mem 1125 (by decide +kernel) (by decide +kernel)
theorem wd_1126 : (Jvm.Cond.instanceMethod ({ cls := "TapeHallModel", name := "arm", desc := "(II)I" } : Jvm.MethodName)) ∈ TB := TB_mem 1126 (by decide +kernel) (by decide +kernel)
theorem wd_1127 : (Jvm.Cond.selects "TapeHallModel" ({ cls := "TapeHallModel", name := "arm", desc := "(II)I" } : Jvm.MethodName) ({ cls := "TapeHallModel", name := "arm", desc := "(II)I" } : Jvm.MethodName)) ∈ TB := TB_mem 1127 (by decide +kernel) (by decide +kernel)
theorem wd_1129 : (Jvm.Cond.methodLink "TapeHallLaw" (51 : Nat) ({ cls := "TapeHallModel", name := "rig", desc := "(II)I" } : Jvm.MethodName)) ∈ TB := TB_mem 1129 (by decide +kernel) (by decide +kernel)
theorem wd_1130 : (Jvm.Cond.instanceMethod ({ cls := "TapeHallModel", name := "rig", desc := "(II)I" } : Jvm.MethodName)) ∈ TB := TB_mem 1130 (by decide +kernel) (by decide +kernel)
theorem wd_1131 : (Jvm.Cond.selects "TapeHallModel" ({ cls := "TapeHallModel", name := "rig", desc := "(II)I" } : Jvm.MethodName) ({ cls := "TapeHallModel", name := "rig", desc := "(II)I" } : Jvm.MethodName)) ∈ TB := TB_mem 1131 (by decide +kernel) (by decide +kernel)
theorem wd_1133 : (Jvm.Cond.methodLink "TapeHallLaw" (55 : Nat) ({ cls := "TapeHallModel", name := "tapeOf", desc := "(II)I" } : Jvm.MethodName)) ∈ TB := TB_mem 1133 (by decide +kernel) (by decide +kernel)
theorem wd_1134 : (Jvm.Cond.instanceMethod ({ cls := "TapeHallModel", name := "tapeOf", desc := "(II)I" } : Jvm.MethodName)) ∈ TB := TB_mem 1134 (by decide +kernel) (by decide +kernel)
theorem wd_1135 : (Jvm.Cond.selects "TapeHallModel" ({ cls := "TapeHallModel", name := "tapeOf", desc := "(II)I" } : Jvm.MethodName) ({ cls := "TapeHallModel", name := "tapeOf", desc := "(II)I" } : Jvm.MethodName)) ∈ TB := TB_mem 1135 (by decide +kernel) (by decide +kernel)
theorem wd_1141 : (Jvm.Cond.methodLink "TapeHallLaw" (69 : Nat) ({ cls := "TapeHallModel", name := "askOf", desc := "(II)J" } : Jvm.MethodName)) ∈ TB := TB_mem 1141 (by decide +kernel) (by decide +kernel)
theorem wd_1142 : (Jvm.Cond.instanceMethod ({ cls := "TapeHallModel", name := "askOf", desc := "(II)J" } : Jvm.MethodName)) ∈ TB := TB_mem 1142 (by decide +kernel) (by decide +kernel)
theorem wd_1143 : (Jvm.Cond.selects "TapeHallModel" ({ cls := "TapeHallModel", name := "askOf", desc := "(II)J" } : Jvm.MethodName) ({ cls := "TapeHallModel", name := "askOf", desc := "(II)J" } : Jvm.MethodName)) ∈ TB := TB_mem 1143 (by decide +kernel) (by decide +kernel)
theorem wd_1146 : (Jvm.Cond.methodLink "TapeHallLaw" (91 : Nat) ({ cls := "TapeHallModel", name := "copy", desc := "(IIIII)I" } : Jvm.MethodName)) ∈ TB := TB_mem 1146 (by decide +kernel) (by decide +kernel)
theorem wd_1147 : (Jvm.Cond.instanceMethod ({ cls := "TapeHallModel", name := "copy", desc := "(IIIII)I" } : Jvm.MethodName)) ∈ TB := TB_mem 1147 (by decide +kernel) (by decide +kernel)
theorem wd_1148 : (Jvm.Cond.selects "TapeHallModel" ({ cls := "TapeHallModel", name := "copy", desc := "(IIIII)I" } : Jvm.MethodName) ({ cls := "TapeHallModel", name := "copy", desc := "(IIIII)I" } : Jvm.MethodName)) ∈ TB := TB_mem 1148 (by decide +kernel) (by decide +kernel)
theorem wd_1150 : (Jvm.Cond.methodLink "TapeHallLaw" (112 : Nat) ({ cls := "TapeHallModel", name := "count", desc := "(I)I" } : Jvm.MethodName)) ∈ TB := TB_mem 1150 (by decide +kernel) (by decide +kernel)
theorem wd_1151 : (Jvm.Cond.instanceMethod ({ cls := "TapeHallModel", name := "count", desc := "(I)I" } : Jvm.MethodName)) ∈ TB := TB_mem 1151 (by decide +kernel) (by decide +kernel)
theorem wd_1152 : (Jvm.Cond.selects "TapeHallModel" ({ cls := "TapeHallModel", name := "count", desc := "(I)I" } : Jvm.MethodName) ({ cls := "TapeHallModel", name := "count", desc := "(I)I" } : Jvm.MethodName)) ∈ TB := TB_mem 1152 (by decide +kernel) (by decide +kernel)
theorem wd_1162 : (Jvm.Cond.methodLink "TapeHallLaw" (95 : Nat) ({ cls := "TapeHallModel", name := "item", desc := "(II)I" } : Jvm.MethodName)) ∈ TB := TB_mem 1162 (by decide +kernel) (by decide +kernel)
theorem wd_1163 : (Jvm.Cond.instanceMethod ({ cls := "TapeHallModel", name := "item", desc := "(II)I" } : Jvm.MethodName)) ∈ TB := TB_mem 1163 (by decide +kernel) (by decide +kernel)
theorem wd_1164 : (Jvm.Cond.selects "TapeHallModel" ({ cls := "TapeHallModel", name := "item", desc := "(II)I" } : Jvm.MethodName) ({ cls := "TapeHallModel", name := "item", desc := "(II)I" } : Jvm.MethodName)) ∈ TB := TB_mem 1164 (by decide +kernel) (by decide +kernel)
theorem wd_1166 : (Jvm.Cond.methodLink "TapeHallLaw" (100 : Nat) ({ cls := "TapeHallModel", name := "laid", desc := "()J" } : Jvm.MethodName)) ∈ TB := TB_mem 1166 (by decide +kernel) (by decide +kernel)
theorem wd_1167 : (Jvm.Cond.instanceMethod ({ cls := "TapeHallModel", name := "laid", desc := "()J" } : Jvm.MethodName)) ∈ TB := TB_mem 1167 (by decide +kernel) (by decide +kernel)
theorem wd_1168 : (Jvm.Cond.selects "TapeHallModel" ({ cls := "TapeHallModel", name := "laid", desc := "()J" } : Jvm.MethodName) ({ cls := "TapeHallModel", name := "laid", desc := "()J" } : Jvm.MethodName)) ∈ TB := TB_mem 1168 (by decide +kernel) (by decide +kernel)
theorem wd_1178 : (Jvm.Cond.methodLink "TapeHallLaw" (104 : Nat) ({ cls := "TapeHallModel", name := "begins", desc := "(I)I" } : Jvm.MethodName)) ∈ TB := TB_mem 1178 (by decide +kernel) (by decide +kernel)
theorem wd_1179 : (Jvm.Cond.instanceMethod ({ cls := "TapeHallModel", name := "begins", desc := "(I)I" } : Jvm.MethodName)) ∈ TB := TB_mem 1179 (by decide +kernel) (by decide +kernel)
theorem wd_1180 : (Jvm.Cond.selects "TapeHallModel" ({ cls := "TapeHallModel", name := "begins", desc := "(I)I" } : Jvm.MethodName) ({ cls := "TapeHallModel", name := "begins", desc := "(I)I" } : Jvm.MethodName)) ∈ TB := TB_mem 1180 (by decide +kernel) (by decide +kernel)
theorem wd_1182 : (Jvm.Cond.methodLink "TapeHallLaw" (108 : Nat) ({ cls := "TapeHallModel", name := "clear", desc := "()I" } : Jvm.MethodName)) ∈ TB := TB_mem 1182 (by decide +kernel) (by decide +kernel)
theorem wd_1183 : (Jvm.Cond.instanceMethod ({ cls := "TapeHallModel", name := "clear", desc := "()I" } : Jvm.MethodName)) ∈ TB := TB_mem 1183 (by decide +kernel) (by decide +kernel)
theorem wd_1184 : (Jvm.Cond.selects "TapeHallModel" ({ cls := "TapeHallModel", name := "clear", desc := "()I" } : Jvm.MethodName) ({ cls := "TapeHallModel", name := "clear", desc := "()I" } : Jvm.MethodName)) ∈ TB := TB_mem 1184 (by decide +kernel) (by decide +kernel)
def R_law : String := "TapeHallLaw"
def lw_P (b : Addr) (xs : List Int32) (args : Array Value) (s : State) : Prop := args = #[.ref b] ∧ s.IntsAt b xs ∧ xs.length ≤ 3072 ∧ (Jvm.Cond.and given_1 narrow_1).before args s = true
def lw_Q (_ : Array Value) (s : State) (o : Outcome) (t : State) : Prop := o = .returned (some (.int 1)) ∧ Framed s o t [] 601024 7293034
def lw_Z (below : List Frame) (a : Array Value) (s : State) : State → Prop := fun t => ∃ o, t.status = .running ∧ Ended t below o ∧ lw_Q a s o t
/-- the law's own end, with 1 on the stack, nothing written that was there before, its room as the claim has it -/
theorem lw_ret {p : Program} {l : Launch} {e : Env} {s : State} {m : MethodId} {below : List Frame} {meth : Method} {c : Code} {b : Nat} (hx : p.tables.exec = Jvm.exec) (hb : c.code = code) (hr : meth.sig.returnType = ret) (hlocks : meth.locks = false) {pc : Nat} {H : Heap} {ls : Array Slot} (hdg : decode code pc = .ok (.ireturn, 1)) : W p l e room_1 s m #[Value.ref b] below meth c H [] 601024 7293034 (lw_Z below #[Value.ref b] s) (F0 m pc ls [.int 1]) := by
  intro T hT X
  obtain ⟨fs, hret, hrun, hended, hW, hframe⟩ := X.leave (v := some (.int 1)) (hlocks := hlocks) (fun h => by rw [hr] at h; cases h)
  have hmeth' : T.vm.method? m = some meth := X.method'
  refine ⟨T.setFrames fs, ?_, .returned (some (.int 1)), hrun, hended, rfl, ⟨_, rfl⟩, hW, hframe⟩
  jvm_step X.here [X.here.top, hx, hb, hdg, hmeth', hr, ret, narrow_b1]
  (try refine ⟨rfl, ?_⟩); (try refine ⟨rfl, ?_⟩)
  first | (intro acts; rw [hret _ acts rfl rfl rfl]) | rw [hret _ _ rfl rfl rfl]
  exact Steps.refl _
/-- what holds at the law's entry: the machine, the code, the tables' words (any of lw_tbl by 'hts w (by decide +kernel)'), the script of L ints xs at the cell b, what the Statement gives of the start (any of its parts by flat_of_before) -/
def lw_At (p : Program) (s : State) (m : MethodId) (meth : Method) (c : Code) (b L : Nat) (xs : Nat → Int32) : Prop :=
  p.tables.exec = Jvm.exec ∧ c.code = code ∧ meth.sig.returnType = ret ∧ c.maxLocals = 8 ∧ s.vm.findClass R_law = some m.cls ∧ (∀ w ∈ lw_tbl, w.before #[Value.ref b] s = true) ∧ va_X b L xs s s.heap ∧ b < s.heap.size ∧ meth.locks = false ∧ (Jvm.Cond.and given_1 narrow_1).before #[Value.ref b] s = true
/-! the law's ends and its call of the catching method -/
theorem w_l1 : Cond.methodLink RL 56 yL_cell ∈ TB := List.mem_filter.mpr ⟨by decide +kernel, by decide +kernel⟩
theorem w_l2 : Cond.static yL_cell ∈ TB := List.mem_filter.mpr ⟨by decide +kernel, by decide +kernel⟩
theorem w_l3 : Cond.initialized RL ∈ TB := List.mem_filter.mpr ⟨by decide +kernel, by decide +kernel⟩
def o_bad : KT := fun _ _ _ _ _ => False
def o_fin : KT := fun _ st _ _ _ => st = []
def o_lcell (l : Launch) (D : DD) (d base sa : Nat) (K : KT) : KT := fun ls st h n1 n2 => match st with
  | .ref o :: .int y :: .int x :: .ref a :: st' => cats st' ≤ 8 ∧ n1 + 1 ≤ 601024 ∧ n2 + 6 ≤ 7293034 ∧ Lc l D d base sa [.ref a, .int x, .int y, .ref o] h (fun r h' => K ls (r ++ st') h' (n1 + 1) (n2 + 6))
  | _ => False
section ZLAWR
variable {p : Program} {l : Launch} {e : Env} {s : State} {m : MethodId} {args : Array Value} {below : List Frame} {meth : Method} {c : Code} {Q : State → Prop} {D : DD} {base sa d b : Nat} {Rl0 : Nat → Nat → Prop} {K : KT}
theorem s_bad {R : Room} {nL pc : Nat} : Sd p l e R s m args below meth c Q D base nL Rl0 pc o_bad := fun _ _ _ _ _ q => q.elim
theorem s_fin (C : CX p room_1 s m args c D base 8 cL_law RL d) (h1 : meth.locks = false) (h2 : meth.sig.returnType = ret) (hb : base = s.heap.size) (hargs : args = #[Value.ref b]) : Sd p l e room_1 s m args below meth c (lw_Z below args s) D base 8 Rl0 866 o_fin := by
  intro ls st h n1 n2 ho z1 z2 Rl H locs lsC stC hm hr hv hl hS
  subst hargs
  rw [show st = [] from ho] at hv
  rw [hv.nil']
  have k : W p l e room_1 s m #[Value.ref b] below meth c H [] 601024 7293034 (lw_Z below #[Value.ref b] s) (F0 m 867 lsC [.int 1]) := lw_ret C.1 C.2.1 h2 h1 dL_law_867
  have k2 : W p l e room_1 s m #[Value.ref b] below meth c H locs 601024 7293034 (lw_Z below #[Value.ref b] s) (F0 m 867 lsC [.int 1]) := fun T hT X => k T hT (Stand.dropFresh (locs := []) (J := locs) X (fun x hx => by
    have q := hS.2.2 x hx
    rw [← hb]
    exact q))
  exact lv_iconst C.1 C.2.1 dL_law_866 rfl (W.widen (k := 601024) (n := 7293034) z1 z2 k2)
set_option maxHeartbeats 1000000 in
theorem s_lcell (C : CX p room_1 s m args c D base 8 cL_law RL d) (hX : XTh base sa s) (hk : Sd p l e room_1 s m args below meth c Q D base 8 Rl0 461 K) : Sd p l e room_1 s m args below meth c Q D base 8 Rl0 458 (o_lcell l D d base sa K) := by
  intro ls st h n1 n2 ho z1 z2 Rl H locs lsC stC hm hr hv hl hS
  unfold o_lcell at ho
  split at ho
  · rename_i o y x a st'
    obtain ⟨g1, g2, g3, ho⟩ := ho
    obtain ⟨a2, v1, rfl, ha2, hv1⟩ := hv.ref'
    obtain ⟨v2, rfl, hv2⟩ := hv1.int'
    obtain ⟨v3, rfl, hv3⟩ := hv2.int'
    obtain ⟨a1, v4, rfl, ha1, hv4⟩ := hv3.ref'
    have run := vx_runSX (As := [.ref a1, .int x, .int y, .ref a2]) (rest := v4) (g := F0 m 458 lsC (.ref a2 :: .int y :: .int x :: .ref a1 :: v4)) (H := H) (locs := locs) (cells := n1) (slots := n2) (e := e) (below := below) (meth := meth) C.fix (ho Rl [.ref a1, .int x, .int y, .ref a2] ⟨⟨a1, rfl, ha1⟩, rfl, rfl, ⟨a2, rfl, ha2⟩, trivial⟩)
      (vx_cwSW (index := 56) (own := RL) (hh := [(0, 9, 12, 13)]) (maxL := 5) (bytes := cL_cell) (ret := some .int) 4 C.2.2.2.2.1 (TB_good (fun w hw => by
        unfold va_wsS at hw
        rcases List.mem_append.mp hw with hw | hw
        · simp only [List.mem_cons, List.not_mem_nil, or_false] at hw
          rcases hw with rfl | rfl | rfl
          · exact w_l1
          · exact w_l2
          · exact w_l3
        · rcases List.mem_cons.mp hw with rfl | hw
          · exact w_c11
          · exact hw)) rfl rfl rfl ⟨by decide +kernel, by decide +kernel, by decide +kernel⟩ ⟨C.2.2.2.2.2.2.2.1, by have h1 := C.2.2.2.2.2.2.2.2; show 8 + (5 + 11) + 40 * d ≤ room_1.locals; omega⟩)
      (pre_x C hX hr hS) rfl rfl hl.1 rfl (catst (lsC := lsC) (m := m) (pc := 458) (st2 := v4) hv4 g1) dL_law_458 ⟨by show n1 + 1 ≤ 601024; omega, by show n2 + 6 ≤ 7293034; omega⟩
    intro T hT X
    rcases run T hT X with ⟨v, st₀, t, T', L, h0, X', hL, e1, e2, hQ, hgo⟩ | ⟨q, st₀, t, T', L, E, ce, h0, X', hL, e1, e2, hXC, -⟩
    · obtain ⟨⟨Rl', r, rC, h', hmm, ho, hvl, hrr, hq⟩, hz, hk2⟩ := hQ
      cases ho
      rw [h0] at hz hk2
      have hal : t.vm.Alike s.vm := by rw [← e2]; exact X'.warmed.alike.symm
      obtain ⟨t2, b1, b2⟩ := hk ls (r ++ st') h' (n1 + 1) (n2 + 6) hq (by show n1 + 1 ≤ 601024; omega) (by show n2 + 6 ≤ 7293034; omega) Rl' T'.heap (locs ++ L) lsC (v.toList ++ v4) (fun i a z => hmm i a (hm i a z)) (by rw [e1]; exact hrr.moved hal) (hvl.app (hv4.mono hmm)) (hl.mono hmm) ⟨Nat.le_trans hS.1 (by rw [e1]; exact hz), fun q h1 h2 => by rw [e1, hk2 q (Nat.lt_of_lt_of_le h1 hS.1) h2]; exact hS.2.1 q h1 h2, fun q hq => by
        rcases List.mem_append.mp hq with h | h
        · exact hS.2.2 q h
        · exact hL q h⟩ T' rfl X'
      exact ⟨t2, hgo t2 b1, b2⟩
    · exact hXC.elim
  · exact ho.elim
end ZLAWR
def B_L_law_0 (l : Launch) (D : DD) (d base sa : Nat) (X : Nat → KT) : KT := (o_new 601024 7293034 6 18 (o_dup (o_invI 601024 7293034 19 7085 (Cn l D d yX6_init cX6_init 1 none 19 7085) 0 (o_as 1 (o_new 601024 7293034 7 48 (o_dup (o_invI 601024 7293034 35 2092 (Cn l D d yX7_init cX7_init 1 none 35 2092) 0 (o_as 2 (o_ic 1 (o_newa 601024 7293034 90 (o_as 3 (o_ic 0 (o_is 4 (X 23))))))))))))))
def B_L_law_23 (l : Launch) (D : DD) (d base sa : Nat) (X : Nat → KT) : KT := (o_il 4 (o_al 0 (o_alen (o_ic 6 (o_ii (fun x y => x - y) (o_ic2 (fun x y => y < x) (X 866) (o_al 0 (o_il 4 (o_iald (o_ic 31 (o_ii (fun x y => x &&& y) (o_tsw 0 19 860 [136, 185, 210, 247, 308, 333, 370, 407, 444, 511, 549, 586, 623, 648, 673, 746, 783, 797, 822, 835] X))))))))))))
def B_L_law_136 (l : Launch) (D : DD) (d base sa : Nat) (X : Nat → KT) : KT := (o_al 1 (o_al 0 (o_il 4 (o_ic 1 (o_ii (fun x y => x + y) (o_iald (o_al 0 (o_il 4 (o_ic 2 (o_ii (fun x y => x + y) (o_iald (o_al 0 (o_il 4 (o_ic 3 (o_ii (fun x y => x + y) (o_iald (o_invV 601024 7293034 2 69 6 (Cn l D d yX6_tape cX6_tape 5 (some FieldType.int) 2 69) 3 (o_al 2 (o_al 0 (o_il 4 (o_ic 1 (o_ii (fun x y => x + y) (o_iald (o_al 0 (o_il 4 (o_ic 2 (o_ii (fun x y => x + y) (o_iald (o_al 0 (o_il 4 (o_ic 3 (o_ii (fun x y => x + y) (o_iald (o_invV 601024 7293034 0 0 7 (Cn l D d yX7_tape cX7_tape 6 (some FieldType.int) 0 0) 3 (o_ic2 (fun x y => x = y) (X 860) o_bad)))))))))))))))))))))))))))))))))))
def B_L_law_185 (l : Launch) (D : DD) (d base sa : Nat) (X : Nat → KT) : KT := (o_al 1 (o_al 0 (o_il 4 (o_ic 1 (o_ii (fun x y => x + y) (o_iald (o_invV 601024 7293034 2 16 6 (Cn l D d yX6_reader cX6_reader 3 (some FieldType.int) 2 16) 1 (o_al 2 (o_al 0 (o_il 4 (o_ic 1 (o_ii (fun x y => x + y) (o_iald (o_invV 601024 7293034 0 0 7 (Cn l D d yX7_reader cX7_reader 4 (some FieldType.int) 0 0) 1 (o_ic2 (fun x y => x = y) (X 860) o_bad)))))))))))))))
def B_L_law_210 (l : Launch) (D : DD) (d base sa : Nat) (X : Nat → KT) : KT := (o_al 1 (o_al 0 (o_il 4 (o_ic 1 (o_ii (fun x y => x + y) (o_iald (o_al 0 (o_il 4 (o_ic 2 (o_ii (fun x y => x + y) (o_iald (o_invV 601024 7293034 0 0 6 (Cn l D d yX6_settings cX6_settings 3 (some FieldType.boolean) 0 0) 2 (o_al 2 (o_al 0 (o_il 4 (o_ic 1 (o_ii (fun x y => x + y) (o_iald (o_al 0 (o_il 4 (o_ic 2 (o_ii (fun x y => x + y) (o_iald (o_invV 601024 7293034 0 0 7 (Cn l D d yX7_settings cX7_settings 3 (some FieldType.boolean) 0 0) 2 (o_ic2 (fun x y => x = y) (X 860) o_bad)))))))))))))))))))))))))
def B_L_law_247 (l : Launch) (D : DD) (d base sa : Nat) (X : Nat → KT) : KT := (o_al 1 (o_al 0 (o_il 4 (o_ic 1 (o_ii (fun x y => x + y) (o_iald (o_al 0 (o_il 4 (o_ic 2 (o_ii (fun x y => x + y) (o_iald (o_al 0 (o_il 4 (o_ic 3 (o_ii (fun x y => x + y) (o_iald (o_al 0 (o_il 4 (o_ic 4 (o_ii (fun x y => x + y) (o_iald (o_invV 601024 7293034 1 10 6 (Cn l D d yX6_ask cX6_ask 8 (some FieldType.int) 1 10) 4 (o_al 2 (o_al 0 (o_il 4 (o_ic 1 (o_ii (fun x y => x + y) (o_iald (o_al 0 (o_il 4 (o_ic 2 (o_ii (fun x y => x + y) (o_iald (o_al 0 (o_il 4 (o_ic 3 (o_ii (fun x y => x + y) (o_iald (o_al 0 (o_il 4 (o_ic 4 (o_ii (fun x y => x + y) (o_iald (o_invV 601024 7293034 0 0 7 (Cn l D d yX7_ask cX7_ask 6 (some FieldType.int) 0 0) 4 (o_ic2 (fun x y => x = y) (X 860) o_bad)))))))))))))))))))))))))))))))))))))))))))))
def B_L_law_308 (l : Launch) (D : DD) (d base sa : Nat) (X : Nat → KT) : KT := (o_al 1 (o_al 0 (o_il 4 (o_ic 1 (o_ii (fun x y => x + y) (o_iald (o_invV 601024 7293034 0 0 6 (Cn l D d yX6_tick cX6_tick 5 (some FieldType.int) 0 0) 1 (o_al 2 (o_al 0 (o_il 4 (o_ic 1 (o_ii (fun x y => x + y) (o_iald (o_invV 601024 7293034 0 0 7 (Cn l D d yX7_tick cX7_tick 5 (some FieldType.int) 0 0) 1 (o_ic2 (fun x y => x = y) (X 860) o_bad)))))))))))))))
def B_L_law_333 (l : Launch) (D : DD) (d base sa : Nat) (X : Nat → KT) : KT := (o_al 1 (o_al 0 (o_il 4 (o_ic 1 (o_ii (fun x y => x + y) (o_iald (o_al 0 (o_il 4 (o_ic 2 (o_ii (fun x y => x + y) (o_iald (o_invV 601024 7293034 0 0 6 (Cn l D d yX6_arm cX6_arm 4 (some FieldType.int) 0 0) 2 (o_al 2 (o_al 0 (o_il 4 (o_ic 1 (o_ii (fun x y => x + y) (o_iald (o_al 0 (o_il 4 (o_ic 2 (o_ii (fun x y => x + y) (o_iald (o_invV 601024 7293034 0 0 7 (Cn l D d yX7_arm cX7_arm 3 (some FieldType.int) 0 0) 2 (o_ic2 (fun x y => x = y) (X 860) o_bad)))))))))))))))))))))))))
def B_L_law_370 (l : Launch) (D : DD) (d base sa : Nat) (X : Nat → KT) : KT := (o_al 1 (o_al 0 (o_il 4 (o_ic 1 (o_ii (fun x y => x + y) (o_iald (o_al 0 (o_il 4 (o_ic 2 (o_ii (fun x y => x + y) (o_iald (o_invV 601024 7293034 0 0 6 (Cn l D d yX6_rig cX6_rig 4 (some FieldType.int) 0 0) 2 (o_al 2 (o_al 0 (o_il 4 (o_ic 1 (o_ii (fun x y => x + y) (o_iald (o_al 0 (o_il 4 (o_ic 2 (o_ii (fun x y => x + y) (o_iald (o_invV 601024 7293034 0 0 7 (Cn l D d yX7_rig cX7_rig 3 (some FieldType.int) 0 0) 2 (o_ic2 (fun x y => x = y) (X 860) o_bad)))))))))))))))))))))))))
def B_L_law_407 (l : Launch) (D : DD) (d base sa : Nat) (X : Nat → KT) : KT := (o_al 1 (o_al 0 (o_il 4 (o_ic 1 (o_ii (fun x y => x + y) (o_iald (o_al 0 (o_il 4 (o_ic 2 (o_ii (fun x y => x + y) (o_iald (o_invV 601024 7293034 0 0 6 (Cn l D d yX6_tapeOf cX6_tapeOf 4 (some FieldType.int) 0 0) 2 (o_al 2 (o_al 0 (o_il 4 (o_ic 1 (o_ii (fun x y => x + y) (o_iald (o_al 0 (o_il 4 (o_ic 2 (o_ii (fun x y => x + y) (o_iald (o_invV 601024 7293034 0 0 7 (Cn l D d yX7_tapeOf cX7_tapeOf 3 (some FieldType.int) 0 0) 2 (o_ic2 (fun x y => x = y) (X 860) o_bad)))))))))))))))))))))))))
def B_L_law_444 (l : Launch) (D : DD) (d base sa : Nat) (X : Nat → KT) : KT := (o_al 1 (o_al 0 (o_il 4 (o_ic 1 (o_ii (fun x y => x + y) (o_iald (o_al 0 (o_il 4 (o_ic 2 (o_ii (fun x y => x + y) (o_iald (o_al 3 (o_lcell l D d base sa (o_is 5 (o_al 2 (o_al 0 (o_il 4 (o_ic 1 (o_ii (fun x y => x + y) (o_iald (o_al 0 (o_il 4 (o_ic 2 (o_ii (fun x y => x + y) (o_iald (o_invV 601024 7293034 0 0 7 (Cn l D d yX7_cell cX7_cell 4 (some FieldType.long) 0 0) 2 (o_ls 6 (o_al 2 (o_invV 601024 7293034 0 0 7 (Cn l D d yX7_thrown cX7_thrown 1 (some FieldType.int) 0 0) 0 (o_il 5 (o_ic2 (fun x y => x = y) (X 492) o_bad)))))))))))))))))))))))))))))))
def B_L_law_492 (l : Launch) (D : DD) (d base sa : Nat) (X : Nat → KT) : KT := (o_il 5 (o_if (fun x => x = 0) (o_al 3 (o_ic 0 (o_lald (o_ll 6 (o_lcmp (o_if (fun x => x = 0) (X 508) o_bad)))))) (X 508)))
def B_L_law_508 (l : Launch) (D : DD) (d base sa : Nat) (X : Nat → KT) : KT := (X 860)
def B_L_law_511 (l : Launch) (D : DD) (d base sa : Nat) (X : Nat → KT) : KT := (o_al 1 (o_al 0 (o_il 4 (o_ic 1 (o_ii (fun x y => x + y) (o_iald (o_al 0 (o_il 4 (o_ic 2 (o_ii (fun x y => x + y) (o_iald (o_invV 601024 7293034 0 0 6 (Cn l D d yX6_askOf cX6_askOf 4 (some FieldType.long) 0 0) 2 (o_al 2 (o_al 0 (o_il 4 (o_ic 1 (o_ii (fun x y => x + y) (o_iald (o_al 0 (o_il 4 (o_ic 2 (o_ii (fun x y => x + y) (o_iald (o_invV 601024 7293034 0 0 7 (Cn l D d yX7_askOf cX7_askOf 3 (some FieldType.long) 0 0) 2 (o_lcmp (o_if (fun x => x = 0) (X 860) o_bad))))))))))))))))))))))))))
def B_L_law_549 (l : Launch) (D : DD) (d base sa : Nat) (X : Nat → KT) : KT := (o_al 1 (o_al 0 (o_il 4 (o_ic 1 (o_ii (fun x y => x + y) (o_iald (o_al 0 (o_il 4 (o_ic 2 (o_ii (fun x y => x + y) (o_iald (o_invV 601024 7293034 0 0 6 (Cn l D d yX6_order cX6_order 3 (some FieldType.int) 0 0) 2 (o_al 2 (o_al 0 (o_il 4 (o_ic 1 (o_ii (fun x y => x + y) (o_iald (o_al 0 (o_il 4 (o_ic 2 (o_ii (fun x y => x + y) (o_iald (o_invV 601024 7293034 0 0 7 (Cn l D d yX7_order cX7_order 3 (some FieldType.int) 0 0) 2 (o_ic2 (fun x y => x = y) (X 860) o_bad)))))))))))))))))))))))))
def B_L_law_586 (l : Launch) (D : DD) (d base sa : Nat) (X : Nat → KT) : KT := (o_al 1 (o_al 0 (o_il 4 (o_ic 1 (o_ii (fun x y => x + y) (o_iald (o_al 0 (o_il 4 (o_ic 2 (o_ii (fun x y => x + y) (o_iald (o_invV 601024 7293034 0 0 6 (Cn l D d yX6_told cX6_told 3 (some FieldType.int) 0 0) 2 (o_al 2 (o_al 0 (o_il 4 (o_ic 1 (o_ii (fun x y => x + y) (o_iald (o_al 0 (o_il 4 (o_ic 2 (o_ii (fun x y => x + y) (o_iald (o_invV 601024 7293034 0 0 7 (Cn l D d yX7_told cX7_told 8 (some FieldType.int) 0 0) 2 (o_ic2 (fun x y => x = y) (X 860) o_bad)))))))))))))))))))))))))
def B_L_law_623 (l : Launch) (D : DD) (d base sa : Nat) (X : Nat → KT) : KT := (o_al 1 (o_al 0 (o_il 4 (o_ic 1 (o_ii (fun x y => x + y) (o_iald (o_invV 601024 7293034 0 0 6 (Cn l D d yX6_breaks cX6_breaks 5 (some FieldType.boolean) 0 0) 1 (o_al 2 (o_al 0 (o_il 4 (o_ic 1 (o_ii (fun x y => x + y) (o_iald (o_invV 601024 7293034 0 0 7 (Cn l D d yX7_breaks cX7_breaks 3 (some FieldType.boolean) 0 0) 1 (o_ic2 (fun x y => x = y) (X 860) o_bad)))))))))))))))
def B_L_law_648 (l : Launch) (D : DD) (d base sa : Nat) (X : Nat → KT) : KT := (o_al 1 (o_al 0 (o_il 4 (o_ic 1 (o_ii (fun x y => x + y) (o_iald (o_invV 601024 7293034 0 0 6 (Cn l D d yX6_mends cX6_mends 3 (some FieldType.boolean) 0 0) 1 (o_al 2 (o_al 0 (o_il 4 (o_ic 1 (o_ii (fun x y => x + y) (o_iald (o_invV 601024 7293034 0 0 7 (Cn l D d yX7_mends cX7_mends 2 (some FieldType.boolean) 0 0) 1 (o_ic2 (fun x y => x = y) (X 860) o_bad)))))))))))))))
def B_L_law_673 (l : Launch) (D : DD) (d base sa : Nat) (X : Nat → KT) : KT := (o_al 1 (o_al 0 (o_il 4 (o_ic 1 (o_ii (fun x y => x + y) (o_iald (o_al 0 (o_il 4 (o_ic 2 (o_ii (fun x y => x + y) (o_iald (o_al 0 (o_il 4 (o_ic 3 (o_ii (fun x y => x + y) (o_iald (o_al 0 (o_il 4 (o_ic 4 (o_ii (fun x y => x + y) (o_iald (o_al 0 (o_il 4 (o_ic 5 (o_ii (fun x y => x + y) (o_iald (o_invV 601024 7293034 0 0 6 (Cn l D d yX6_copy cX6_copy 8 (some FieldType.int) 0 0) 5 (o_al 2 (o_al 0 (o_il 4 (o_ic 1 (o_ii (fun x y => x + y) (o_iald (o_al 0 (o_il 4 (o_ic 2 (o_ii (fun x y => x + y) (o_iald (o_al 0 (o_il 4 (o_ic 3 (o_ii (fun x y => x + y) (o_iald (o_al 0 (o_il 4 (o_ic 4 (o_ii (fun x y => x + y) (o_iald (o_al 0 (o_il 4 (o_ic 5 (o_ii (fun x y => x + y) (o_iald (o_invV 601024 7293034 0 0 7 (Cn l D d yX7_copy cX7_copy 9 (some FieldType.int) 0 0) 5 (o_ic2 (fun x y => x = y) (X 860) o_bad)))))))))))))))))))))))))))))))))))))))))))))))))))))))
def B_L_law_746 (l : Launch) (D : DD) (d base sa : Nat) (X : Nat → KT) : KT := (o_al 1 (o_al 0 (o_il 4 (o_ic 1 (o_ii (fun x y => x + y) (o_iald (o_al 0 (o_il 4 (o_ic 2 (o_ii (fun x y => x + y) (o_iald (o_invV 601024 7293034 0 0 6 (Cn l D d yX6_item cX6_item 3 (some FieldType.int) 0 0) 2 (o_al 2 (o_al 0 (o_il 4 (o_ic 1 (o_ii (fun x y => x + y) (o_iald (o_al 0 (o_il 4 (o_ic 2 (o_ii (fun x y => x + y) (o_iald (o_invV 601024 7293034 0 0 7 (Cn l D d yX7_item cX7_item 3 (some FieldType.int) 0 0) 2 (o_ic2 (fun x y => x = y) (X 860) o_bad)))))))))))))))))))))))))
def B_L_law_783 (l : Launch) (D : DD) (d base sa : Nat) (X : Nat → KT) : KT := (o_al 1 (o_invV 601024 7293034 0 0 6 (Cn l D d yX6_laid cX6_laid 1 (some FieldType.long) 0 0) 0 (o_al 2 (o_invV 601024 7293034 0 0 7 (Cn l D d yX7_laid cX7_laid 1 (some FieldType.long) 0 0) 0 (o_lcmp (o_if (fun x => x = 0) (X 860) o_bad))))))
def B_L_law_797 (l : Launch) (D : DD) (d base sa : Nat) (X : Nat → KT) : KT := (o_al 1 (o_al 0 (o_il 4 (o_ic 1 (o_ii (fun x y => x + y) (o_iald (o_invV 601024 7293034 0 0 6 (Cn l D d yX6_begins cX6_begins 2 (some FieldType.int) 0 0) 1 (o_al 2 (o_al 0 (o_il 4 (o_ic 1 (o_ii (fun x y => x + y) (o_iald (o_invV 601024 7293034 0 0 7 (Cn l D d yX7_begins_ cX7_begins_ 2 (some FieldType.int) 0 0) 1 (o_ic2 (fun x y => x = y) (X 860) o_bad)))))))))))))))
def B_L_law_822 (l : Launch) (D : DD) (d base sa : Nat) (X : Nat → KT) : KT := (o_al 1 (o_invV 601024 7293034 0 0 6 (Cn l D d yX6_clear cX6_clear 2 (some FieldType.int) 0 0) 0 (o_al 2 (o_invV 601024 7293034 0 0 7 (Cn l D d yX7_clear cX7_clear 2 (some FieldType.int) 0 0) 0 (o_ic2 (fun x y => x = y) (X 860) o_bad)))))
def B_L_law_835 (l : Launch) (D : DD) (d base sa : Nat) (X : Nat → KT) : KT := (o_al 1 (o_al 0 (o_il 4 (o_ic 1 (o_ii (fun x y => x + y) (o_iald (o_invV 601024 7293034 0 0 6 (Cn l D d yX6_count cX6_count 2 (some FieldType.int) 0 0) 1 (o_al 2 (o_al 0 (o_il 4 (o_ic 1 (o_ii (fun x y => x + y) (o_iald (o_invV 601024 7293034 0 0 7 (Cn l D d yX7_count cX7_count 2 (some FieldType.int) 0 0) 1 (o_ic2 (fun x y => x = y) (X 860) o_bad)))))))))))))))
def B_L_law_860 (l : Launch) (D : DD) (d base sa : Nat) (X : Nat → KT) : KT := (o_inc 4 6 (X 23))
def B_L_law_866 (l : Launch) (D : DD) (d base sa : Nat) (X : Nat → KT) : KT := o_fin
set_option maxRecDepth 20000 in
set_option maxHeartbeats 8000000 in
theorem m_L_law {p : Program} {l : Launch} {e : Env} {s : State} {m : MethodId} {args : Array Value} {below : List Frame} {meth : Method} {c : Code} {D : DD} {base sa d b : Nat} {Rl0 : Nat → Nat → Prop} {h : HP} {lsA : List Value} (C : CX p room_1 s m args c D base 8 cL_law RL d) (h1 : meth.locks = false) (h2 : meth.sig.returnType = ret) (hb : base = s.heap.size) (hargs : args = #[Value.ref b]) (hX : XTh base sa s)
    (H : ∀ X : Nat → KT, (∀ ls st h n1 n2, B_L_law_0 l D d base sa X ls st h n1 n2 → X 0 ls st h n1 n2) → (∀ ls st h n1 n2, B_L_law_23 l D d base sa X ls st h n1 n2 → X 23 ls st h n1 n2) → (∀ ls st h n1 n2, B_L_law_136 l D d base sa X ls st h n1 n2 → X 136 ls st h n1 n2) → (∀ ls st h n1 n2, B_L_law_185 l D d base sa X ls st h n1 n2 → X 185 ls st h n1 n2) → (∀ ls st h n1 n2, B_L_law_210 l D d base sa X ls st h n1 n2 → X 210 ls st h n1 n2) → (∀ ls st h n1 n2, B_L_law_247 l D d base sa X ls st h n1 n2 → X 247 ls st h n1 n2) → (∀ ls st h n1 n2, B_L_law_308 l D d base sa X ls st h n1 n2 → X 308 ls st h n1 n2) → (∀ ls st h n1 n2, B_L_law_333 l D d base sa X ls st h n1 n2 → X 333 ls st h n1 n2) → (∀ ls st h n1 n2, B_L_law_370 l D d base sa X ls st h n1 n2 → X 370 ls st h n1 n2) → (∀ ls st h n1 n2, B_L_law_407 l D d base sa X ls st h n1 n2 → X 407 ls st h n1 n2) → (∀ ls st h n1 n2, B_L_law_444 l D d base sa X ls st h n1 n2 → X 444 ls st h n1 n2) → (∀ ls st h n1 n2, B_L_law_492 l D d base sa X ls st h n1 n2 → X 492 ls st h n1 n2) → (∀ ls st h n1 n2, B_L_law_508 l D d base sa X ls st h n1 n2 → X 508 ls st h n1 n2) → (∀ ls st h n1 n2, B_L_law_511 l D d base sa X ls st h n1 n2 → X 511 ls st h n1 n2) → (∀ ls st h n1 n2, B_L_law_549 l D d base sa X ls st h n1 n2 → X 549 ls st h n1 n2) → (∀ ls st h n1 n2, B_L_law_586 l D d base sa X ls st h n1 n2 → X 586 ls st h n1 n2) → (∀ ls st h n1 n2, B_L_law_623 l D d base sa X ls st h n1 n2 → X 623 ls st h n1 n2) → (∀ ls st h n1 n2, B_L_law_648 l D d base sa X ls st h n1 n2 → X 648 ls st h n1 n2) → (∀ ls st h n1 n2, B_L_law_673 l D d base sa X ls st h n1 n2 → X 673 ls st h n1 n2) → (∀ ls st h n1 n2, B_L_law_746 l D d base sa X ls st h n1 n2 → X 746 ls st h n1 n2) → (∀ ls st h n1 n2, B_L_law_783 l D d base sa X ls st h n1 n2 → X 783 ls st h n1 n2) → (∀ ls st h n1 n2, B_L_law_797 l D d base sa X ls st h n1 n2 → X 797 ls st h n1 n2) → (∀ ls st h n1 n2, B_L_law_822 l D d base sa X ls st h n1 n2 → X 822 ls st h n1 n2) → (∀ ls st h n1 n2, B_L_law_835 l D d base sa X ls st h n1 n2 → X 835 ls st h n1 n2) → (∀ ls st h n1 n2, B_L_law_860 l D d base sa X ls st h n1 n2 → X 860 ls st h n1 n2) → (∀ ls st h n1 n2, B_L_law_866 l D d base sa X ls st h n1 n2 → X 866 ls st h n1 n2) → X 0 lsA [] h 0 0) : Wm p l e room_1 s m args below meth c (lw_Z below args s) D base 8 Rl0 0 lsA [] h 0 0 :=
  H (Wm p l e room_1 s m args below meth c (lw_Z below args s) D base 8 Rl0)
    (show Sd _ _ _ _ _ _ _ _ _ _ _ _ _ _ _ 0 _ from (s_new (pc := 0) C rfl rfl ct_6 (by decide) wd_68 wd_69 wd_53 dL_law_0 (s_dup (pc := 3) C dL_law_3 (s_invI (pc := 4) C rfl rfl rfl ci_X6_init wd_70 wd_71 dL_law_4 (s_astore_n (pc := 7) C dL_law_7 rfl (by decide) (s_new (pc := 8) C rfl rfl ct_7 (by decide) wd_844 wd_845 wd_57 dL_law_8 (s_dup (pc := 11) C dL_law_11 (s_invI (pc := 12) C rfl rfl rfl ci_X7_init wd_846 wd_847 dL_law_12 (s_astore_n (pc := 15) C dL_law_15 rfl (by decide) (s_iconst (pc := 16) C dL_law_16 rfl (s_newa (atype := .long) (pc := 17) C rfl rfl (by decide) (by decide) rfl rfl wd_212 dL_law_17 (s_astore_n (pc := 19) C dL_law_19 rfl (by decide) (s_iconst (pc := 20) C dL_law_20 rfl (s_istore (pc := 21) C dL_law_21 (by decide) sid))))))))))))))
    (show Sd _ _ _ _ _ _ _ _ _ _ _ _ _ _ _ 23 _ from (s_iload (pc := 23) C dL_law_23 (s_aload_n (pc := 25) C dL_law_25 rfl (s_alen (pc := 26) C dL_law_26 (s_bipush (pc := 27) C dL_law_27 rfl (s_isub (pc := 29) C dL_law_29 (s_icmp_gt (tgt := 866) (pc := 30) C dL_law_30 (by decide) sid (s_aload_n (pc := 33) C dL_law_33 rfl (s_iload (pc := 34) C dL_law_34 (s_iaload (pc := 36) C dL_law_36 (s_bipush (pc := 37) C dL_law_37 rfl (s_iand (pc := 39) C dL_law_39 (s_tswB (pc := 40) C (fun _ => sid) dL_law_40 (by decide) (by decide) (by decide))))))))))))))
    (show Sd _ _ _ _ _ _ _ _ _ _ _ _ _ _ _ 136 _ from (s_aload_n (pc := 136) C dL_law_136 rfl (s_aload_n (pc := 137) C dL_law_137 rfl (s_iload (pc := 138) C dL_law_138 (s_iconst (pc := 140) C dL_law_140 rfl (s_iadd (pc := 141) C dL_law_141 (s_iaload (pc := 142) C dL_law_142 (s_aload_n (pc := 143) C dL_law_143 rfl (s_iload (pc := 144) C dL_law_144 (s_iconst (pc := 146) C dL_law_146 rfl (s_iadd (pc := 147) C dL_law_147 (s_iaload (pc := 148) C dL_law_148 (s_aload_n (pc := 149) C dL_law_149 rfl (s_iload (pc := 150) C dL_law_150 (s_iconst (pc := 152) C dL_law_152 rfl (s_iadd (pc := 153) C dL_law_153 (s_iaload (pc := 154) C dL_law_154 (s_invV (pc := 155) C rfl rfl ct_6 rfl ci_X6_tape wd_268 wd_269 wd_270 dL_law_155 (s_aload_n (pc := 158) C dL_law_158 rfl (s_aload_n (pc := 159) C dL_law_159 rfl (s_iload (pc := 160) C dL_law_160 (s_iconst (pc := 162) C dL_law_162 rfl (s_iadd (pc := 163) C dL_law_163 (s_iaload (pc := 164) C dL_law_164 (s_aload_n (pc := 165) C dL_law_165 rfl (s_iload (pc := 166) C dL_law_166 (s_iconst (pc := 168) C dL_law_168 rfl (s_iadd (pc := 169) C dL_law_169 (s_iaload (pc := 170) C dL_law_170 (s_aload_n (pc := 171) C dL_law_171 rfl (s_iload (pc := 172) C dL_law_172 (s_iconst (pc := 174) C dL_law_174 rfl (s_iadd (pc := 175) C dL_law_175 (s_iaload (pc := 176) C dL_law_176 (s_invV (pc := 177) C rfl rfl ct_7 rfl ci_X7_tape wd_1000 wd_1001 wd_1002 dL_law_177 (s_icmp_eq (tgt := 860) (pc := 180) C dL_law_180 (by decide) sid s_bad))))))))))))))))))))))))))))))))))))
    (show Sd _ _ _ _ _ _ _ _ _ _ _ _ _ _ _ 185 _ from (s_aload_n (pc := 185) C dL_law_185 rfl (s_aload_n (pc := 186) C dL_law_186 rfl (s_iload (pc := 187) C dL_law_187 (s_iconst (pc := 189) C dL_law_189 rfl (s_iadd (pc := 190) C dL_law_190 (s_iaload (pc := 191) C dL_law_191 (s_invV (pc := 192) C rfl rfl ct_6 rfl ci_X6_reader wd_320 wd_321 wd_322 dL_law_192 (s_aload_n (pc := 195) C dL_law_195 rfl (s_aload_n (pc := 196) C dL_law_196 rfl (s_iload (pc := 197) C dL_law_197 (s_iconst (pc := 199) C dL_law_199 rfl (s_iadd (pc := 200) C dL_law_200 (s_iaload (pc := 201) C dL_law_201 (s_invV (pc := 202) C rfl rfl ct_7 rfl ci_X7_reader wd_1055 wd_1056 wd_1057 dL_law_202 (s_icmp_eq (tgt := 860) (pc := 205) C dL_law_205 (by decide) sid s_bad))))))))))))))))
    (show Sd _ _ _ _ _ _ _ _ _ _ _ _ _ _ _ 210 _ from (s_aload_n (pc := 210) C dL_law_210 rfl (s_aload_n (pc := 211) C dL_law_211 rfl (s_iload (pc := 212) C dL_law_212 (s_iconst (pc := 214) C dL_law_214 rfl (s_iadd (pc := 215) C dL_law_215 (s_iaload (pc := 216) C dL_law_216 (s_aload_n (pc := 217) C dL_law_217 rfl (s_iload (pc := 218) C dL_law_218 (s_iconst (pc := 220) C dL_law_220 rfl (s_iadd (pc := 221) C dL_law_221 (s_iaload (pc := 222) C dL_law_222 (s_invV (pc := 223) C rfl rfl ct_6 rfl ci_X6_settings wd_366 wd_367 wd_368 dL_law_223 (s_aload_n (pc := 226) C dL_law_226 rfl (s_aload_n (pc := 227) C dL_law_227 rfl (s_iload (pc := 228) C dL_law_228 (s_iconst (pc := 230) C dL_law_230 rfl (s_iadd (pc := 231) C dL_law_231 (s_iaload (pc := 232) C dL_law_232 (s_aload_n (pc := 233) C dL_law_233 rfl (s_iload (pc := 234) C dL_law_234 (s_iconst (pc := 236) C dL_law_236 rfl (s_iadd (pc := 237) C dL_law_237 (s_iaload (pc := 238) C dL_law_238 (s_invV (pc := 239) C rfl rfl ct_7 rfl ci_X7_settings wd_1015 wd_1016 wd_1017 dL_law_239 (s_icmp_eq (tgt := 860) (pc := 242) C dL_law_242 (by decide) sid s_bad))))))))))))))))))))))))))
    (show Sd _ _ _ _ _ _ _ _ _ _ _ _ _ _ _ 247 _ from (s_aload_n (pc := 247) C dL_law_247 rfl (s_aload_n (pc := 248) C dL_law_248 rfl (s_iload (pc := 249) C dL_law_249 (s_iconst (pc := 251) C dL_law_251 rfl (s_iadd (pc := 252) C dL_law_252 (s_iaload (pc := 253) C dL_law_253 (s_aload_n (pc := 254) C dL_law_254 rfl (s_iload (pc := 255) C dL_law_255 (s_iconst (pc := 257) C dL_law_257 rfl (s_iadd (pc := 258) C dL_law_258 (s_iaload (pc := 259) C dL_law_259 (s_aload_n (pc := 260) C dL_law_260 rfl (s_iload (pc := 261) C dL_law_261 (s_iconst (pc := 263) C dL_law_263 rfl (s_iadd (pc := 264) C dL_law_264 (s_iaload (pc := 265) C dL_law_265 (s_aload_n (pc := 266) C dL_law_266 rfl (s_iload (pc := 267) C dL_law_267 (s_iconst (pc := 269) C dL_law_269 rfl (s_iadd (pc := 270) C dL_law_270 (s_iaload (pc := 271) C dL_law_271 (s_invV (pc := 272) C rfl rfl ct_6 rfl ci_X6_ask wd_370 wd_371 wd_372 dL_law_272 (s_aload_n (pc := 275) C dL_law_275 rfl (s_aload_n (pc := 276) C dL_law_276 rfl (s_iload (pc := 277) C dL_law_277 (s_iconst (pc := 279) C dL_law_279 rfl (s_iadd (pc := 280) C dL_law_280 (s_iaload (pc := 281) C dL_law_281 (s_aload_n (pc := 282) C dL_law_282 rfl (s_iload (pc := 283) C dL_law_283 (s_iconst (pc := 285) C dL_law_285 rfl (s_iadd (pc := 286) C dL_law_286 (s_iaload (pc := 287) C dL_law_287 (s_aload_n (pc := 288) C dL_law_288 rfl (s_iload (pc := 289) C dL_law_289 (s_iconst (pc := 291) C dL_law_291 rfl (s_iadd (pc := 292) C dL_law_292 (s_iaload (pc := 293) C dL_law_293 (s_aload_n (pc := 294) C dL_law_294 rfl (s_iload (pc := 295) C dL_law_295 (s_iconst (pc := 297) C dL_law_297 rfl (s_iadd (pc := 298) C dL_law_298 (s_iaload (pc := 299) C dL_law_299 (s_invV (pc := 300) C rfl rfl ct_7 rfl ci_X7_ask wd_1019 wd_1020 wd_1021 dL_law_300 (s_icmp_eq (tgt := 860) (pc := 303) C dL_law_303 (by decide) sid s_bad))))))))))))))))))))))))))))))))))))))))))))))
    (show Sd _ _ _ _ _ _ _ _ _ _ _ _ _ _ _ 308 _ from (s_aload_n (pc := 308) C dL_law_308 rfl (s_aload_n (pc := 309) C dL_law_309 rfl (s_iload (pc := 310) C dL_law_310 (s_iconst (pc := 312) C dL_law_312 rfl (s_iadd (pc := 313) C dL_law_313 (s_iaload (pc := 314) C dL_law_314 (s_invV (pc := 315) C rfl rfl ct_6 rfl ci_X6_tick wd_442 wd_443 wd_444 dL_law_315 (s_aload_n (pc := 318) C dL_law_318 rfl (s_aload_n (pc := 319) C dL_law_319 rfl (s_iload (pc := 320) C dL_law_320 (s_iconst (pc := 322) C dL_law_322 rfl (s_iadd (pc := 323) C dL_law_323 (s_iaload (pc := 324) C dL_law_324 (s_invV (pc := 325) C rfl rfl ct_7 rfl ci_X7_tick wd_1071 wd_1072 wd_1073 dL_law_325 (s_icmp_eq (tgt := 860) (pc := 328) C dL_law_328 (by decide) sid s_bad))))))))))))))))
    (show Sd _ _ _ _ _ _ _ _ _ _ _ _ _ _ _ 333 _ from (s_aload_n (pc := 333) C dL_law_333 rfl (s_aload_n (pc := 334) C dL_law_334 rfl (s_iload (pc := 335) C dL_law_335 (s_iconst (pc := 337) C dL_law_337 rfl (s_iadd (pc := 338) C dL_law_338 (s_iaload (pc := 339) C dL_law_339 (s_aload_n (pc := 340) C dL_law_340 rfl (s_iload (pc := 341) C dL_law_341 (s_iconst (pc := 343) C dL_law_343 rfl (s_iadd (pc := 344) C dL_law_344 (s_iaload (pc := 345) C dL_law_345 (s_invV (pc := 346) C rfl rfl ct_6 rfl ci_X6_arm wd_660 wd_661 wd_662 dL_law_346 (s_aload_n (pc := 349) C dL_law_349 rfl (s_aload_n (pc := 350) C dL_law_350 rfl (s_iload (pc := 351) C dL_law_351 (s_iconst (pc := 353) C dL_law_353 rfl (s_iadd (pc := 354) C dL_law_354 (s_iaload (pc := 355) C dL_law_355 (s_aload_n (pc := 356) C dL_law_356 rfl (s_iload (pc := 357) C dL_law_357 (s_iconst (pc := 359) C dL_law_359 rfl (s_iadd (pc := 360) C dL_law_360 (s_iaload (pc := 361) C dL_law_361 (s_invV (pc := 362) C rfl rfl ct_7 rfl ci_X7_arm wd_1125 wd_1126 wd_1127 dL_law_362 (s_icmp_eq (tgt := 860) (pc := 365) C dL_law_365 (by decide) sid s_bad))))))))))))))))))))))))))
    (show Sd _ _ _ _ _ _ _ _ _ _ _ _ _ _ _ 370 _ from (s_aload_n (pc := 370) C dL_law_370 rfl (s_aload_n (pc := 371) C dL_law_371 rfl (s_iload (pc := 372) C dL_law_372 (s_iconst (pc := 374) C dL_law_374 rfl (s_iadd (pc := 375) C dL_law_375 (s_iaload (pc := 376) C dL_law_376 (s_aload_n (pc := 377) C dL_law_377 rfl (s_iload (pc := 378) C dL_law_378 (s_iconst (pc := 380) C dL_law_380 rfl (s_iadd (pc := 381) C dL_law_381 (s_iaload (pc := 382) C dL_law_382 (s_invV (pc := 383) C rfl rfl ct_6 rfl ci_X6_rig wd_664 wd_665 wd_666 dL_law_383 (s_aload_n (pc := 386) C dL_law_386 rfl (s_aload_n (pc := 387) C dL_law_387 rfl (s_iload (pc := 388) C dL_law_388 (s_iconst (pc := 390) C dL_law_390 rfl (s_iadd (pc := 391) C dL_law_391 (s_iaload (pc := 392) C dL_law_392 (s_aload_n (pc := 393) C dL_law_393 rfl (s_iload (pc := 394) C dL_law_394 (s_iconst (pc := 396) C dL_law_396 rfl (s_iadd (pc := 397) C dL_law_397 (s_iaload (pc := 398) C dL_law_398 (s_invV (pc := 399) C rfl rfl ct_7 rfl ci_X7_rig wd_1129 wd_1130 wd_1131 dL_law_399 (s_icmp_eq (tgt := 860) (pc := 402) C dL_law_402 (by decide) sid s_bad))))))))))))))))))))))))))
    (show Sd _ _ _ _ _ _ _ _ _ _ _ _ _ _ _ 407 _ from (s_aload_n (pc := 407) C dL_law_407 rfl (s_aload_n (pc := 408) C dL_law_408 rfl (s_iload (pc := 409) C dL_law_409 (s_iconst (pc := 411) C dL_law_411 rfl (s_iadd (pc := 412) C dL_law_412 (s_iaload (pc := 413) C dL_law_413 (s_aload_n (pc := 414) C dL_law_414 rfl (s_iload (pc := 415) C dL_law_415 (s_iconst (pc := 417) C dL_law_417 rfl (s_iadd (pc := 418) C dL_law_418 (s_iaload (pc := 419) C dL_law_419 (s_invV (pc := 420) C rfl rfl ct_6 rfl ci_X6_tapeOf wd_668 wd_669 wd_670 dL_law_420 (s_aload_n (pc := 423) C dL_law_423 rfl (s_aload_n (pc := 424) C dL_law_424 rfl (s_iload (pc := 425) C dL_law_425 (s_iconst (pc := 427) C dL_law_427 rfl (s_iadd (pc := 428) C dL_law_428 (s_iaload (pc := 429) C dL_law_429 (s_aload_n (pc := 430) C dL_law_430 rfl (s_iload (pc := 431) C dL_law_431 (s_iconst (pc := 433) C dL_law_433 rfl (s_iadd (pc := 434) C dL_law_434 (s_iaload (pc := 435) C dL_law_435 (s_invV (pc := 436) C rfl rfl ct_7 rfl ci_X7_tapeOf wd_1133 wd_1134 wd_1135 dL_law_436 (s_icmp_eq (tgt := 860) (pc := 439) C dL_law_439 (by decide) sid s_bad))))))))))))))))))))))))))
    (show Sd _ _ _ _ _ _ _ _ _ _ _ _ _ _ _ 444 _ from (s_aload_n (pc := 444) C dL_law_444 rfl (s_aload_n (pc := 445) C dL_law_445 rfl (s_iload (pc := 446) C dL_law_446 (s_iconst (pc := 448) C dL_law_448 rfl (s_iadd (pc := 449) C dL_law_449 (s_iaload (pc := 450) C dL_law_450 (s_aload_n (pc := 451) C dL_law_451 rfl (s_iload (pc := 452) C dL_law_452 (s_iconst (pc := 454) C dL_law_454 rfl (s_iadd (pc := 455) C dL_law_455 (s_iaload (pc := 456) C dL_law_456 (s_aload_n (pc := 457) C dL_law_457 rfl (s_lcell C hX (s_istore (pc := 461) C dL_law_461 (by decide) (s_aload_n (pc := 463) C dL_law_463 rfl (s_aload_n (pc := 464) C dL_law_464 rfl (s_iload (pc := 465) C dL_law_465 (s_iconst (pc := 467) C dL_law_467 rfl (s_iadd (pc := 468) C dL_law_468 (s_iaload (pc := 469) C dL_law_469 (s_aload_n (pc := 470) C dL_law_470 rfl (s_iload (pc := 471) C dL_law_471 (s_iconst (pc := 473) C dL_law_473 rfl (s_iadd (pc := 474) C dL_law_474 (s_iaload (pc := 475) C dL_law_475 (s_invV (pc := 476) C rfl rfl ct_7 rfl ci_X7_cell wd_1007 wd_1008 wd_1009 dL_law_476 (s_lstore (pc := 479) C dL_law_479 (by decide) (s_aload_n (pc := 481) C dL_law_481 rfl (s_invV (pc := 482) C rfl rfl ct_7 rfl ci_X7_thrown wd_996 wd_997 wd_998 dL_law_482 (s_iload (pc := 485) C dL_law_485 (s_icmp_eq (tgt := 492) (pc := 487) C dL_law_487 (by decide) sid s_bad))))))))))))))))))))))))))))))))
    (show Sd _ _ _ _ _ _ _ _ _ _ _ _ _ _ _ 492 _ from (s_iload (pc := 492) C dL_law_492 (s_if_ne (tgt := 508) (pc := 494) C dL_law_494 (by decide) sid (s_aload_n (pc := 497) C dL_law_497 rfl (s_iconst (pc := 498) C dL_law_498 rfl (s_laload (pc := 499) C dL_law_499 (s_lload (pc := 500) C dL_law_500 (s_lcmp (pc := 502) C dL_law_502 (s_if_eq (tgt := 508) (pc := 503) C dL_law_503 (by decide) sid s_bad)))))))))
    (show Sd _ _ _ _ _ _ _ _ _ _ _ _ _ _ _ 508 _ from (s_goto (tgt := 860) (pc := 508) C dL_law_508 (by decide) sid))
    (show Sd _ _ _ _ _ _ _ _ _ _ _ _ _ _ _ 511 _ from (s_aload_n (pc := 511) C dL_law_511 rfl (s_aload_n (pc := 512) C dL_law_512 rfl (s_iload (pc := 513) C dL_law_513 (s_iconst (pc := 515) C dL_law_515 rfl (s_iadd (pc := 516) C dL_law_516 (s_iaload (pc := 517) C dL_law_517 (s_aload_n (pc := 518) C dL_law_518 rfl (s_iload (pc := 519) C dL_law_519 (s_iconst (pc := 521) C dL_law_521 rfl (s_iadd (pc := 522) C dL_law_522 (s_iaload (pc := 523) C dL_law_523 (s_invV (pc := 524) C rfl rfl ct_6 rfl ci_X6_askOf wd_676 wd_677 wd_678 dL_law_524 (s_aload_n (pc := 527) C dL_law_527 rfl (s_aload_n (pc := 528) C dL_law_528 rfl (s_iload (pc := 529) C dL_law_529 (s_iconst (pc := 531) C dL_law_531 rfl (s_iadd (pc := 532) C dL_law_532 (s_iaload (pc := 533) C dL_law_533 (s_aload_n (pc := 534) C dL_law_534 rfl (s_iload (pc := 535) C dL_law_535 (s_iconst (pc := 537) C dL_law_537 rfl (s_iadd (pc := 538) C dL_law_538 (s_iaload (pc := 539) C dL_law_539 (s_invV (pc := 540) C rfl rfl ct_7 rfl ci_X7_askOf wd_1141 wd_1142 wd_1143 dL_law_540 (s_lcmp (pc := 543) C dL_law_543 (s_if_eq (tgt := 860) (pc := 544) C dL_law_544 (by decide) sid s_bad)))))))))))))))))))))))))))
    (show Sd _ _ _ _ _ _ _ _ _ _ _ _ _ _ _ 549 _ from (s_aload_n (pc := 549) C dL_law_549 rfl (s_aload_n (pc := 550) C dL_law_550 rfl (s_iload (pc := 551) C dL_law_551 (s_iconst (pc := 553) C dL_law_553 rfl (s_iadd (pc := 554) C dL_law_554 (s_iaload (pc := 555) C dL_law_555 (s_aload_n (pc := 556) C dL_law_556 rfl (s_iload (pc := 557) C dL_law_557 (s_iconst (pc := 559) C dL_law_559 rfl (s_iadd (pc := 560) C dL_law_560 (s_iaload (pc := 561) C dL_law_561 (s_invV (pc := 562) C rfl rfl ct_6 rfl ci_X6_order wd_681 wd_682 wd_683 dL_law_562 (s_aload_n (pc := 565) C dL_law_565 rfl (s_aload_n (pc := 566) C dL_law_566 rfl (s_iload (pc := 567) C dL_law_567 (s_iconst (pc := 569) C dL_law_569 rfl (s_iadd (pc := 570) C dL_law_570 (s_iaload (pc := 571) C dL_law_571 (s_aload_n (pc := 572) C dL_law_572 rfl (s_iload (pc := 573) C dL_law_573 (s_iconst (pc := 575) C dL_law_575 rfl (s_iadd (pc := 576) C dL_law_576 (s_iaload (pc := 577) C dL_law_577 (s_invV (pc := 578) C rfl rfl ct_7 rfl ci_X7_order wd_1023 wd_1024 wd_1025 dL_law_578 (s_icmp_eq (tgt := 860) (pc := 581) C dL_law_581 (by decide) sid s_bad))))))))))))))))))))))))))
    (show Sd _ _ _ _ _ _ _ _ _ _ _ _ _ _ _ 586 _ from (s_aload_n (pc := 586) C dL_law_586 rfl (s_aload_n (pc := 587) C dL_law_587 rfl (s_iload (pc := 588) C dL_law_588 (s_iconst (pc := 590) C dL_law_590 rfl (s_iadd (pc := 591) C dL_law_591 (s_iaload (pc := 592) C dL_law_592 (s_aload_n (pc := 593) C dL_law_593 rfl (s_iload (pc := 594) C dL_law_594 (s_iconst (pc := 596) C dL_law_596 rfl (s_iadd (pc := 597) C dL_law_597 (s_iaload (pc := 598) C dL_law_598 (s_invV (pc := 599) C rfl rfl ct_6 rfl ci_X6_told wd_685 wd_686 wd_687 dL_law_599 (s_aload_n (pc := 602) C dL_law_602 rfl (s_aload_n (pc := 603) C dL_law_603 rfl (s_iload (pc := 604) C dL_law_604 (s_iconst (pc := 606) C dL_law_606 rfl (s_iadd (pc := 607) C dL_law_607 (s_iaload (pc := 608) C dL_law_608 (s_aload_n (pc := 609) C dL_law_609 rfl (s_iload (pc := 610) C dL_law_610 (s_iconst (pc := 612) C dL_law_612 rfl (s_iadd (pc := 613) C dL_law_613 (s_iaload (pc := 614) C dL_law_614 (s_invV (pc := 615) C rfl rfl ct_7 rfl ci_X7_told wd_1051 wd_1052 wd_1053 dL_law_615 (s_icmp_eq (tgt := 860) (pc := 618) C dL_law_618 (by decide) sid s_bad))))))))))))))))))))))))))
    (show Sd _ _ _ _ _ _ _ _ _ _ _ _ _ _ _ 623 _ from (s_aload_n (pc := 623) C dL_law_623 rfl (s_aload_n (pc := 624) C dL_law_624 rfl (s_iload (pc := 625) C dL_law_625 (s_iconst (pc := 627) C dL_law_627 rfl (s_iadd (pc := 628) C dL_law_628 (s_iaload (pc := 629) C dL_law_629 (s_invV (pc := 630) C rfl rfl ct_6 rfl ci_X6_breaks wd_694 wd_695 wd_696 dL_law_630 (s_aload_n (pc := 633) C dL_law_633 rfl (s_aload_n (pc := 634) C dL_law_634 rfl (s_iload (pc := 635) C dL_law_635 (s_iconst (pc := 637) C dL_law_637 rfl (s_iadd (pc := 638) C dL_law_638 (s_iaload (pc := 639) C dL_law_639 (s_invV (pc := 640) C rfl rfl ct_7 rfl ci_X7_breaks wd_1059 wd_1060 wd_1061 dL_law_640 (s_icmp_eq (tgt := 860) (pc := 643) C dL_law_643 (by decide) sid s_bad))))))))))))))))
    (show Sd _ _ _ _ _ _ _ _ _ _ _ _ _ _ _ 648 _ from (s_aload_n (pc := 648) C dL_law_648 rfl (s_aload_n (pc := 649) C dL_law_649 rfl (s_iload (pc := 650) C dL_law_650 (s_iconst (pc := 652) C dL_law_652 rfl (s_iadd (pc := 653) C dL_law_653 (s_iaload (pc := 654) C dL_law_654 (s_invV (pc := 655) C rfl rfl ct_6 rfl ci_X6_mends wd_698 wd_699 wd_700 dL_law_655 (s_aload_n (pc := 658) C dL_law_658 rfl (s_aload_n (pc := 659) C dL_law_659 rfl (s_iload (pc := 660) C dL_law_660 (s_iconst (pc := 662) C dL_law_662 rfl (s_iadd (pc := 663) C dL_law_663 (s_iaload (pc := 664) C dL_law_664 (s_invV (pc := 665) C rfl rfl ct_7 rfl ci_X7_mends wd_1067 wd_1068 wd_1069 dL_law_665 (s_icmp_eq (tgt := 860) (pc := 668) C dL_law_668 (by decide) sid s_bad))))))))))))))))
    (show Sd _ _ _ _ _ _ _ _ _ _ _ _ _ _ _ 673 _ from (s_aload_n (pc := 673) C dL_law_673 rfl (s_aload_n (pc := 674) C dL_law_674 rfl (s_iload (pc := 675) C dL_law_675 (s_iconst (pc := 677) C dL_law_677 rfl (s_iadd (pc := 678) C dL_law_678 (s_iaload (pc := 679) C dL_law_679 (s_aload_n (pc := 680) C dL_law_680 rfl (s_iload (pc := 681) C dL_law_681 (s_iconst (pc := 683) C dL_law_683 rfl (s_iadd (pc := 684) C dL_law_684 (s_iaload (pc := 685) C dL_law_685 (s_aload_n (pc := 686) C dL_law_686 rfl (s_iload (pc := 687) C dL_law_687 (s_iconst (pc := 689) C dL_law_689 rfl (s_iadd (pc := 690) C dL_law_690 (s_iaload (pc := 691) C dL_law_691 (s_aload_n (pc := 692) C dL_law_692 rfl (s_iload (pc := 693) C dL_law_693 (s_iconst (pc := 695) C dL_law_695 rfl (s_iadd (pc := 696) C dL_law_696 (s_iaload (pc := 697) C dL_law_697 (s_aload_n (pc := 698) C dL_law_698 rfl (s_iload (pc := 699) C dL_law_699 (s_iconst (pc := 701) C dL_law_701 rfl (s_iadd (pc := 702) C dL_law_702 (s_iaload (pc := 703) C dL_law_703 (s_invV (pc := 704) C rfl rfl ct_6 rfl ci_X6_copy wd_702 wd_703 wd_704 dL_law_704 (s_aload_n (pc := 707) C dL_law_707 rfl (s_aload_n (pc := 708) C dL_law_708 rfl (s_iload (pc := 709) C dL_law_709 (s_iconst (pc := 711) C dL_law_711 rfl (s_iadd (pc := 712) C dL_law_712 (s_iaload (pc := 713) C dL_law_713 (s_aload_n (pc := 714) C dL_law_714 rfl (s_iload (pc := 715) C dL_law_715 (s_iconst (pc := 717) C dL_law_717 rfl (s_iadd (pc := 718) C dL_law_718 (s_iaload (pc := 719) C dL_law_719 (s_aload_n (pc := 720) C dL_law_720 rfl (s_iload (pc := 721) C dL_law_721 (s_iconst (pc := 723) C dL_law_723 rfl (s_iadd (pc := 724) C dL_law_724 (s_iaload (pc := 725) C dL_law_725 (s_aload_n (pc := 726) C dL_law_726 rfl (s_iload (pc := 727) C dL_law_727 (s_iconst (pc := 729) C dL_law_729 rfl (s_iadd (pc := 730) C dL_law_730 (s_iaload (pc := 731) C dL_law_731 (s_aload_n (pc := 732) C dL_law_732 rfl (s_iload (pc := 733) C dL_law_733 (s_iconst (pc := 735) C dL_law_735 rfl (s_iadd (pc := 736) C dL_law_736 (s_iaload (pc := 737) C dL_law_737 (s_invV (pc := 738) C rfl rfl ct_7 rfl ci_X7_copy wd_1146 wd_1147 wd_1148 dL_law_738 (s_icmp_eq (tgt := 860) (pc := 741) C dL_law_741 (by decide) sid s_bad))))))))))))))))))))))))))))))))))))))))))))))))))))))))
    (show Sd _ _ _ _ _ _ _ _ _ _ _ _ _ _ _ 746 _ from (s_aload_n (pc := 746) C dL_law_746 rfl (s_aload_n (pc := 747) C dL_law_747 rfl (s_iload (pc := 748) C dL_law_748 (s_iconst (pc := 750) C dL_law_750 rfl (s_iadd (pc := 751) C dL_law_751 (s_iaload (pc := 752) C dL_law_752 (s_aload_n (pc := 753) C dL_law_753 rfl (s_iload (pc := 754) C dL_law_754 (s_iconst (pc := 756) C dL_law_756 rfl (s_iadd (pc := 757) C dL_law_757 (s_iaload (pc := 758) C dL_law_758 (s_invV (pc := 759) C rfl rfl ct_6 rfl ci_X6_item wd_709 wd_710 wd_711 dL_law_759 (s_aload_n (pc := 762) C dL_law_762 rfl (s_aload_n (pc := 763) C dL_law_763 rfl (s_iload (pc := 764) C dL_law_764 (s_iconst (pc := 766) C dL_law_766 rfl (s_iadd (pc := 767) C dL_law_767 (s_iaload (pc := 768) C dL_law_768 (s_aload_n (pc := 769) C dL_law_769 rfl (s_iload (pc := 770) C dL_law_770 (s_iconst (pc := 772) C dL_law_772 rfl (s_iadd (pc := 773) C dL_law_773 (s_iaload (pc := 774) C dL_law_774 (s_invV (pc := 775) C rfl rfl ct_7 rfl ci_X7_item wd_1162 wd_1163 wd_1164 dL_law_775 (s_icmp_eq (tgt := 860) (pc := 778) C dL_law_778 (by decide) sid s_bad))))))))))))))))))))))))))
    (show Sd _ _ _ _ _ _ _ _ _ _ _ _ _ _ _ 783 _ from (s_aload_n (pc := 783) C dL_law_783 rfl (s_invV (pc := 784) C rfl rfl ct_6 rfl ci_X6_laid wd_722 wd_723 wd_724 dL_law_784 (s_aload_n (pc := 787) C dL_law_787 rfl (s_invV (pc := 788) C rfl rfl ct_7 rfl ci_X7_laid wd_1166 wd_1167 wd_1168 dL_law_788 (s_lcmp (pc := 791) C dL_law_791 (s_if_eq (tgt := 860) (pc := 792) C dL_law_792 (by decide) sid s_bad)))))))
    (show Sd _ _ _ _ _ _ _ _ _ _ _ _ _ _ _ 797 _ from (s_aload_n (pc := 797) C dL_law_797 rfl (s_aload_n (pc := 798) C dL_law_798 rfl (s_iload (pc := 799) C dL_law_799 (s_iconst (pc := 801) C dL_law_801 rfl (s_iadd (pc := 802) C dL_law_802 (s_iaload (pc := 803) C dL_law_803 (s_invV (pc := 804) C rfl rfl ct_6 rfl ci_X6_begins wd_746 wd_747 wd_748 dL_law_804 (s_aload_n (pc := 807) C dL_law_807 rfl (s_aload_n (pc := 808) C dL_law_808 rfl (s_iload (pc := 809) C dL_law_809 (s_iconst (pc := 811) C dL_law_811 rfl (s_iadd (pc := 812) C dL_law_812 (s_iaload (pc := 813) C dL_law_813 (s_invV (pc := 814) C rfl rfl ct_7 rfl ci_X7_begins_ wd_1178 wd_1179 wd_1180 dL_law_814 (s_icmp_eq (tgt := 860) (pc := 817) C dL_law_817 (by decide) sid s_bad))))))))))))))))
    (show Sd _ _ _ _ _ _ _ _ _ _ _ _ _ _ _ 822 _ from (s_aload_n (pc := 822) C dL_law_822 rfl (s_invV (pc := 823) C rfl rfl ct_6 rfl ci_X6_clear wd_750 wd_751 wd_752 dL_law_823 (s_aload_n (pc := 826) C dL_law_826 rfl (s_invV (pc := 827) C rfl rfl ct_7 rfl ci_X7_clear wd_1182 wd_1183 wd_1184 dL_law_827 (s_icmp_eq (tgt := 860) (pc := 830) C dL_law_830 (by decide) sid s_bad))))))
    (show Sd _ _ _ _ _ _ _ _ _ _ _ _ _ _ _ 835 _ from (s_aload_n (pc := 835) C dL_law_835 rfl (s_aload_n (pc := 836) C dL_law_836 rfl (s_iload (pc := 837) C dL_law_837 (s_iconst (pc := 839) C dL_law_839 rfl (s_iadd (pc := 840) C dL_law_840 (s_iaload (pc := 841) C dL_law_841 (s_invV (pc := 842) C rfl rfl ct_6 rfl ci_X6_count wd_758 wd_759 wd_760 dL_law_842 (s_aload_n (pc := 845) C dL_law_845 rfl (s_aload_n (pc := 846) C dL_law_846 rfl (s_iload (pc := 847) C dL_law_847 (s_iconst (pc := 849) C dL_law_849 rfl (s_iadd (pc := 850) C dL_law_850 (s_iaload (pc := 851) C dL_law_851 (s_invV (pc := 852) C rfl rfl ct_7 rfl ci_X7_count wd_1150 wd_1151 wd_1152 dL_law_852 (s_icmp_eq (tgt := 860) (pc := 855) C dL_law_855 (by decide) sid s_bad))))))))))))))))
    (show Sd _ _ _ _ _ _ _ _ _ _ _ _ _ _ _ 860 _ from (s_iinc (pc := 860) C dL_law_860 rfl (by decide) (s_goto (tgt := 23) (pc := 863) C dL_law_863 (by decide) sid)))
    (show Sd _ _ _ _ _ _ _ _ _ _ _ _ _ _ _ 866 _ from (s_fin C h1 h2 hb hargs))
