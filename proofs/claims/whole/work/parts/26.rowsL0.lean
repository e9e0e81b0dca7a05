theorem dL_law_0 : decode cL_law 0 = .ok (.new 7, 3) := by decide +kernel
theorem dL_law_3 : decode cL_law 3 = .ok (.dup, 1) := by decide +kernel
theorem dL_law_4 : decode cL_law 4 = .ok (.invokespecial 9, 3) := by decide +kernel
theorem dL_law_7 : decode cL_law 7 = .ok (.astore_n 1, 1) := by decide +kernel
theorem dL_law_8 : decode cL_law 8 = .ok (.new 10, 3) := by decide +kernel
theorem dL_law_11 : decode cL_law 11 = .ok (.dup, 1) := by decide +kernel
theorem dL_law_12 : decode cL_law 12 = .ok (.invokespecial 12, 3) := by decide +kernel
theorem dL_law_15 : decode cL_law 15 = .ok (.astore_n 2, 1) := by decide +kernel
theorem dL_law_16 : decode cL_law 16 = .ok (.iconst 0, 1) := by decide +kernel
theorem dL_law_17 : decode cL_law 17 = .ok (.istore_n 3, 1) := by decide +kernel
theorem dL_law_18 : decode cL_law 18 = .ok (.iload_n 3, 1) := by decide +kernel
theorem dL_law_19 : decode cL_law 19 = .ok (.aload_n 0, 1) := by decide +kernel
theorem dL_law_20 : decode cL_law 20 = .ok (.arraylength, 1) := by decide +kernel
theorem dL_law_21 : decode cL_law 21 = .ok (.bipush 6, 2) := by decide +kernel
theorem dL_law_23 : decode cL_law 23 = .ok (.isub, 1) := by decide +kernel
theorem dL_law_24 : decode cL_law 24 = .ok (.if_icmp .gt 1193, 3) := by decide +kernel
theorem dL_law_27 : decode cL_law 27 = .ok (.aload_n 0, 1) := by decide +kernel
theorem dL_law_28 : decode cL_law 28 = .ok (.iload_n 3, 1) := by decide +kernel
theorem dL_law_29 : decode cL_law 29 = .ok (.iaload, 1) := by decide +kernel
theorem dL_law_30 : decode cL_law 30 = .ok (.bipush 31, 2) := by decide +kernel
theorem dL_law_32 : decode cL_law 32 = .ok (.iand, 1) := by decide +kernel
theorem dL_law_33 : decode cL_law 33 = .ok (.tableswitch 1178 0 29 #[135, 188, 247, 280, 339, 372, 435, 458, 481, 514, 547, 580, 613, 646, 680, 733, 766, 809, 842, 865, 888, 931, 964, 1007, 1040, 1083, 1106, 1119, 1132, 1155], 135) := by decide +kernel
theorem dL_law_168 : decode cL_law 168 = .ok (.aload_n 1, 1) := by decide +kernel
theorem dL_law_169 : decode cL_law 169 = .ok (.aload_n 0, 1) := by decide +kernel
theorem dL_law_170 : decode cL_law 170 = .ok (.iload_n 3, 1) := by decide +kernel
theorem dL_law_171 : decode cL_law 171 = .ok (.iconst 1, 1) := by decide +kernel
theorem dL_law_172 : decode cL_law 172 = .ok (.iadd, 1) := by decide +kernel
theorem dL_law_173 : decode cL_law 173 = .ok (.iaload, 1) := by decide +kernel
theorem dL_law_174 : decode cL_law 174 = .ok (.aload_n 0, 1) := by decide +kernel
theorem dL_law_175 : decode cL_law 175 = .ok (.iload_n 3, 1) := by decide +kernel
theorem dL_law_176 : decode cL_law 176 = .ok (.iconst 2, 1) := by decide +kernel
theorem dL_law_177 : decode cL_law 177 = .ok (.iadd, 1) := by decide +kernel
theorem dL_law_178 : decode cL_law 178 = .ok (.iaload, 1) := by decide +kernel
theorem dL_law_179 : decode cL_law 179 = .ok (.aload_n 0, 1) := by decide +kernel
theorem dL_law_180 : decode cL_law 180 = .ok (.iload_n 3, 1) := by decide +kernel
theorem dL_law_181 : decode cL_law 181 = .ok (.iconst 3, 1) := by decide +kernel
theorem dL_law_182 : decode cL_law 182 = .ok (.iadd, 1) := by decide +kernel
theorem dL_law_183 : decode cL_law 183 = .ok (.iaload, 1) := by decide +kernel
theorem dL_law_184 : decode cL_law 184 = .ok (.aload_n 0, 1) := by decide +kernel
theorem dL_law_185 : decode cL_law 185 = .ok (.iload_n 3, 1) := by decide +kernel
theorem dL_law_186 : decode cL_law 186 = .ok (.iconst 4, 1) := by decide +kernel
theorem dL_law_187 : decode cL_law 187 = .ok (.iadd, 1) := by decide +kernel
theorem dL_law_188 : decode cL_law 188 = .ok (.iaload, 1) := by decide +kernel
theorem dL_law_189 : decode cL_law 189 = .ok (.invokevirtual 13, 3) := by decide +kernel
theorem dL_law_192 : decode cL_law 192 = .ok (.aload_n 2, 1) := by decide +kernel
theorem dL_law_193 : decode cL_law 193 = .ok (.aload_n 0, 1) := by decide +kernel
theorem dL_law_194 : decode cL_law 194 = .ok (.iload_n 3, 1) := by decide +kernel
theorem dL_law_195 : decode cL_law 195 = .ok (.iconst 1, 1) := by decide +kernel
theorem dL_law_196 : decode cL_law 196 = .ok (.iadd, 1) := by decide +kernel
theorem dL_law_197 : decode cL_law 197 = .ok (.iaload, 1) := by decide +kernel
theorem dL_law_198 : decode cL_law 198 = .ok (.aload_n 0, 1) := by decide +kernel
theorem dL_law_199 : decode cL_law 199 = .ok (.iload_n 3, 1) := by decide +kernel
theorem dL_law_200 : decode cL_law 200 = .ok (.iconst 2, 1) := by decide +kernel
theorem dL_law_201 : decode cL_law 201 = .ok (.iadd, 1) := by decide +kernel
theorem dL_law_202 : decode cL_law 202 = .ok (.iaload, 1) := by decide +kernel
theorem dL_law_203 : decode cL_law 203 = .ok (.aload_n 0, 1) := by decide +kernel
theorem dL_law_204 : decode cL_law 204 = .ok (.iload_n 3, 1) := by decide +kernel
theorem dL_law_205 : decode cL_law 205 = .ok (.iconst 3, 1) := by decide +kernel
theorem dL_law_206 : decode cL_law 206 = .ok (.iadd, 1) := by decide +kernel
theorem dL_law_207 : decode cL_law 207 = .ok (.iaload, 1) := by decide +kernel
theorem dL_law_208 : decode cL_law 208 = .ok (.aload_n 0, 1) := by decide +kernel
theorem dL_law_209 : decode cL_law 209 = .ok (.iload_n 3, 1) := by decide +kernel
theorem dL_law_210 : decode cL_law 210 = .ok (.iconst 4, 1) := by decide +kernel
theorem dL_law_211 : decode cL_law 211 = .ok (.iadd, 1) := by decide +kernel
theorem dL_law_212 : decode cL_law 212 = .ok (.iaload, 1) := by decide +kernel
theorem dL_law_213 : decode cL_law 213 = .ok (.invokevirtual 17, 3) := by decide +kernel
theorem dL_law_216 : decode cL_law 216 = .ok (.if_icmp .eq 995, 3) := by decide +kernel
theorem dL_law_219 : decode cL_law 219 = .ok (.iconst 0, 1) := by decide +kernel
theorem dL_law_220 : decode cL_law 220 = .ok (.ireturn, 1) := by decide +kernel
theorem dL_law_221 : decode cL_law 221 = .ok (.aload_n 1, 1) := by decide +kernel
theorem dL_law_222 : decode cL_law 222 = .ok (.aload_n 0, 1) := by decide +kernel
theorem dL_law_223 : decode cL_law 223 = .ok (.iload_n 3, 1) := by decide +kernel
theorem dL_law_224 : decode cL_law 224 = .ok (.iconst 1, 1) := by decide +kernel
theorem dL_law_225 : decode cL_law 225 = .ok (.iadd, 1) := by decide +kernel
theorem dL_law_226 : decode cL_law 226 = .ok (.iaload, 1) := by decide +kernel
theorem dL_law_227 : decode cL_law 227 = .ok (.aload_n 0, 1) := by decide +kernel
theorem dL_law_228 : decode cL_law 228 = .ok (.iload_n 3, 1) := by decide +kernel
theorem dL_law_229 : decode cL_law 229 = .ok (.iconst 2, 1) := by decide +kernel
theorem dL_law_230 : decode cL_law 230 = .ok (.iadd, 1) := by decide +kernel
theorem dL_law_231 : decode cL_law 231 = .ok (.iaload, 1) := by decide +kernel
theorem dL_law_232 : decode cL_law 232 = .ok (.aload_n 0, 1) := by decide +kernel
theorem dL_law_233 : decode cL_law 233 = .ok (.iload_n 3, 1) := by decide +kernel
theorem dL_law_234 : decode cL_law 234 = .ok (.iconst 3, 1) := by decide +kernel
theorem dL_law_235 : decode cL_law 235 = .ok (.iadd, 1) := by decide +kernel
theorem dL_law_236 : decode cL_law 236 = .ok (.iaload, 1) := by decide +kernel
theorem dL_law_237 : decode cL_law 237 = .ok (.ifCond .eq 7, 3) := by decide +kernel
theorem dL_law_240 : decode cL_law 240 = .ok (.iconst 1, 1) := by decide +kernel
theorem dL_law_241 : decode cL_law 241 = .ok (.goto 4, 3) := by decide +kernel
theorem dL_law_244 : decode cL_law 244 = .ok (.iconst 0, 1) := by decide +kernel
theorem dL_law_245 : decode cL_law 245 = .ok (.invokevirtual 18, 3) := by decide +kernel
theorem dL_law_248 : decode cL_law 248 = .ok (.aload_n 2, 1) := by decide +kernel
theorem dL_law_249 : decode cL_law 249 = .ok (.aload_n 0, 1) := by decide +kernel
theorem dL_law_250 : decode cL_law 250 = .ok (.iload_n 3, 1) := by decide +kernel
theorem dL_law_251 : decode cL_law 251 = .ok (.iconst 1, 1) := by decide +kernel
theorem dL_law_252 : decode cL_law 252 = .ok (.iadd, 1) := by decide +kernel
theorem dL_law_253 : decode cL_law 253 = .ok (.iaload, 1) := by decide +kernel
theorem dL_law_254 : decode cL_law 254 = .ok (.aload_n 0, 1) := by decide +kernel
theorem dL_law_255 : decode cL_law 255 = .ok (.iload_n 3, 1) := by decide +kernel
theorem dL_law_256 : decode cL_law 256 = .ok (.iconst 2, 1) := by decide +kernel
theorem dL_law_257 : decode cL_law 257 = .ok (.iadd, 1) := by decide +kernel
theorem dL_law_258 : decode cL_law 258 = .ok (.iaload, 1) := by decide +kernel
theorem dL_law_259 : decode cL_law 259 = .ok (.aload_n 0, 1) := by decide +kernel
theorem dL_law_260 : decode cL_law 260 = .ok (.iload_n 3, 1) := by decide +kernel
theorem dL_law_261 : decode cL_law 261 = .ok (.iconst 3, 1) := by decide +kernel
theorem dL_law_262 : decode cL_law 262 = .ok (.iadd, 1) := by decide +kernel
theorem dL_law_263 : decode cL_law 263 = .ok (.iaload, 1) := by decide +kernel
theorem dL_law_264 : decode cL_law 264 = .ok (.ifCond .eq 7, 3) := by decide +kernel
theorem dL_law_267 : decode cL_law 267 = .ok (.iconst 1, 1) := by decide +kernel
theorem dL_law_268 : decode cL_law 268 = .ok (.goto 4, 3) := by decide +kernel
theorem dL_law_271 : decode cL_law 271 = .ok (.iconst 0, 1) := by decide +kernel
theorem dL_law_272 : decode cL_law 272 = .ok (.invokevirtual 22, 3) := by decide +kernel
theorem dL_law_275 : decode cL_law 275 = .ok (.if_icmp .eq 936, 3) := by decide +kernel
theorem dL_law_278 : decode cL_law 278 = .ok (.iconst 0, 1) := by decide +kernel
theorem dL_law_279 : decode cL_law 279 = .ok (.ireturn, 1) := by decide +kernel
theorem dL_law_280 : decode cL_law 280 = .ok (.aload_n 1, 1) := by decide +kernel
theorem dL_law_281 : decode cL_law 281 = .ok (.aload_n 0, 1) := by decide +kernel
theorem dL_law_282 : decode cL_law 282 = .ok (.iload_n 3, 1) := by decide +kernel
theorem dL_law_283 : decode cL_law 283 = .ok (.iconst 1, 1) := by decide +kernel
theorem dL_law_284 : decode cL_law 284 = .ok (.iadd, 1) := by decide +kernel
theorem dL_law_285 : decode cL_law 285 = .ok (.iaload, 1) := by decide +kernel
theorem dL_law_286 : decode cL_law 286 = .ok (.aload_n 0, 1) := by decide +kernel
theorem dL_law_287 : decode cL_law 287 = .ok (.iload_n 3, 1) := by decide +kernel
theorem dL_law_288 : decode cL_law 288 = .ok (.iconst 2, 1) := by decide +kernel
theorem dL_law_289 : decode cL_law 289 = .ok (.iadd, 1) := by decide +kernel
theorem dL_law_290 : decode cL_law 290 = .ok (.iaload, 1) := by decide +kernel
theorem dL_law_291 : decode cL_law 291 = .ok (.invokevirtual 23, 3) := by decide +kernel
theorem dL_law_294 : decode cL_law 294 = .ok (.aload_n 2, 1) := by decide +kernel
theorem dL_law_295 : decode cL_law 295 = .ok (.aload_n 0, 1) := by decide +kernel
theorem dL_law_296 : decode cL_law 296 = .ok (.iload_n 3, 1) := by decide +kernel
theorem dL_law_297 : decode cL_law 297 = .ok (.iconst 1, 1) := by decide +kernel
theorem dL_law_298 : decode cL_law 298 = .ok (.iadd, 1) := by decide +kernel
theorem dL_law_299 : decode cL_law 299 = .ok (.iaload, 1) := by decide +kernel
theorem dL_law_300 : decode cL_law 300 = .ok (.aload_n 0, 1) := by decide +kernel
theorem dL_law_301 : decode cL_law 301 = .ok (.iload_n 3, 1) := by decide +kernel
theorem dL_law_302 : decode cL_law 302 = .ok (.iconst 2, 1) := by decide +kernel
theorem dL_law_303 : decode cL_law 303 = .ok (.iadd, 1) := by decide +kernel
theorem dL_law_304 : decode cL_law 304 = .ok (.iaload, 1) := by decide +kernel
theorem dL_law_305 : decode cL_law 305 = .ok (.invokevirtual 27, 3) := by decide +kernel
theorem dL_law_308 : decode cL_law 308 = .ok (.if_icmp .eq 903, 3) := by decide +kernel
theorem dL_law_311 : decode cL_law 311 = .ok (.iconst 0, 1) := by decide +kernel
theorem dL_law_312 : decode cL_law 312 = .ok (.ireturn, 1) := by decide +kernel
theorem dL_law_313 : decode cL_law 313 = .ok (.aload_n 1, 1) := by decide +kernel
theorem dL_law_314 : decode cL_law 314 = .ok (.aload_n 0, 1) := by decide +kernel
theorem dL_law_315 : decode cL_law 315 = .ok (.iload_n 3, 1) := by decide +kernel
theorem dL_law_316 : decode cL_law 316 = .ok (.iconst 1, 1) := by decide +kernel
theorem dL_law_317 : decode cL_law 317 = .ok (.iadd, 1) := by decide +kernel
theorem dL_law_318 : decode cL_law 318 = .ok (.iaload, 1) := by decide +kernel
theorem dL_law_319 : decode cL_law 319 = .ok (.aload_n 0, 1) := by decide +kernel
theorem dL_law_320 : decode cL_law 320 = .ok (.iload_n 3, 1) := by decide +kernel
theorem dL_law_321 : decode cL_law 321 = .ok (.iconst 2, 1) := by decide +kernel
theorem dL_law_322 : decode cL_law 322 = .ok (.iadd, 1) := by decide +kernel
theorem dL_law_323 : decode cL_law 323 = .ok (.iaload, 1) := by decide +kernel
theorem dL_law_324 : decode cL_law 324 = .ok (.aload_n 0, 1) := by decide +kernel
theorem dL_law_325 : decode cL_law 325 = .ok (.iload_n 3, 1) := by decide +kernel
theorem dL_law_326 : decode cL_law 326 = .ok (.iconst 3, 1) := by decide +kernel
theorem dL_law_327 : decode cL_law 327 = .ok (.iadd, 1) := by decide +kernel
theorem dL_law_328 : decode cL_law 328 = .ok (.iaload, 1) := by decide +kernel
theorem dL_law_329 : decode cL_law 329 = .ok (.ifCond .eq 7, 3) := by decide +kernel
theorem dL_law_332 : decode cL_law 332 = .ok (.iconst 1, 1) := by decide +kernel
theorem dL_law_333 : decode cL_law 333 = .ok (.goto 4, 3) := by decide +kernel
theorem dL_law_336 : decode cL_law 336 = .ok (.iconst 0, 1) := by decide +kernel
theorem dL_law_337 : decode cL_law 337 = .ok (.invokevirtual 28, 3) := by decide +kernel
theorem dL_law_340 : decode cL_law 340 = .ok (.aload_n 2, 1) := by decide +kernel
theorem dL_law_341 : decode cL_law 341 = .ok (.aload_n 0, 1) := by decide +kernel
theorem dL_law_342 : decode cL_law 342 = .ok (.iload_n 3, 1) := by decide +kernel
theorem dL_law_343 : decode cL_law 343 = .ok (.iconst 1, 1) := by decide +kernel
theorem dL_law_344 : decode cL_law 344 = .ok (.iadd, 1) := by decide +kernel
theorem dL_law_345 : decode cL_law 345 = .ok (.iaload, 1) := by decide +kernel
theorem dL_law_346 : decode cL_law 346 = .ok (.aload_n 0, 1) := by decide +kernel
theorem dL_law_347 : decode cL_law 347 = .ok (.iload_n 3, 1) := by decide +kernel
theorem dL_law_348 : decode cL_law 348 = .ok (.iconst 2, 1) := by decide +kernel
theorem dL_law_349 : decode cL_law 349 = .ok (.iadd, 1) := by decide +kernel
theorem dL_law_350 : decode cL_law 350 = .ok (.iaload, 1) := by decide +kernel
theorem dL_law_351 : decode cL_law 351 = .ok (.aload_n 0, 1) := by decide +kernel
theorem dL_law_352 : decode cL_law 352 = .ok (.iload_n 3, 1) := by decide +kernel
theorem dL_law_353 : decode cL_law 353 = .ok (.iconst 3, 1) := by decide +kernel
theorem dL_law_354 : decode cL_law 354 = .ok (.iadd, 1) := by decide +kernel
theorem dL_law_355 : decode cL_law 355 = .ok (.iaload, 1) := by decide +kernel
theorem dL_law_356 : decode cL_law 356 = .ok (.ifCond .eq 7, 3) := by decide +kernel
theorem dL_law_359 : decode cL_law 359 = .ok (.iconst 1, 1) := by decide +kernel
theorem dL_law_360 : decode cL_law 360 = .ok (.goto 4, 3) := by decide +kernel
theorem dL_law_363 : decode cL_law 363 = .ok (.iconst 0, 1) := by decide +kernel
theorem dL_law_364 : decode cL_law 364 = .ok (.invokevirtual 31, 3) := by decide +kernel
theorem dL_law_367 : decode cL_law 367 = .ok (.if_icmp .eq 844, 3) := by decide +kernel
theorem dL_law_370 : decode cL_law 370 = .ok (.iconst 0, 1) := by decide +kernel
theorem dL_law_371 : decode cL_law 371 = .ok (.ireturn, 1) := by decide +kernel
theorem dL_law_372 : decode cL_law 372 = .ok (.aload_n 1, 1) := by decide +kernel
theorem dL_law_373 : decode cL_law 373 = .ok (.aload_n 0, 1) := by decide +kernel
theorem dL_law_374 : decode cL_law 374 = .ok (.iload_n 3, 1) := by decide +kernel
theorem dL_law_375 : decode cL_law 375 = .ok (.iconst 1, 1) := by decide +kernel
theorem dL_law_376 : decode cL_law 376 = .ok (.iadd, 1) := by decide +kernel
theorem dL_law_377 : decode cL_law 377 = .ok (.iaload, 1) := by decide +kernel
theorem dL_law_378 : decode cL_law 378 = .ok (.aload_n 0, 1) := by decide +kernel
theorem dL_law_379 : decode cL_law 379 = .ok (.iload_n 3, 1) := by decide +kernel
theorem dL_law_380 : decode cL_law 380 = .ok (.iconst 2, 1) := by decide +kernel
theorem dL_law_381 : decode cL_law 381 = .ok (.iadd, 1) := by decide +kernel
theorem dL_law_382 : decode cL_law 382 = .ok (.iaload, 1) := by decide +kernel
theorem dL_law_383 : decode cL_law 383 = .ok (.invokevirtual 32, 3) := by decide +kernel
theorem dL_law_386 : decode cL_law 386 = .ok (.aload_n 2, 1) := by decide +kernel
theorem dL_law_387 : decode cL_law 387 = .ok (.aload_n 0, 1) := by decide +kernel
theorem dL_law_388 : decode cL_law 388 = .ok (.iload_n 3, 1) := by decide +kernel
theorem dL_law_389 : decode cL_law 389 = .ok (.iconst 1, 1) := by decide +kernel
theorem dL_law_390 : decode cL_law 390 = .ok (.iadd, 1) := by decide +kernel
theorem dL_law_391 : decode cL_law 391 = .ok (.iaload, 1) := by decide +kernel
theorem dL_law_392 : decode cL_law 392 = .ok (.aload_n 0, 1) := by decide +kernel
theorem dL_law_393 : decode cL_law 393 = .ok (.iload_n 3, 1) := by decide +kernel
theorem dL_law_394 : decode cL_law 394 = .ok (.iconst 2, 1) := by decide +kernel
theorem dL_law_395 : decode cL_law 395 = .ok (.iadd, 1) := by decide +kernel
theorem dL_law_396 : decode cL_law 396 = .ok (.iaload, 1) := by decide +kernel
theorem dL_law_397 : decode cL_law 397 = .ok (.invokevirtual 36, 3) := by decide +kernel
theorem dL_law_400 : decode cL_law 400 = .ok (.if_icmp .eq 811, 3) := by decide +kernel
theorem dL_law_403 : decode cL_law 403 = .ok (.iconst 0, 1) := by decide +kernel
theorem dL_law_404 : decode cL_law 404 = .ok (.ireturn, 1) := by decide +kernel
theorem dL_law_405 : decode cL_law 405 = .ok (.aload_n 1, 1) := by decide +kernel
theorem dL_law_406 : decode cL_law 406 = .ok (.aload_n 0, 1) := by decide +kernel
theorem dL_law_407 : decode cL_law 407 = .ok (.iload_n 3, 1) := by decide +kernel
theorem dL_law_408 : decode cL_law 408 = .ok (.iconst 1, 1) := by decide +kernel
theorem dL_law_409 : decode cL_law 409 = .ok (.iadd, 1) := by decide +kernel
theorem dL_law_410 : decode cL_law 410 = .ok (.iaload, 1) := by decide +kernel
theorem dL_law_411 : decode cL_law 411 = .ok (.aload_n 0, 1) := by decide +kernel
theorem dL_law_412 : decode cL_law 412 = .ok (.iload_n 3, 1) := by decide +kernel
theorem dL_law_413 : decode cL_law 413 = .ok (.iconst 2, 1) := by decide +kernel
theorem dL_law_414 : decode cL_law 414 = .ok (.iadd, 1) := by decide +kernel
theorem dL_law_415 : decode cL_law 415 = .ok (.iaload, 1) := by decide +kernel
theorem dL_law_416 : decode cL_law 416 = .ok (.aload_n 0, 1) := by decide +kernel
theorem dL_law_417 : decode cL_law 417 = .ok (.iload_n 3, 1) := by decide +kernel
theorem dL_law_418 : decode cL_law 418 = .ok (.iconst 3, 1) := by decide +kernel
theorem dL_law_419 : decode cL_law 419 = .ok (.iadd, 1) := by decide +kernel
theorem dL_law_420 : decode cL_law 420 = .ok (.iaload, 1) := by decide +kernel
theorem dL_law_421 : decode cL_law 421 = .ok (.aload_n 0, 1) := by decide +kernel
theorem dL_law_422 : decode cL_law 422 = .ok (.iload_n 3, 1) := by decide +kernel
theorem dL_law_423 : decode cL_law 423 = .ok (.iconst 4, 1) := by decide +kernel
theorem dL_law_424 : decode cL_law 424 = .ok (.iadd, 1) := by decide +kernel
theorem dL_law_425 : decode cL_law 425 = .ok (.iaload, 1) := by decide +kernel
theorem dL_law_426 : decode cL_law 426 = .ok (.aload_n 0, 1) := by decide +kernel
theorem dL_law_427 : decode cL_law 427 = .ok (.iload_n 3, 1) := by decide +kernel
theorem dL_law_428 : decode cL_law 428 = .ok (.iconst 5, 1) := by decide +kernel
theorem dL_law_429 : decode cL_law 429 = .ok (.iadd, 1) := by decide +kernel
theorem dL_law_430 : decode cL_law 430 = .ok (.iaload, 1) := by decide +kernel
theorem dL_law_431 : decode cL_law 431 = .ok (.invokevirtual 37, 3) := by decide +kernel
theorem dL_law_434 : decode cL_law 434 = .ok (.aload_n 2, 1) := by decide +kernel
theorem dL_law_435 : decode cL_law 435 = .ok (.aload_n 0, 1) := by decide +kernel
theorem dL_law_436 : decode cL_law 436 = .ok (.iload_n 3, 1) := by decide +kernel
theorem dL_law_437 : decode cL_law 437 = .ok (.iconst 1, 1) := by decide +kernel
theorem dL_law_438 : decode cL_law 438 = .ok (.iadd, 1) := by decide +kernel
theorem dL_law_439 : decode cL_law 439 = .ok (.iaload, 1) := by decide +kernel
theorem dL_law_440 : decode cL_law 440 = .ok (.aload_n 0, 1) := by decide +kernel
theorem dL_law_441 : decode cL_law 441 = .ok (.iload_n 3, 1) := by decide +kernel
theorem dL_law_442 : decode cL_law 442 = .ok (.iconst 2, 1) := by decide +kernel
theorem dL_law_443 : decode cL_law 443 = .ok (.iadd, 1) := by decide +kernel
theorem dL_law_444 : decode cL_law 444 = .ok (.iaload, 1) := by decide +kernel
theorem dL_law_445 : decode cL_law 445 = .ok (.aload_n 0, 1) := by decide +kernel
theorem dL_law_446 : decode cL_law 446 = .ok (.iload_n 3, 1) := by decide +kernel
theorem dL_law_447 : decode cL_law 447 = .ok (.iconst 3, 1) := by decide +kernel
theorem dL_law_448 : decode cL_law 448 = .ok (.iadd, 1) := by decide +kernel
theorem dL_law_449 : decode cL_law 449 = .ok (.iaload, 1) := by decide +kernel
theorem dL_law_450 : decode cL_law 450 = .ok (.aload_n 0, 1) := by decide +kernel
theorem dL_law_451 : decode cL_law 451 = .ok (.iload_n 3, 1) := by decide +kernel
theorem dL_law_452 : decode cL_law 452 = .ok (.iconst 4, 1) := by decide +kernel
theorem dL_law_453 : decode cL_law 453 = .ok (.iadd, 1) := by decide +kernel
theorem dL_law_454 : decode cL_law 454 = .ok (.iaload, 1) := by decide +kernel
theorem dL_law_455 : decode cL_law 455 = .ok (.aload_n 0, 1) := by decide +kernel
theorem dL_law_456 : decode cL_law 456 = .ok (.iload_n 3, 1) := by decide +kernel
theorem dL_law_457 : decode cL_law 457 = .ok (.iconst 5, 1) := by decide +kernel
theorem dL_law_458 : decode cL_law 458 = .ok (.iadd, 1) := by decide +kernel
theorem dL_law_459 : decode cL_law 459 = .ok (.iaload, 1) := by decide +kernel
theorem dL_law_460 : decode cL_law 460 = .ok (.invokevirtual 41, 3) := by decide +kernel
theorem dL_law_463 : decode cL_law 463 = .ok (.if_icmp .eq 748, 3) := by decide +kernel
theorem dL_law_466 : decode cL_law 466 = .ok (.iconst 0, 1) := by decide +kernel
theorem dL_law_467 : decode cL_law 467 = .ok (.ireturn, 1) := by decide +kernel
theorem dL_law_468 : decode cL_law 468 = .ok (.aload_n 1, 1) := by decide +kernel
theorem dL_law_469 : decode cL_law 469 = .ok (.aload_n 0, 1) := by decide +kernel
theorem dL_law_470 : decode cL_law 470 = .ok (.iload_n 3, 1) := by decide +kernel
theorem dL_law_471 : decode cL_law 471 = .ok (.iconst 1, 1) := by decide +kernel
theorem dL_law_472 : decode cL_law 472 = .ok (.iadd, 1) := by decide +kernel
theorem dL_law_473 : decode cL_law 473 = .ok (.iaload, 1) := by decide +kernel
theorem dL_law_474 : decode cL_law 474 = .ok (.invokevirtual 42, 3) := by decide +kernel
theorem dL_law_477 : decode cL_law 477 = .ok (.aload_n 2, 1) := by decide +kernel
theorem dL_law_478 : decode cL_law 478 = .ok (.aload_n 0, 1) := by decide +kernel
theorem dL_law_479 : decode cL_law 479 = .ok (.iload_n 3, 1) := by decide +kernel
theorem dL_law_480 : decode cL_law 480 = .ok (.iconst 1, 1) := by decide +kernel
theorem dL_law_481 : decode cL_law 481 = .ok (.iadd, 1) := by decide +kernel
theorem dL_law_482 : decode cL_law 482 = .ok (.iaload, 1) := by decide +kernel
theorem dL_law_483 : decode cL_law 483 = .ok (.invokevirtual 46, 3) := by decide +kernel
theorem dL_law_486 : decode cL_law 486 = .ok (.if_icmp .eq 725, 3) := by decide +kernel
theorem dL_law_489 : decode cL_law 489 = .ok (.iconst 0, 1) := by decide +kernel
theorem dL_law_490 : decode cL_law 490 = .ok (.ireturn, 1) := by decide +kernel
theorem dL_law_491 : decode cL_law 491 = .ok (.aload_n 1, 1) := by decide +kernel
theorem dL_law_492 : decode cL_law 492 = .ok (.aload_n 0, 1) := by decide +kernel
theorem dL_law_493 : decode cL_law 493 = .ok (.iload_n 3, 1) := by decide +kernel
theorem dL_law_494 : decode cL_law 494 = .ok (.iconst 1, 1) := by decide +kernel
theorem dL_law_495 : decode cL_law 495 = .ok (.iadd, 1) := by decide +kernel
theorem dL_law_496 : decode cL_law 496 = .ok (.iaload, 1) := by decide +kernel
theorem dL_law_497 : decode cL_law 497 = .ok (.invokevirtual 47, 3) := by decide +kernel
theorem dL_law_500 : decode cL_law 500 = .ok (.aload_n 2, 1) := by decide +kernel
theorem dL_law_501 : decode cL_law 501 = .ok (.aload_n 0, 1) := by decide +kernel
theorem dL_law_502 : decode cL_law 502 = .ok (.iload_n 3, 1) := by decide +kernel
theorem dL_law_503 : decode cL_law 503 = .ok (.iconst 1, 1) := by decide +kernel
theorem dL_law_504 : decode cL_law 504 = .ok (.iadd, 1) := by decide +kernel
theorem dL_law_505 : decode cL_law 505 = .ok (.iaload, 1) := by decide +kernel
theorem dL_law_506 : decode cL_law 506 = .ok (.invokevirtual 50, 3) := by decide +kernel
theorem dL_law_509 : decode cL_law 509 = .ok (.if_icmp .eq 702, 3) := by decide +kernel
theorem dL_law_512 : decode cL_law 512 = .ok (.iconst 0, 1) := by decide +kernel
theorem dL_law_513 : decode cL_law 513 = .ok (.ireturn, 1) := by decide +kernel
theorem dL_law_514 : decode cL_law 514 = .ok (.aload_n 1, 1) := by decide +kernel
theorem dL_law_515 : decode cL_law 515 = .ok (.aload_n 0, 1) := by decide +kernel
theorem dL_law_516 : decode cL_law 516 = .ok (.iload_n 3, 1) := by decide +kernel
theorem dL_law_517 : decode cL_law 517 = .ok (.iconst 1, 1) := by decide +kernel
theorem dL_law_518 : decode cL_law 518 = .ok (.iadd, 1) := by decide +kernel
theorem dL_law_519 : decode cL_law 519 = .ok (.iaload, 1) := by decide +kernel
theorem dL_law_520 : decode cL_law 520 = .ok (.aload_n 0, 1) := by decide +kernel
theorem dL_law_521 : decode cL_law 521 = .ok (.iload_n 3, 1) := by decide +kernel
theorem dL_law_522 : decode cL_law 522 = .ok (.iconst 2, 1) := by decide +kernel
theorem dL_law_523 : decode cL_law 523 = .ok (.iadd, 1) := by decide +kernel
theorem dL_law_524 : decode cL_law 524 = .ok (.iaload, 1) := by decide +kernel
theorem dL_law_525 : decode cL_law 525 = .ok (.invokevirtual 51, 3) := by decide +kernel
theorem dL_law_528 : decode cL_law 528 = .ok (.aload_n 2, 1) := by decide +kernel
theorem dL_law_529 : decode cL_law 529 = .ok (.aload_n 0, 1) := by decide +kernel
theorem dL_law_530 : decode cL_law 530 = .ok (.iload_n 3, 1) := by decide +kernel
theorem dL_law_531 : decode cL_law 531 = .ok (.iconst 1, 1) := by decide +kernel
theorem dL_law_532 : decode cL_law 532 = .ok (.iadd, 1) := by decide +kernel
theorem dL_law_533 : decode cL_law 533 = .ok (.iaload, 1) := by decide +kernel
theorem dL_law_534 : decode cL_law 534 = .ok (.aload_n 0, 1) := by decide +kernel
theorem dL_law_535 : decode cL_law 535 = .ok (.iload_n 3, 1) := by decide +kernel
theorem dL_law_536 : decode cL_law 536 = .ok (.iconst 2, 1) := by decide +kernel
theorem dL_law_537 : decode cL_law 537 = .ok (.iadd, 1) := by decide +kernel
theorem dL_law_538 : decode cL_law 538 = .ok (.iaload, 1) := by decide +kernel
theorem dL_law_539 : decode cL_law 539 = .ok (.invokevirtual 54, 3) := by decide +kernel
theorem dL_law_542 : decode cL_law 542 = .ok (.if_icmp .eq 669, 3) := by decide +kernel
theorem dL_law_545 : decode cL_law 545 = .ok (.iconst 0, 1) := by decide +kernel
theorem dL_law_546 : decode cL_law 546 = .ok (.ireturn, 1) := by decide +kernel
theorem dL_law_547 : decode cL_law 547 = .ok (.aload_n 1, 1) := by decide +kernel
theorem dL_law_548 : decode cL_law 548 = .ok (.aload_n 0, 1) := by decide +kernel
theorem dL_law_549 : decode cL_law 549 = .ok (.iload_n 3, 1) := by decide +kernel
theorem dL_law_550 : decode cL_law 550 = .ok (.iconst 1, 1) := by decide +kernel
theorem dL_law_551 : decode cL_law 551 = .ok (.iadd, 1) := by decide +kernel
theorem dL_law_552 : decode cL_law 552 = .ok (.iaload, 1) := by decide +kernel
theorem dL_law_553 : decode cL_law 553 = .ok (.aload_n 0, 1) := by decide +kernel
theorem dL_law_554 : decode cL_law 554 = .ok (.iload_n 3, 1) := by decide +kernel
theorem dL_law_555 : decode cL_law 555 = .ok (.iconst 2, 1) := by decide +kernel
theorem dL_law_556 : decode cL_law 556 = .ok (.iadd, 1) := by decide +kernel
theorem dL_law_557 : decode cL_law 557 = .ok (.iaload, 1) := by decide +kernel
theorem dL_law_558 : decode cL_law 558 = .ok (.invokevirtual 55, 3) := by decide +kernel
theorem dL_law_561 : decode cL_law 561 = .ok (.aload_n 2, 1) := by decide +kernel
theorem dL_law_562 : decode cL_law 562 = .ok (.aload_n 0, 1) := by decide +kernel
theorem dL_law_563 : decode cL_law 563 = .ok (.iload_n 3, 1) := by decide +kernel
theorem dL_law_564 : decode cL_law 564 = .ok (.iconst 1, 1) := by decide +kernel
theorem dL_law_565 : decode cL_law 565 = .ok (.iadd, 1) := by decide +kernel
theorem dL_law_566 : decode cL_law 566 = .ok (.iaload, 1) := by decide +kernel
theorem dL_law_567 : decode cL_law 567 = .ok (.aload_n 0, 1) := by decide +kernel
theorem dL_law_568 : decode cL_law 568 = .ok (.iload_n 3, 1) := by decide +kernel
theorem dL_law_569 : decode cL_law 569 = .ok (.iconst 2, 1) := by decide +kernel
theorem dL_law_570 : decode cL_law 570 = .ok (.iadd, 1) := by decide +kernel
theorem dL_law_571 : decode cL_law 571 = .ok (.iaload, 1) := by decide +kernel
theorem dL_law_572 : decode cL_law 572 = .ok (.invokevirtual 58, 3) := by decide +kernel
theorem dL_law_575 : decode cL_law 575 = .ok (.if_icmp .eq 636, 3) := by decide +kernel
theorem dL_law_578 : decode cL_law 578 = .ok (.iconst 0, 1) := by decide +kernel
theorem dL_law_579 : decode cL_law 579 = .ok (.ireturn, 1) := by decide +kernel
theorem dL_law_580 : decode cL_law 580 = .ok (.aload_n 1, 1) := by decide +kernel
theorem dL_law_581 : decode cL_law 581 = .ok (.aload_n 0, 1) := by decide +kernel
theorem dL_law_582 : decode cL_law 582 = .ok (.iload_n 3, 1) := by decide +kernel
theorem dL_law_583 : decode cL_law 583 = .ok (.iconst 1, 1) := by decide +kernel
theorem dL_law_584 : decode cL_law 584 = .ok (.iadd, 1) := by decide +kernel
theorem dL_law_585 : decode cL_law 585 = .ok (.iaload, 1) := by decide +kernel
theorem dL_law_586 : decode cL_law 586 = .ok (.aload_n 0, 1) := by decide +kernel
theorem dL_law_587 : decode cL_law 587 = .ok (.iload_n 3, 1) := by decide +kernel
theorem dL_law_588 : decode cL_law 588 = .ok (.iconst 2, 1) := by decide +kernel
theorem dL_law_589 : decode cL_law 589 = .ok (.iadd, 1) := by decide +kernel
theorem dL_law_590 : decode cL_law 590 = .ok (.iaload, 1) := by decide +kernel
theorem dL_law_591 : decode cL_law 591 = .ok (.invokevirtual 59, 3) := by decide +kernel
theorem dL_law_594 : decode cL_law 594 = .ok (.aload_n 2, 1) := by decide +kernel
theorem dL_law_595 : decode cL_law 595 = .ok (.aload_n 0, 1) := by decide +kernel
theorem dL_law_596 : decode cL_law 596 = .ok (.iload_n 3, 1) := by decide +kernel
theorem dL_law_597 : decode cL_law 597 = .ok (.iconst 1, 1) := by decide +kernel
theorem dL_law_598 : decode cL_law 598 = .ok (.iadd, 1) := by decide +kernel
theorem dL_law_599 : decode cL_law 599 = .ok (.iaload, 1) := by decide +kernel
theorem dL_law_600 : decode cL_law 600 = .ok (.aload_n 0, 1) := by decide +kernel
theorem dL_law_601 : decode cL_law 601 = .ok (.iload_n 3, 1) := by decide +kernel
theorem dL_law_602 : decode cL_law 602 = .ok (.iconst 2, 1) := by decide +kernel
theorem dL_law_603 : decode cL_law 603 = .ok (.iadd, 1) := by decide +kernel
theorem dL_law_604 : decode cL_law 604 = .ok (.iaload, 1) := by decide +kernel
theorem dL_law_605 : decode cL_law 605 = .ok (.invokevirtual 62, 3) := by decide +kernel
theorem dL_law_608 : decode cL_law 608 = .ok (.if_icmp .eq 603, 3) := by decide +kernel
theorem dL_law_611 : decode cL_law 611 = .ok (.iconst 0, 1) := by decide +kernel
theorem dL_law_612 : decode cL_law 612 = .ok (.ireturn, 1) := by decide +kernel
theorem dL_law_613 : decode cL_law 613 = .ok (.aload_n 1, 1) := by decide +kernel
theorem dL_law_614 : decode cL_law 614 = .ok (.aload_n 0, 1) := by decide +kernel
theorem dL_law_615 : decode cL_law 615 = .ok (.iload_n 3, 1) := by decide +kernel
theorem dL_law_616 : decode cL_law 616 = .ok (.iconst 1, 1) := by decide +kernel
theorem dL_law_617 : decode cL_law 617 = .ok (.iadd, 1) := by decide +kernel
theorem dL_law_618 : decode cL_law 618 = .ok (.iaload, 1) := by decide +kernel
theorem dL_law_619 : decode cL_law 619 = .ok (.aload_n 0, 1) := by decide +kernel
theorem dL_law_620 : decode cL_law 620 = .ok (.iload_n 3, 1) := by decide +kernel
theorem dL_law_621 : decode cL_law 621 = .ok (.iconst 2, 1) := by decide +kernel
theorem dL_law_622 : decode cL_law 622 = .ok (.iadd, 1) := by decide +kernel
theorem dL_law_623 : decode cL_law 623 = .ok (.iaload, 1) := by decide +kernel
theorem dL_law_624 : decode cL_law 624 = .ok (.invokevirtual 63, 3) := by decide +kernel
theorem dL_law_627 : decode cL_law 627 = .ok (.aload_n 2, 1) := by decide +kernel
theorem dL_law_628 : decode cL_law 628 = .ok (.aload_n 0, 1) := by decide +kernel
theorem dL_law_629 : decode cL_law 629 = .ok (.iload_n 3, 1) := by decide +kernel
theorem dL_law_630 : decode cL_law 630 = .ok (.iconst 1, 1) := by decide +kernel
theorem dL_law_631 : decode cL_law 631 = .ok (.iadd, 1) := by decide +kernel
theorem dL_law_632 : decode cL_law 632 = .ok (.iaload, 1) := by decide +kernel
theorem dL_law_633 : decode cL_law 633 = .ok (.aload_n 0, 1) := by decide +kernel
theorem dL_law_634 : decode cL_law 634 = .ok (.iload_n 3, 1) := by decide +kernel
theorem dL_law_635 : decode cL_law 635 = .ok (.iconst 2, 1) := by decide +kernel
theorem dL_law_636 : decode cL_law 636 = .ok (.iadd, 1) := by decide +kernel
theorem dL_law_637 : decode cL_law 637 = .ok (.iaload, 1) := by decide +kernel
theorem dL_law_638 : decode cL_law 638 = .ok (.invokevirtual 66, 3) := by decide +kernel
theorem dL_law_641 : decode cL_law 641 = .ok (.if_icmp .eq 570, 3) := by decide +kernel
theorem dL_law_644 : decode cL_law 644 = .ok (.iconst 0, 1) := by decide +kernel
theorem dL_law_645 : decode cL_law 645 = .ok (.ireturn, 1) := by decide +kernel
theorem dL_law_646 : decode cL_law 646 = .ok (.aload_n 1, 1) := by decide +kernel
theorem dL_law_647 : decode cL_law 647 = .ok (.aload_n 0, 1) := by decide +kernel
theorem dL_law_648 : decode cL_law 648 = .ok (.iload_n 3, 1) := by decide +kernel
theorem dL_law_649 : decode cL_law 649 = .ok (.iconst 1, 1) := by decide +kernel
theorem dL_law_650 : decode cL_law 650 = .ok (.iadd, 1) := by decide +kernel
theorem dL_law_651 : decode cL_law 651 = .ok (.iaload, 1) := by decide +kernel
theorem dL_law_652 : decode cL_law 652 = .ok (.aload_n 0, 1) := by decide +kernel
theorem dL_law_653 : decode cL_law 653 = .ok (.iload_n 3, 1) := by decide +kernel
theorem dL_law_654 : decode cL_law 654 = .ok (.iconst 2, 1) := by decide +kernel
theorem dL_law_655 : decode cL_law 655 = .ok (.iadd, 1) := by decide +kernel
theorem dL_law_656 : decode cL_law 656 = .ok (.iaload, 1) := by decide +kernel
theorem dL_law_657 : decode cL_law 657 = .ok (.invokevirtual 67, 3) := by decide +kernel
theorem dL_law_660 : decode cL_law 660 = .ok (.aload_n 2, 1) := by decide +kernel
theorem dL_law_661 : decode cL_law 661 = .ok (.aload_n 0, 1) := by decide +kernel
theorem dL_law_662 : decode cL_law 662 = .ok (.iload_n 3, 1) := by decide +kernel
theorem dL_law_663 : decode cL_law 663 = .ok (.iconst 1, 1) := by decide +kernel
theorem dL_law_664 : decode cL_law 664 = .ok (.iadd, 1) := by decide +kernel
theorem dL_law_665 : decode cL_law 665 = .ok (.iaload, 1) := by decide +kernel
theorem dL_law_666 : decode cL_law 666 = .ok (.aload_n 0, 1) := by decide +kernel
theorem dL_law_667 : decode cL_law 667 = .ok (.iload_n 3, 1) := by decide +kernel
theorem dL_law_668 : decode cL_law 668 = .ok (.iconst 2, 1) := by decide +kernel
theorem dL_law_669 : decode cL_law 669 = .ok (.iadd, 1) := by decide +kernel
theorem dL_law_670 : decode cL_law 670 = .ok (.iaload, 1) := by decide +kernel
theorem dL_law_671 : decode cL_law 671 = .ok (.invokevirtual 70, 3) := by decide +kernel
theorem dL_law_674 : decode cL_law 674 = .ok (.if_icmp .eq 537, 3) := by decide +kernel
theorem dL_law_677 : decode cL_law 677 = .ok (.iconst 0, 1) := by decide +kernel
theorem dL_law_678 : decode cL_law 678 = .ok (.ireturn, 1) := by decide +kernel
theorem dL_law_679 : decode cL_law 679 = .ok (.aload_n 1, 1) := by decide +kernel
theorem dL_law_680 : decode cL_law 680 = .ok (.aload_n 0, 1) := by decide +kernel
theorem dL_law_681 : decode cL_law 681 = .ok (.iload_n 3, 1) := by decide +kernel
theorem dL_law_682 : decode cL_law 682 = .ok (.iconst 1, 1) := by decide +kernel
theorem dL_law_683 : decode cL_law 683 = .ok (.iadd, 1) := by decide +kernel
theorem dL_law_684 : decode cL_law 684 = .ok (.iaload, 1) := by decide +kernel
theorem dL_law_685 : decode cL_law 685 = .ok (.aload_n 0, 1) := by decide +kernel
theorem dL_law_686 : decode cL_law 686 = .ok (.iload_n 3, 1) := by decide +kernel
theorem dL_law_687 : decode cL_law 687 = .ok (.iconst 2, 1) := by decide +kernel
theorem dL_law_688 : decode cL_law 688 = .ok (.iadd, 1) := by decide +kernel
theorem dL_law_689 : decode cL_law 689 = .ok (.iaload, 1) := by decide +kernel
theorem dL_law_690 : decode cL_law 690 = .ok (.invokevirtual 71, 3) := by decide +kernel
theorem dL_law_693 : decode cL_law 693 = .ok (.aload_n 2, 1) := by decide +kernel
theorem dL_law_694 : decode cL_law 694 = .ok (.aload_n 0, 1) := by decide +kernel
theorem dL_law_695 : decode cL_law 695 = .ok (.iload_n 3, 1) := by decide +kernel
theorem dL_law_696 : decode cL_law 696 = .ok (.iconst 1, 1) := by decide +kernel
theorem dL_law_697 : decode cL_law 697 = .ok (.iadd, 1) := by decide +kernel
theorem dL_law_698 : decode cL_law 698 = .ok (.iaload, 1) := by decide +kernel
theorem dL_law_699 : decode cL_law 699 = .ok (.aload_n 0, 1) := by decide +kernel
theorem dL_law_700 : decode cL_law 700 = .ok (.iload_n 3, 1) := by decide +kernel
theorem dL_law_701 : decode cL_law 701 = .ok (.iconst 2, 1) := by decide +kernel
theorem dL_law_702 : decode cL_law 702 = .ok (.iadd, 1) := by decide +kernel
theorem dL_law_703 : decode cL_law 703 = .ok (.iaload, 1) := by decide +kernel
theorem dL_law_704 : decode cL_law 704 = .ok (.invokevirtual 75, 3) := by decide +kernel
theorem dL_law_707 : decode cL_law 707 = .ok (.lcmp, 1) := by decide +kernel
theorem dL_law_708 : decode cL_law 708 = .ok (.ifCond .eq 503, 3) := by decide +kernel
theorem dL_law_711 : decode cL_law 711 = .ok (.iconst 0, 1) := by decide +kernel
theorem dL_law_712 : decode cL_law 712 = .ok (.ireturn, 1) := by decide +kernel
theorem dL_law_713 : decode cL_law 713 = .ok (.aload_n 1, 1) := by decide +kernel
theorem dL_law_714 : decode cL_law 714 = .ok (.aload_n 0, 1) := by decide +kernel
theorem dL_law_715 : decode cL_law 715 = .ok (.iload_n 3, 1) := by decide +kernel
theorem dL_law_716 : decode cL_law 716 = .ok (.iconst 1, 1) := by decide +kernel
theorem dL_law_717 : decode cL_law 717 = .ok (.iadd, 1) := by decide +kernel
theorem dL_law_718 : decode cL_law 718 = .ok (.iaload, 1) := by decide +kernel
theorem dL_law_719 : decode cL_law 719 = .ok (.aload_n 0, 1) := by decide +kernel
theorem dL_law_720 : decode cL_law 720 = .ok (.iload_n 3, 1) := by decide +kernel
theorem dL_law_721 : decode cL_law 721 = .ok (.iconst 2, 1) := by decide +kernel
theorem dL_law_722 : decode cL_law 722 = .ok (.iadd, 1) := by decide +kernel
theorem dL_law_723 : decode cL_law 723 = .ok (.iaload, 1) := by decide +kernel
theorem dL_law_724 : decode cL_law 724 = .ok (.aload_n 0, 1) := by decide +kernel
theorem dL_law_725 : decode cL_law 725 = .ok (.iload_n 3, 1) := by decide +kernel
theorem dL_law_726 : decode cL_law 726 = .ok (.iconst 3, 1) := by decide +kernel
theorem dL_law_727 : decode cL_law 727 = .ok (.iadd, 1) := by decide +kernel
theorem dL_law_728 : decode cL_law 728 = .ok (.iaload, 1) := by decide +kernel
theorem dL_law_729 : decode cL_law 729 = .ok (.aload_n 0, 1) := by decide +kernel
theorem dL_law_730 : decode cL_law 730 = .ok (.iload_n 3, 1) := by decide +kernel
theorem dL_law_731 : decode cL_law 731 = .ok (.iconst 4, 1) := by decide +kernel
theorem dL_law_732 : decode cL_law 732 = .ok (.iadd, 1) := by decide +kernel
theorem dL_law_733 : decode cL_law 733 = .ok (.iaload, 1) := by decide +kernel
theorem dL_law_734 : decode cL_law 734 = .ok (.invokevirtual 76, 3) := by decide +kernel
theorem dL_law_737 : decode cL_law 737 = .ok (.aload_n 2, 1) := by decide +kernel
theorem dL_law_738 : decode cL_law 738 = .ok (.aload_n 0, 1) := by decide +kernel
theorem dL_law_739 : decode cL_law 739 = .ok (.iload_n 3, 1) := by decide +kernel
theorem dL_law_740 : decode cL_law 740 = .ok (.iconst 1, 1) := by decide +kernel
theorem dL_law_741 : decode cL_law 741 = .ok (.iadd, 1) := by decide +kernel
theorem dL_law_742 : decode cL_law 742 = .ok (.iaload, 1) := by decide +kernel
theorem dL_law_743 : decode cL_law 743 = .ok (.aload_n 0, 1) := by decide +kernel
theorem dL_law_744 : decode cL_law 744 = .ok (.iload_n 3, 1) := by decide +kernel
theorem dL_law_745 : decode cL_law 745 = .ok (.iconst 2, 1) := by decide +kernel
theorem dL_law_746 : decode cL_law 746 = .ok (.iadd, 1) := by decide +kernel
theorem dL_law_747 : decode cL_law 747 = .ok (.iaload, 1) := by decide +kernel
theorem dL_law_748 : decode cL_law 748 = .ok (.aload_n 0, 1) := by decide +kernel
theorem dL_law_749 : decode cL_law 749 = .ok (.iload_n 3, 1) := by decide +kernel
theorem dL_law_750 : decode cL_law 750 = .ok (.iconst 3, 1) := by decide +kernel
theorem dL_law_751 : decode cL_law 751 = .ok (.iadd, 1) := by decide +kernel
theorem dL_law_752 : decode cL_law 752 = .ok (.iaload, 1) := by decide +kernel
theorem dL_law_753 : decode cL_law 753 = .ok (.aload_n 0, 1) := by decide +kernel
theorem dL_law_754 : decode cL_law 754 = .ok (.iload_n 3, 1) := by decide +kernel
theorem dL_law_755 : decode cL_law 755 = .ok (.iconst 4, 1) := by decide +kernel
theorem dL_law_756 : decode cL_law 756 = .ok (.iadd, 1) := by decide +kernel
theorem dL_law_757 : decode cL_law 757 = .ok (.iaload, 1) := by decide +kernel
theorem dL_law_758 : decode cL_law 758 = .ok (.invokevirtual 80, 3) := by decide +kernel
theorem dL_law_761 : decode cL_law 761 = .ok (.if_icmp .eq 450, 3) := by decide +kernel
theorem dL_law_764 : decode cL_law 764 = .ok (.iconst 0, 1) := by decide +kernel
theorem dL_law_765 : decode cL_law 765 = .ok (.ireturn, 1) := by decide +kernel
theorem dL_law_766 : decode cL_law 766 = .ok (.aload_n 1, 1) := by decide +kernel
theorem dL_law_767 : decode cL_law 767 = .ok (.aload_n 0, 1) := by decide +kernel
theorem dL_law_768 : decode cL_law 768 = .ok (.iload_n 3, 1) := by decide +kernel
theorem dL_law_769 : decode cL_law 769 = .ok (.iconst 1, 1) := by decide +kernel
theorem dL_law_770 : decode cL_law 770 = .ok (.iadd, 1) := by decide +kernel
theorem dL_law_771 : decode cL_law 771 = .ok (.iaload, 1) := by decide +kernel
theorem dL_law_772 : decode cL_law 772 = .ok (.aload_n 0, 1) := by decide +kernel
theorem dL_law_773 : decode cL_law 773 = .ok (.iload_n 3, 1) := by decide +kernel
theorem dL_law_774 : decode cL_law 774 = .ok (.iconst 2, 1) := by decide +kernel
theorem dL_law_775 : decode cL_law 775 = .ok (.iadd, 1) := by decide +kernel
theorem dL_law_776 : decode cL_law 776 = .ok (.iaload, 1) := by decide +kernel
theorem dL_law_777 : decode cL_law 777 = .ok (.invokevirtual 81, 3) := by decide +kernel
theorem dL_law_780 : decode cL_law 780 = .ok (.aload_n 2, 1) := by decide +kernel
theorem dL_law_781 : decode cL_law 781 = .ok (.aload_n 0, 1) := by decide +kernel
theorem dL_law_782 : decode cL_law 782 = .ok (.iload_n 3, 1) := by decide +kernel
theorem dL_law_783 : decode cL_law 783 = .ok (.iconst 1, 1) := by decide +kernel
theorem dL_law_784 : decode cL_law 784 = .ok (.iadd, 1) := by decide +kernel
theorem dL_law_785 : decode cL_law 785 = .ok (.iaload, 1) := by decide +kernel
theorem dL_law_786 : decode cL_law 786 = .ok (.aload_n 0, 1) := by decide +kernel
theorem dL_law_787 : decode cL_law 787 = .ok (.iload_n 3, 1) := by decide +kernel
theorem dL_law_788 : decode cL_law 788 = .ok (.iconst 2, 1) := by decide +kernel
theorem dL_law_789 : decode cL_law 789 = .ok (.iadd, 1) := by decide +kernel
theorem dL_law_790 : decode cL_law 790 = .ok (.iaload, 1) := by decide +kernel
theorem dL_law_791 : decode cL_law 791 = .ok (.invokevirtual 84, 3) := by decide +kernel
theorem dL_law_794 : decode cL_law 794 = .ok (.if_icmp .eq 417, 3) := by decide +kernel
theorem dL_law_797 : decode cL_law 797 = .ok (.iconst 0, 1) := by decide +kernel
theorem dL_law_798 : decode cL_law 798 = .ok (.ireturn, 1) := by decide +kernel
theorem dL_law_799 : decode cL_law 799 = .ok (.aload_n 1, 1) := by decide +kernel
theorem dL_law_800 : decode cL_law 800 = .ok (.aload_n 0, 1) := by decide +kernel
theorem dL_law_801 : decode cL_law 801 = .ok (.iload_n 3, 1) := by decide +kernel
theorem dL_law_802 : decode cL_law 802 = .ok (.iconst 1, 1) := by decide +kernel
theorem dL_law_803 : decode cL_law 803 = .ok (.iadd, 1) := by decide +kernel
theorem dL_law_804 : decode cL_law 804 = .ok (.iaload, 1) := by decide +kernel
theorem dL_law_805 : decode cL_law 805 = .ok (.aload_n 0, 1) := by decide +kernel
theorem dL_law_806 : decode cL_law 806 = .ok (.iload_n 3, 1) := by decide +kernel
theorem dL_law_807 : decode cL_law 807 = .ok (.iconst 2, 1) := by decide +kernel
theorem dL_law_808 : decode cL_law 808 = .ok (.iadd, 1) := by decide +kernel
theorem dL_law_809 : decode cL_law 809 = .ok (.iaload, 1) := by decide +kernel
theorem dL_law_810 : decode cL_law 810 = .ok (.aload_n 0, 1) := by decide +kernel
theorem dL_law_811 : decode cL_law 811 = .ok (.iload_n 3, 1) := by decide +kernel
theorem dL_law_812 : decode cL_law 812 = .ok (.iconst 3, 1) := by decide +kernel
theorem dL_law_813 : decode cL_law 813 = .ok (.iadd, 1) := by decide +kernel
theorem dL_law_814 : decode cL_law 814 = .ok (.iaload, 1) := by decide +kernel
theorem dL_law_815 : decode cL_law 815 = .ok (.invokevirtual 85, 3) := by decide +kernel
theorem dL_law_818 : decode cL_law 818 = .ok (.aload_n 2, 1) := by decide +kernel
theorem dL_law_819 : decode cL_law 819 = .ok (.aload_n 0, 1) := by decide +kernel
theorem dL_law_820 : decode cL_law 820 = .ok (.iload_n 3, 1) := by decide +kernel
theorem dL_law_821 : decode cL_law 821 = .ok (.iconst 1, 1) := by decide +kernel
theorem dL_law_822 : decode cL_law 822 = .ok (.iadd, 1) := by decide +kernel
theorem dL_law_823 : decode cL_law 823 = .ok (.iaload, 1) := by decide +kernel
theorem dL_law_824 : decode cL_law 824 = .ok (.aload_n 0, 1) := by decide +kernel
theorem dL_law_825 : decode cL_law 825 = .ok (.iload_n 3, 1) := by decide +kernel
theorem dL_law_826 : decode cL_law 826 = .ok (.iconst 2, 1) := by decide +kernel
theorem dL_law_827 : decode cL_law 827 = .ok (.iadd, 1) := by decide +kernel
theorem dL_law_828 : decode cL_law 828 = .ok (.iaload, 1) := by decide +kernel
theorem dL_law_829 : decode cL_law 829 = .ok (.aload_n 0, 1) := by decide +kernel
theorem dL_law_830 : decode cL_law 830 = .ok (.iload_n 3, 1) := by decide +kernel
theorem dL_law_831 : decode cL_law 831 = .ok (.iconst 3, 1) := by decide +kernel
theorem dL_law_832 : decode cL_law 832 = .ok (.iadd, 1) := by decide +kernel
theorem dL_law_833 : decode cL_law 833 = .ok (.iaload, 1) := by decide +kernel
theorem dL_law_834 : decode cL_law 834 = .ok (.invokevirtual 89, 3) := by decide +kernel
theorem dL_law_837 : decode cL_law 837 = .ok (.if_icmp .eq 374, 3) := by decide +kernel
theorem dL_law_840 : decode cL_law 840 = .ok (.iconst 0, 1) := by decide +kernel
theorem dL_law_841 : decode cL_law 841 = .ok (.ireturn, 1) := by decide +kernel
theorem dL_law_842 : decode cL_law 842 = .ok (.aload_n 1, 1) := by decide +kernel
theorem dL_law_843 : decode cL_law 843 = .ok (.aload_n 0, 1) := by decide +kernel
theorem dL_law_844 : decode cL_law 844 = .ok (.iload_n 3, 1) := by decide +kernel
theorem dL_law_845 : decode cL_law 845 = .ok (.iconst 1, 1) := by decide +kernel
theorem dL_law_846 : decode cL_law 846 = .ok (.iadd, 1) := by decide +kernel
theorem dL_law_847 : decode cL_law 847 = .ok (.iaload, 1) := by decide +kernel
theorem dL_law_848 : decode cL_law 848 = .ok (.aload_n 0, 1) := by decide +kernel
theorem dL_law_849 : decode cL_law 849 = .ok (.iload_n 3, 1) := by decide +kernel
theorem dL_law_850 : decode cL_law 850 = .ok (.iconst 2, 1) := by decide +kernel
theorem dL_law_851 : decode cL_law 851 = .ok (.iadd, 1) := by decide +kernel
theorem dL_law_852 : decode cL_law 852 = .ok (.iaload, 1) := by decide +kernel
theorem dL_law_853 : decode cL_law 853 = .ok (.invokevirtual 90, 3) := by decide +kernel
theorem dL_law_856 : decode cL_law 856 = .ok (.aload_n 2, 1) := by decide +kernel
theorem dL_law_857 : decode cL_law 857 = .ok (.aload_n 0, 1) := by decide +kernel
theorem dL_law_858 : decode cL_law 858 = .ok (.iload_n 3, 1) := by decide +kernel
theorem dL_law_859 : decode cL_law 859 = .ok (.iconst 1, 1) := by decide +kernel
theorem dL_law_860 : decode cL_law 860 = .ok (.iadd, 1) := by decide +kernel
theorem dL_law_861 : decode cL_law 861 = .ok (.iaload, 1) := by decide +kernel
theorem dL_law_862 : decode cL_law 862 = .ok (.aload_n 0, 1) := by decide +kernel
theorem dL_law_863 : decode cL_law 863 = .ok (.iload_n 3, 1) := by decide +kernel
theorem dL_law_864 : decode cL_law 864 = .ok (.iconst 2, 1) := by decide +kernel
theorem dL_law_865 : decode cL_law 865 = .ok (.iadd, 1) := by decide +kernel
theorem dL_law_866 : decode cL_law 866 = .ok (.iaload, 1) := by decide +kernel
theorem dL_law_867 : decode cL_law 867 = .ok (.invokevirtual 93, 3) := by decide +kernel
theorem dL_law_870 : decode cL_law 870 = .ok (.if_icmp .eq 341, 3) := by decide +kernel
theorem dL_law_873 : decode cL_law 873 = .ok (.iconst 0, 1) := by decide +kernel
theorem dL_law_874 : decode cL_law 874 = .ok (.ireturn, 1) := by decide +kernel
theorem dL_law_875 : decode cL_law 875 = .ok (.aload_n 1, 1) := by decide +kernel
theorem dL_law_876 : decode cL_law 876 = .ok (.aload_n 0, 1) := by decide +kernel
theorem dL_law_877 : decode cL_law 877 = .ok (.iload_n 3, 1) := by decide +kernel
theorem dL_law_878 : decode cL_law 878 = .ok (.iconst 1, 1) := by decide +kernel
theorem dL_law_879 : decode cL_law 879 = .ok (.iadd, 1) := by decide +kernel
theorem dL_law_880 : decode cL_law 880 = .ok (.iaload, 1) := by decide +kernel
theorem dL_law_881 : decode cL_law 881 = .ok (.invokevirtual 94, 3) := by decide +kernel
theorem dL_law_884 : decode cL_law 884 = .ok (.aload_n 2, 1) := by decide +kernel
theorem dL_law_885 : decode cL_law 885 = .ok (.aload_n 0, 1) := by decide +kernel
theorem dL_law_886 : decode cL_law 886 = .ok (.iload_n 3, 1) := by decide +kernel
theorem dL_law_887 : decode cL_law 887 = .ok (.iconst 1, 1) := by decide +kernel
theorem dL_law_888 : decode cL_law 888 = .ok (.iadd, 1) := by decide +kernel
theorem dL_law_889 : decode cL_law 889 = .ok (.iaload, 1) := by decide +kernel
theorem dL_law_890 : decode cL_law 890 = .ok (.invokevirtual 97, 3) := by decide +kernel
theorem dL_law_893 : decode cL_law 893 = .ok (.if_icmp .eq 318, 3) := by decide +kernel
theorem dL_law_896 : decode cL_law 896 = .ok (.iconst 0, 1) := by decide +kernel
theorem dL_law_897 : decode cL_law 897 = .ok (.ireturn, 1) := by decide +kernel
theorem dL_law_898 : decode cL_law 898 = .ok (.aload_n 1, 1) := by decide +kernel
theorem dL_law_899 : decode cL_law 899 = .ok (.aload_n 0, 1) := by decide +kernel
theorem dL_law_900 : decode cL_law 900 = .ok (.iload_n 3, 1) := by decide +kernel
theorem dL_law_901 : decode cL_law 901 = .ok (.iconst 1, 1) := by decide +kernel
theorem dL_law_902 : decode cL_law 902 = .ok (.iadd, 1) := by decide +kernel
theorem dL_law_903 : decode cL_law 903 = .ok (.iaload, 1) := by decide +kernel
theorem dL_law_904 : decode cL_law 904 = .ok (.invokevirtual 98, 3) := by decide +kernel
theorem dL_law_907 : decode cL_law 907 = .ok (.aload_n 2, 1) := by decide +kernel
theorem dL_law_908 : decode cL_law 908 = .ok (.aload_n 0, 1) := by decide +kernel
theorem dL_law_909 : decode cL_law 909 = .ok (.iload_n 3, 1) := by decide +kernel
theorem dL_law_910 : decode cL_law 910 = .ok (.iconst 1, 1) := by decide +kernel
theorem dL_law_911 : decode cL_law 911 = .ok (.iadd, 1) := by decide +kernel
theorem dL_law_912 : decode cL_law 912 = .ok (.iaload, 1) := by decide +kernel
theorem dL_law_913 : decode cL_law 913 = .ok (.invokevirtual 101, 3) := by decide +kernel
theorem dL_law_916 : decode cL_law 916 = .ok (.if_icmp .eq 295, 3) := by decide +kernel
theorem dL_law_919 : decode cL_law 919 = .ok (.iconst 0, 1) := by decide +kernel
theorem dL_law_920 : decode cL_law 920 = .ok (.ireturn, 1) := by decide +kernel
theorem dL_law_921 : decode cL_law 921 = .ok (.aload_n 1, 1) := by decide +kernel
theorem dL_law_922 : decode cL_law 922 = .ok (.aload_n 0, 1) := by decide +kernel
theorem dL_law_923 : decode cL_law 923 = .ok (.iload_n 3, 1) := by decide +kernel
theorem dL_law_924 : decode cL_law 924 = .ok (.iconst 1, 1) := by decide +kernel
theorem dL_law_925 : decode cL_law 925 = .ok (.iadd, 1) := by decide +kernel
theorem dL_law_926 : decode cL_law 926 = .ok (.iaload, 1) := by decide +kernel
theorem dL_law_927 : decode cL_law 927 = .ok (.aload_n 0, 1) := by decide +kernel
theorem dL_law_928 : decode cL_law 928 = .ok (.iload_n 3, 1) := by decide +kernel
theorem dL_law_929 : decode cL_law 929 = .ok (.iconst 2, 1) := by decide +kernel
theorem dL_law_930 : decode cL_law 930 = .ok (.iadd, 1) := by decide +kernel
theorem dL_law_931 : decode cL_law 931 = .ok (.iaload, 1) := by decide +kernel
theorem dL_law_932 : decode cL_law 932 = .ok (.aload_n 0, 1) := by decide +kernel
theorem dL_law_933 : decode cL_law 933 = .ok (.iload_n 3, 1) := by decide +kernel
theorem dL_law_934 : decode cL_law 934 = .ok (.iconst 3, 1) := by decide +kernel
theorem dL_law_935 : decode cL_law 935 = .ok (.iadd, 1) := by decide +kernel
theorem dL_law_936 : decode cL_law 936 = .ok (.iaload, 1) := by decide +kernel
theorem dL_law_937 : decode cL_law 937 = .ok (.invokevirtual 102, 3) := by decide +kernel
theorem dL_law_940 : decode cL_law 940 = .ok (.aload_n 2, 1) := by decide +kernel
theorem dL_law_941 : decode cL_law 941 = .ok (.aload_n 0, 1) := by decide +kernel
theorem dL_law_942 : decode cL_law 942 = .ok (.iload_n 3, 1) := by decide +kernel
theorem dL_law_943 : decode cL_law 943 = .ok (.iconst 1, 1) := by decide +kernel
theorem dL_law_944 : decode cL_law 944 = .ok (.iadd, 1) := by decide +kernel
theorem dL_law_945 : decode cL_law 945 = .ok (.iaload, 1) := by decide +kernel
theorem dL_law_946 : decode cL_law 946 = .ok (.aload_n 0, 1) := by decide +kernel
theorem dL_law_947 : decode cL_law 947 = .ok (.iload_n 3, 1) := by decide +kernel
theorem dL_law_948 : decode cL_law 948 = .ok (.iconst 2, 1) := by decide +kernel
theorem dL_law_949 : decode cL_law 949 = .ok (.iadd, 1) := by decide +kernel
theorem dL_law_950 : decode cL_law 950 = .ok (.iaload, 1) := by decide +kernel
theorem dL_law_951 : decode cL_law 951 = .ok (.aload_n 0, 1) := by decide +kernel
theorem dL_law_952 : decode cL_law 952 = .ok (.iload_n 3, 1) := by decide +kernel
theorem dL_law_953 : decode cL_law 953 = .ok (.iconst 3, 1) := by decide +kernel
theorem dL_law_954 : decode cL_law 954 = .ok (.iadd, 1) := by decide +kernel
theorem dL_law_955 : decode cL_law 955 = .ok (.iaload, 1) := by decide +kernel
theorem dL_law_956 : decode cL_law 956 = .ok (.invokevirtual 105, 3) := by decide +kernel
theorem dL_law_959 : decode cL_law 959 = .ok (.if_icmp .eq 252, 3) := by decide +kernel
theorem dL_law_962 : decode cL_law 962 = .ok (.iconst 0, 1) := by decide +kernel
theorem dL_law_963 : decode cL_law 963 = .ok (.ireturn, 1) := by decide +kernel
theorem dL_law_964 : decode cL_law 964 = .ok (.aload_n 1, 1) := by decide +kernel
theorem dL_law_965 : decode cL_law 965 = .ok (.aload_n 0, 1) := by decide +kernel
theorem dL_law_966 : decode cL_law 966 = .ok (.iload_n 3, 1) := by decide +kernel
theorem dL_law_967 : decode cL_law 967 = .ok (.iconst 1, 1) := by decide +kernel
theorem dL_law_968 : decode cL_law 968 = .ok (.iadd, 1) := by decide +kernel
theorem dL_law_969 : decode cL_law 969 = .ok (.iaload, 1) := by decide +kernel
theorem dL_law_970 : decode cL_law 970 = .ok (.aload_n 0, 1) := by decide +kernel
theorem dL_law_971 : decode cL_law 971 = .ok (.iload_n 3, 1) := by decide +kernel
theorem dL_law_972 : decode cL_law 972 = .ok (.iconst 2, 1) := by decide +kernel
theorem dL_law_973 : decode cL_law 973 = .ok (.iadd, 1) := by decide +kernel
theorem dL_law_974 : decode cL_law 974 = .ok (.iaload, 1) := by decide +kernel
theorem dL_law_975 : decode cL_law 975 = .ok (.invokevirtual 106, 3) := by decide +kernel
theorem dL_law_978 : decode cL_law 978 = .ok (.aload_n 2, 1) := by decide +kernel
theorem dL_law_979 : decode cL_law 979 = .ok (.aload_n 0, 1) := by decide +kernel
theorem dL_law_980 : decode cL_law 980 = .ok (.iload_n 3, 1) := by decide +kernel
theorem dL_law_981 : decode cL_law 981 = .ok (.iconst 1, 1) := by decide +kernel
theorem dL_law_982 : decode cL_law 982 = .ok (.iadd, 1) := by decide +kernel
theorem dL_law_983 : decode cL_law 983 = .ok (.iaload, 1) := by decide +kernel
theorem dL_law_984 : decode cL_law 984 = .ok (.aload_n 0, 1) := by decide +kernel
theorem dL_law_985 : decode cL_law 985 = .ok (.iload_n 3, 1) := by decide +kernel
theorem dL_law_986 : decode cL_law 986 = .ok (.iconst 2, 1) := by decide +kernel
theorem dL_law_987 : decode cL_law 987 = .ok (.iadd, 1) := by decide +kernel
theorem dL_law_988 : decode cL_law 988 = .ok (.iaload, 1) := by decide +kernel
theorem dL_law_989 : decode cL_law 989 = .ok (.invokevirtual 109, 3) := by decide +kernel
theorem dL_law_992 : decode cL_law 992 = .ok (.if_icmp .eq 219, 3) := by decide +kernel
theorem dL_law_995 : decode cL_law 995 = .ok (.iconst 0, 1) := by decide +kernel
theorem dL_law_996 : decode cL_law 996 = .ok (.ireturn, 1) := by decide +kernel
theorem dL_law_997 : decode cL_law 997 = .ok (.aload_n 1, 1) := by decide +kernel
theorem dL_law_998 : decode cL_law 998 = .ok (.aload_n 0, 1) := by decide +kernel
theorem dL_law_999 : decode cL_law 999 = .ok (.iload_n 3, 1) := by decide +kernel
theorem dL_law_1000 : decode cL_law 1000 = .ok (.iconst 1, 1) := by decide +kernel
theorem dL_law_1001 : decode cL_law 1001 = .ok (.iadd, 1) := by decide +kernel
theorem dL_law_1002 : decode cL_law 1002 = .ok (.iaload, 1) := by decide +kernel
theorem dL_law_1003 : decode cL_law 1003 = .ok (.aload_n 0, 1) := by decide +kernel
theorem dL_law_1004 : decode cL_law 1004 = .ok (.iload_n 3, 1) := by decide +kernel
theorem dL_law_1005 : decode cL_law 1005 = .ok (.iconst 2, 1) := by decide +kernel
theorem dL_law_1006 : decode cL_law 1006 = .ok (.iadd, 1) := by decide +kernel
theorem dL_law_1007 : decode cL_law 1007 = .ok (.iaload, 1) := by decide +kernel
theorem dL_law_1008 : decode cL_law 1008 = .ok (.aload_n 0, 1) := by decide +kernel
theorem dL_law_1009 : decode cL_law 1009 = .ok (.iload_n 3, 1) := by decide +kernel
theorem dL_law_1010 : decode cL_law 1010 = .ok (.iconst 3, 1) := by decide +kernel
theorem dL_law_1011 : decode cL_law 1011 = .ok (.iadd, 1) := by decide +kernel
theorem dL_law_1012 : decode cL_law 1012 = .ok (.iaload, 1) := by decide +kernel
theorem dL_law_1013 : decode cL_law 1013 = .ok (.invokevirtual 110, 3) := by decide +kernel
theorem dL_law_1016 : decode cL_law 1016 = .ok (.aload_n 2, 1) := by decide +kernel
theorem dL_law_1017 : decode cL_law 1017 = .ok (.aload_n 0, 1) := by decide +kernel
theorem dL_law_1018 : decode cL_law 1018 = .ok (.iload_n 3, 1) := by decide +kernel
theorem dL_law_1019 : decode cL_law 1019 = .ok (.iconst 1, 1) := by decide +kernel
theorem dL_law_1020 : decode cL_law 1020 = .ok (.iadd, 1) := by decide +kernel
theorem dL_law_1021 : decode cL_law 1021 = .ok (.iaload, 1) := by decide +kernel
theorem dL_law_1022 : decode cL_law 1022 = .ok (.aload_n 0, 1) := by decide +kernel
theorem dL_law_1023 : decode cL_law 1023 = .ok (.iload_n 3, 1) := by decide +kernel
theorem dL_law_1024 : decode cL_law 1024 = .ok (.iconst 2, 1) := by decide +kernel
theorem dL_law_1025 : decode cL_law 1025 = .ok (.iadd, 1) := by decide +kernel
theorem dL_law_1026 : decode cL_law 1026 = .ok (.iaload, 1) := by decide +kernel
theorem dL_law_1027 : decode cL_law 1027 = .ok (.aload_n 0, 1) := by decide +kernel
theorem dL_law_1028 : decode cL_law 1028 = .ok (.iload_n 3, 1) := by decide +kernel
theorem dL_law_1029 : decode cL_law 1029 = .ok (.iconst 3, 1) := by decide +kernel
theorem dL_law_1030 : decode cL_law 1030 = .ok (.iadd, 1) := by decide +kernel
theorem dL_law_1031 : decode cL_law 1031 = .ok (.iaload, 1) := by decide +kernel
theorem dL_law_1032 : decode cL_law 1032 = .ok (.invokevirtual 113, 3) := by decide +kernel
theorem dL_law_1035 : decode cL_law 1035 = .ok (.if_icmp .eq 176, 3) := by decide +kernel
theorem dL_law_1038 : decode cL_law 1038 = .ok (.iconst 0, 1) := by decide +kernel
theorem dL_law_1039 : decode cL_law 1039 = .ok (.ireturn, 1) := by decide +kernel
theorem dL_law_1040 : decode cL_law 1040 = .ok (.aload_n 1, 1) := by decide +kernel
theorem dL_law_1041 : decode cL_law 1041 = .ok (.aload_n 0, 1) := by decide +kernel
theorem dL_law_1042 : decode cL_law 1042 = .ok (.iload_n 3, 1) := by decide +kernel
theorem dL_law_1043 : decode cL_law 1043 = .ok (.iconst 1, 1) := by decide +kernel
theorem dL_law_1044 : decode cL_law 1044 = .ok (.iadd, 1) := by decide +kernel
theorem dL_law_1045 : decode cL_law 1045 = .ok (.iaload, 1) := by decide +kernel
theorem dL_law_1046 : decode cL_law 1046 = .ok (.aload_n 0, 1) := by decide +kernel
theorem dL_law_1047 : decode cL_law 1047 = .ok (.iload_n 3, 1) := by decide +kernel
theorem dL_law_1048 : decode cL_law 1048 = .ok (.iconst 2, 1) := by decide +kernel
theorem dL_law_1049 : decode cL_law 1049 = .ok (.iadd, 1) := by decide +kernel
theorem dL_law_1050 : decode cL_law 1050 = .ok (.iaload, 1) := by decide +kernel
theorem dL_law_1051 : decode cL_law 1051 = .ok (.invokevirtual 114, 3) := by decide +kernel
theorem dL_law_1054 : decode cL_law 1054 = .ok (.aload_n 2, 1) := by decide +kernel
theorem dL_law_1055 : decode cL_law 1055 = .ok (.aload_n 0, 1) := by decide +kernel
theorem dL_law_1056 : decode cL_law 1056 = .ok (.iload_n 3, 1) := by decide +kernel
theorem dL_law_1057 : decode cL_law 1057 = .ok (.iconst 1, 1) := by decide +kernel
theorem dL_law_1058 : decode cL_law 1058 = .ok (.iadd, 1) := by decide +kernel
theorem dL_law_1059 : decode cL_law 1059 = .ok (.iaload, 1) := by decide +kernel
theorem dL_law_1060 : decode cL_law 1060 = .ok (.aload_n 0, 1) := by decide +kernel
theorem dL_law_1061 : decode cL_law 1061 = .ok (.iload_n 3, 1) := by decide +kernel
theorem dL_law_1062 : decode cL_law 1062 = .ok (.iconst 2, 1) := by decide +kernel
theorem dL_law_1063 : decode cL_law 1063 = .ok (.iadd, 1) := by decide +kernel
theorem dL_law_1064 : decode cL_law 1064 = .ok (.iaload, 1) := by decide +kernel
theorem dL_law_1065 : decode cL_law 1065 = .ok (.invokevirtual 117, 3) := by decide +kernel
theorem dL_law_1068 : decode cL_law 1068 = .ok (.if_icmp .eq 143, 3) := by decide +kernel
theorem dL_law_1071 : decode cL_law 1071 = .ok (.iconst 0, 1) := by decide +kernel
theorem dL_law_1072 : decode cL_law 1072 = .ok (.ireturn, 1) := by decide +kernel
theorem dL_law_1073 : decode cL_law 1073 = .ok (.aload_n 1, 1) := by decide +kernel
theorem dL_law_1074 : decode cL_law 1074 = .ok (.aload_n 0, 1) := by decide +kernel
theorem dL_law_1075 : decode cL_law 1075 = .ok (.iload_n 3, 1) := by decide +kernel
theorem dL_law_1076 : decode cL_law 1076 = .ok (.iconst 1, 1) := by decide +kernel
theorem dL_law_1077 : decode cL_law 1077 = .ok (.iadd, 1) := by decide +kernel
theorem dL_law_1078 : decode cL_law 1078 = .ok (.iaload, 1) := by decide +kernel
theorem dL_law_1079 : decode cL_law 1079 = .ok (.aload_n 0, 1) := by decide +kernel
theorem dL_law_1080 : decode cL_law 1080 = .ok (.iload_n 3, 1) := by decide +kernel
theorem dL_law_1081 : decode cL_law 1081 = .ok (.iconst 2, 1) := by decide +kernel
theorem dL_law_1082 : decode cL_law 1082 = .ok (.iadd, 1) := by decide +kernel
theorem dL_law_1083 : decode cL_law 1083 = .ok (.iaload, 1) := by decide +kernel
theorem dL_law_1084 : decode cL_law 1084 = .ok (.aload_n 0, 1) := by decide +kernel
theorem dL_law_1085 : decode cL_law 1085 = .ok (.iload_n 3, 1) := by decide +kernel
theorem dL_law_1086 : decode cL_law 1086 = .ok (.iconst 3, 1) := by decide +kernel
theorem dL_law_1087 : decode cL_law 1087 = .ok (.iadd, 1) := by decide +kernel
theorem dL_law_1088 : decode cL_law 1088 = .ok (.iaload, 1) := by decide +kernel
theorem dL_law_1089 : decode cL_law 1089 = .ok (.invokevirtual 118, 3) := by decide +kernel
theorem dL_law_1092 : decode cL_law 1092 = .ok (.aload_n 2, 1) := by decide +kernel
theorem dL_law_1093 : decode cL_law 1093 = .ok (.aload_n 0, 1) := by decide +kernel
theorem dL_law_1094 : decode cL_law 1094 = .ok (.iload_n 3, 1) := by decide +kernel
theorem dL_law_1095 : decode cL_law 1095 = .ok (.iconst 1, 1) := by decide +kernel
theorem dL_law_1096 : decode cL_law 1096 = .ok (.iadd, 1) := by decide +kernel
theorem dL_law_1097 : decode cL_law 1097 = .ok (.iaload, 1) := by decide +kernel
theorem dL_law_1098 : decode cL_law 1098 = .ok (.aload_n 0, 1) := by decide +kernel
theorem dL_law_1099 : decode cL_law 1099 = .ok (.iload_n 3, 1) := by decide +kernel
theorem dL_law_1100 : decode cL_law 1100 = .ok (.iconst 2, 1) := by decide +kernel
theorem dL_law_1101 : decode cL_law 1101 = .ok (.iadd, 1) := by decide +kernel
theorem dL_law_1102 : decode cL_law 1102 = .ok (.iaload, 1) := by decide +kernel
theorem dL_law_1103 : decode cL_law 1103 = .ok (.aload_n 0, 1) := by decide +kernel
theorem dL_law_1104 : decode cL_law 1104 = .ok (.iload_n 3, 1) := by decide +kernel
theorem dL_law_1105 : decode cL_law 1105 = .ok (.iconst 3, 1) := by decide +kernel
theorem dL_law_1106 : decode cL_law 1106 = .ok (.iadd, 1) := by decide +kernel
theorem dL_law_1107 : decode cL_law 1107 = .ok (.iaload, 1) := by decide +kernel
theorem dL_law_1108 : decode cL_law 1108 = .ok (.invokevirtual 121, 3) := by decide +kernel
theorem dL_law_1111 : decode cL_law 1111 = .ok (.if_icmp .eq 100, 3) := by decide +kernel
theorem dL_law_1114 : decode cL_law 1114 = .ok (.iconst 0, 1) := by decide +kernel
theorem dL_law_1115 : decode cL_law 1115 = .ok (.ireturn, 1) := by decide +kernel
theorem dL_law_1116 : decode cL_law 1116 = .ok (.aload_n 1, 1) := by decide +kernel
theorem dL_law_1117 : decode cL_law 1117 = .ok (.aload_n 0, 1) := by decide +kernel
theorem dL_law_1118 : decode cL_law 1118 = .ok (.iload_n 3, 1) := by decide +kernel
theorem dL_law_1119 : decode cL_law 1119 = .ok (.iconst 1, 1) := by decide +kernel
theorem dL_law_1120 : decode cL_law 1120 = .ok (.iadd, 1) := by decide +kernel
theorem dL_law_1121 : decode cL_law 1121 = .ok (.iaload, 1) := by decide +kernel
theorem dL_law_1122 : decode cL_law 1122 = .ok (.invokevirtual 122, 3) := by decide +kernel
theorem dL_law_1125 : decode cL_law 1125 = .ok (.aload_n 2, 1) := by decide +kernel
theorem dL_law_1126 : decode cL_law 1126 = .ok (.aload_n 0, 1) := by decide +kernel
theorem dL_law_1127 : decode cL_law 1127 = .ok (.iload_n 3, 1) := by decide +kernel
theorem dL_law_1128 : decode cL_law 1128 = .ok (.iconst 1, 1) := by decide +kernel
theorem dL_law_1129 : decode cL_law 1129 = .ok (.iadd, 1) := by decide +kernel
theorem dL_law_1130 : decode cL_law 1130 = .ok (.iaload, 1) := by decide +kernel
theorem dL_law_1131 : decode cL_law 1131 = .ok (.invokevirtual 126, 3) := by decide +kernel
theorem dL_law_1134 : decode cL_law 1134 = .ok (.if_icmp .eq 77, 3) := by decide +kernel
theorem dL_law_1137 : decode cL_law 1137 = .ok (.iconst 0, 1) := by decide +kernel
theorem dL_law_1138 : decode cL_law 1138 = .ok (.ireturn, 1) := by decide +kernel
theorem dL_law_1139 : decode cL_law 1139 = .ok (.aload_n 1, 1) := by decide +kernel
theorem dL_law_1140 : decode cL_law 1140 = .ok (.invokevirtual 127, 3) := by decide +kernel
theorem dL_law_1143 : decode cL_law 1143 = .ok (.aload_n 2, 1) := by decide +kernel
theorem dL_law_1144 : decode cL_law 1144 = .ok (.invokevirtual 131, 3) := by decide +kernel
theorem dL_law_1147 : decode cL_law 1147 = .ok (.if_icmp .eq 64, 3) := by decide +kernel
theorem dL_law_1150 : decode cL_law 1150 = .ok (.iconst 0, 1) := by decide +kernel
theorem dL_law_1151 : decode cL_law 1151 = .ok (.ireturn, 1) := by decide +kernel
theorem dL_law_1152 : decode cL_law 1152 = .ok (.aload_n 1, 1) := by decide +kernel
theorem dL_law_1153 : decode cL_law 1153 = .ok (.invokevirtual 132, 3) := by decide +kernel
theorem dL_law_1156 : decode cL_law 1156 = .ok (.aload_n 2, 1) := by decide +kernel
theorem dL_law_1157 : decode cL_law 1157 = .ok (.invokevirtual 136, 3) := by decide +kernel
theorem dL_law_1160 : decode cL_law 1160 = .ok (.if_icmp .eq 51, 3) := by decide +kernel
theorem dL_law_1163 : decode cL_law 1163 = .ok (.iconst 0, 1) := by decide +kernel
theorem dL_law_1164 : decode cL_law 1164 = .ok (.ireturn, 1) := by decide +kernel
theorem dL_law_1165 : decode cL_law 1165 = .ok (.aload_n 1, 1) := by decide +kernel
theorem dL_law_1166 : decode cL_law 1166 = .ok (.aload_n 0, 1) := by decide +kernel
theorem dL_law_1167 : decode cL_law 1167 = .ok (.iload_n 3, 1) := by decide +kernel
theorem dL_law_1168 : decode cL_law 1168 = .ok (.iconst 1, 1) := by decide +kernel
theorem dL_law_1169 : decode cL_law 1169 = .ok (.iadd, 1) := by decide +kernel
theorem dL_law_1170 : decode cL_law 1170 = .ok (.iaload, 1) := by decide +kernel
theorem dL_law_1171 : decode cL_law 1171 = .ok (.invokevirtual 137, 3) := by decide +kernel
theorem dL_law_1174 : decode cL_law 1174 = .ok (.aload_n 2, 1) := by decide +kernel
theorem dL_law_1175 : decode cL_law 1175 = .ok (.aload_n 0, 1) := by decide +kernel
theorem dL_law_1176 : decode cL_law 1176 = .ok (.iload_n 3, 1) := by decide +kernel
theorem dL_law_1177 : decode cL_law 1177 = .ok (.iconst 1, 1) := by decide +kernel
theorem dL_law_1178 : decode cL_law 1178 = .ok (.iadd, 1) := by decide +kernel
theorem dL_law_1179 : decode cL_law 1179 = .ok (.iaload, 1) := by decide +kernel
theorem dL_law_1180 : decode cL_law 1180 = .ok (.invokevirtual 140, 3) := by decide +kernel
theorem dL_law_1183 : decode cL_law 1183 = .ok (.if_icmp .eq 28, 3) := by decide +kernel
theorem dL_law_1186 : decode cL_law 1186 = .ok (.iconst 0, 1) := by decide +kernel
theorem dL_law_1187 : decode cL_law 1187 = .ok (.ireturn, 1) := by decide +kernel
theorem dL_law_1188 : decode cL_law 1188 = .ok (.aload_n 1, 1) := by decide +kernel
theorem dL_law_1189 : decode cL_law 1189 = .ok (.aload_n 0, 1) := by decide +kernel
theorem dL_law_1190 : decode cL_law 1190 = .ok (.iload_n 3, 1) := by decide +kernel
theorem dL_law_1191 : decode cL_law 1191 = .ok (.iconst 1, 1) := by decide +kernel
theorem dL_law_1192 : decode cL_law 1192 = .ok (.iadd, 1) := by decide +kernel
theorem dL_law_1193 : decode cL_law 1193 = .ok (.iaload, 1) := by decide +kernel
theorem dL_law_1194 : decode cL_law 1194 = .ok (.invokevirtual 141, 3) := by decide +kernel
theorem dL_law_1197 : decode cL_law 1197 = .ok (.aload_n 2, 1) := by decide +kernel
theorem dL_law_1198 : decode cL_law 1198 = .ok (.aload_n 0, 1) := by decide +kernel
theorem dL_law_1199 : decode cL_law 1199 = .ok (.iload_n 3, 1) := by decide +kernel
theorem dL_law_1200 : decode cL_law 1200 = .ok (.iconst 1, 1) := by decide +kernel
theorem dL_law_1201 : decode cL_law 1201 = .ok (.iadd, 1) := by decide +kernel
theorem dL_law_1202 : decode cL_law 1202 = .ok (.iaload, 1) := by decide +kernel
theorem dL_law_1203 : decode cL_law 1203 = .ok (.invokevirtual 144, 3) := by decide +kernel
theorem dL_law_1206 : decode cL_law 1206 = .ok (.if_icmp .eq 5, 3) := by decide +kernel
theorem dL_law_1209 : decode cL_law 1209 = .ok (.iconst 0, 1) := by decide +kernel
theorem dL_law_1210 : decode cL_law 1210 = .ok (.ireturn, 1) := by decide +kernel
theorem dL_law_1211 : decode cL_law 1211 = .ok (.iinc 3 6, 3) := by decide +kernel
theorem dL_law_1214 : decode cL_law 1214 = .ok (.goto (-1196), 3) := by decide +kernel
theorem dL_law_1217 : decode cL_law 1217 = .ok (.iconst 1, 1) := by decide +kernel
theorem dL_law_1218 : decode cL_law 1218 = .ok (.ireturn, 1) := by decide +kernel
theorem rL_law_0 : (∀ (d : Nat) (L : List Value) (x : Nat) (st : List Value) (h : fk_H), fk_ev d qL_law 3 L (.ref x :: st) h = fk_ev d qL_law 4 L (.ref x :: .ref x :: st) h) ∧
  (∀ (d : Nat) (a0 a1 a2 a3 : Value) (x : Nat) (st : List Value) (h : fk_H), fk_ev d qL_law 7 [a0, a1, a2, a3] (.ref x :: st) h = fk_ev d qL_law 8 [a0, .ref x, a2, a3] st h) ∧
  (∀ (d : Nat) (L : List Value) (x : Nat) (st : List Value) (h : fk_H), fk_ev d qL_law 11 L (.ref x :: st) h = fk_ev d qL_law 12 L (.ref x :: .ref x :: st) h) ∧
  (∀ (d : Nat) (a0 a1 a2 a3 : Value) (x : Nat) (st : List Value) (h : fk_H), fk_ev d qL_law 15 [a0, a1, a2, a3] (.ref x :: st) h = fk_ev d qL_law 16 [a0, a1, .ref x, a3] st h) ∧
  (∀ (d : Nat) (L st : List Value) (h : fk_H), fk_ev d qL_law 16 L st h = fk_ev d qL_law 17 L (.int (nI 0) :: st) h) ∧
  (∀ (d : Nat) (a0 a1 a2 a3 : Value) (x : Int32) (st : List Value) (h : fk_H), fk_ev d qL_law 17 [a0, a1, a2, a3] (.int x :: st) h = fk_ev d qL_law 18 [a0, a1, a2, .int x] st h) ∧
  (∀ (d : Nat) (a1 a2 a3 : Value) (x : Nat) (st : List Value) (h : fk_H), fk_ev d qL_law 19 [.ref x, a1, a2, a3] st h = fk_ev d qL_law 20 [.ref x, a1, a2, a3] (.ref x :: st) h) ∧
  (∀ (d : Nat) (L st : List Value) (N : Nat) (y : Nat → Nat → Int32) (l : Nat → Nat → Int64), fk_ev d qL_law 20 L (.ref 0 :: st) (fk_E N y l) = fk_ev d qL_law 21 L (.int (nI N) :: st) (fk_E N y l)) ∧
  (∀ (d : Nat) (L st : List Value) (h : fk_H), fk_ev d qL_law 21 L st h = fk_ev d qL_law 23 L (.int (nI 6) :: st) h) ∧
  (∀ (d : Nat) (L : List Value) (x y : Int32) (st : List Value) (h : fk_H), fk_ev d qL_law 23 L (.int y :: .int x :: st) h = fk_ev d qL_law 24 L (.int (x - y) :: st) h) ∧
  (∀ (d : Nat) (L : List Value) (x y : Int32) (st : List Value) (h : fk_H), fk_ev d qL_law 24 L (.int y :: .int x :: st) h = if y < x then fk_ev d qL_law 1217 L st h else fk_ev d qL_law 27 L st h) ∧
  (∀ (d : Nat) (a1 a2 a3 : Value) (x : Nat) (st : List Value) (h : fk_H), fk_ev d qL_law 27 [.ref x, a1, a2, a3] st h = fk_ev d qL_law 28 [.ref x, a1, a2, a3] (.ref x :: st) h) ∧
  (∀ (d : Nat) (a0 a1 a2 : Value) (x : Int32) (st : List Value) (h : fk_H), fk_ev d qL_law 28 [a0, a1, a2, .int x] st h = fk_ev d qL_law 29 [a0, a1, a2, .int x] (.int x :: st) h) ∧
  (∀ (d : Nat) (L st : List Value) (N : Nat) (y : Nat → Nat → Int32) (l : Nat → Nat → Int64) (i : Nat), i < N → N < 2 ^ 31 → fk_ev d qL_law 29 L (.int (nI i) :: .ref 0 :: st) (fk_E N y l) = fk_ev d qL_law 30 L (.int (y 0 i) :: st) (fk_E N y l)) ∧
  (∀ (d : Nat) (L st : List Value) (h : fk_H), fk_ev d qL_law 30 L st h = fk_ev d qL_law 32 L (.int (nI 31) :: st) h) ∧
  (∀ (d : Nat) (L : List Value) (x y : Int32) (st : List Value) (h : fk_H), fk_ev d qL_law 32 L (.int y :: .int x :: st) h = fk_ev d qL_law 33 L (.int (x &&& y) :: st) h) ∧
  (∀ (d : Nat) (L st : List Value) (h : fk_H), fk_ev d qL_law 33 L (.int (nI 0) :: st) h = fk_ev d qL_law 168 L st h) ∧
  (∀ (d : Nat) (L st : List Value) (h : fk_H), fk_ev d qL_law 33 L (.int (nI 1) :: st) h = fk_ev d qL_law 221 L st h) ∧
  (∀ (d : Nat) (L st : List Value) (h : fk_H), fk_ev d qL_law 33 L (.int (nI 2) :: st) h = fk_ev d qL_law 280 L st h) ∧
  (∀ (d : Nat) (L st : List Value) (h : fk_H), fk_ev d qL_law 33 L (.int (nI 3) :: st) h = fk_ev d qL_law 313 L st h) ∧
  (∀ (d : Nat) (L st : List Value) (h : fk_H), fk_ev d qL_law 33 L (.int (nI 4) :: st) h = fk_ev d qL_law 372 L st h) ∧
  (∀ (d : Nat) (L st : List Value) (h : fk_H), fk_ev d qL_law 33 L (.int (nI 5) :: st) h = fk_ev d qL_law 405 L st h) ∧
  (∀ (d : Nat) (L st : List Value) (h : fk_H), fk_ev d qL_law 33 L (.int (nI 6) :: st) h = fk_ev d qL_law 468 L st h) ∧
  (∀ (d : Nat) (L st : List Value) (h : fk_H), fk_ev d qL_law 33 L (.int (nI 7) :: st) h = fk_ev d qL_law 491 L st h) ∧
  (∀ (d : Nat) (L st : List Value) (h : fk_H), fk_ev d qL_law 33 L (.int (nI 8) :: st) h = fk_ev d qL_law 514 L st h) ∧
  (∀ (d : Nat) (L st : List Value) (h : fk_H), fk_ev d qL_law 33 L (.int (nI 9) :: st) h = fk_ev d qL_law 547 L st h) ∧
  (∀ (d : Nat) (L st : List Value) (h : fk_H), fk_ev d qL_law 33 L (.int (nI 10) :: st) h = fk_ev d qL_law 580 L st h) ∧
  (∀ (d : Nat) (L st : List Value) (h : fk_H), fk_ev d qL_law 33 L (.int (nI 11) :: st) h = fk_ev d qL_law 613 L st h) ∧
  (∀ (d : Nat) (L st : List Value) (h : fk_H), fk_ev d qL_law 33 L (.int (nI 12) :: st) h = fk_ev d qL_law 646 L st h) ∧
  (∀ (d : Nat) (L st : List Value) (h : fk_H), fk_ev d qL_law 33 L (.int (nI 13) :: st) h = fk_ev d qL_law 679 L st h) ∧
  (∀ (d : Nat) (L st : List Value) (h : fk_H), fk_ev d qL_law 33 L (.int (nI 14) :: st) h = fk_ev d qL_law 713 L st h) ∧
  (∀ (d : Nat) (L st : List Value) (h : fk_H), fk_ev d qL_law 33 L (.int (nI 15) :: st) h = fk_ev d qL_law 766 L st h) ∧
  (∀ (d : Nat) (L st : List Value) (h : fk_H), fk_ev d qL_law 33 L (.int (nI 16) :: st) h = fk_ev d qL_law 799 L st h) ∧
  (∀ (d : Nat) (L st : List Value) (h : fk_H), fk_ev d qL_law 33 L (.int (nI 17) :: st) h = fk_ev d qL_law 842 L st h) ∧
  (∀ (d : Nat) (L st : List Value) (h : fk_H), fk_ev d qL_law 33 L (.int (nI 18) :: st) h = fk_ev d qL_law 875 L st h) ∧
  (∀ (d : Nat) (L st : List Value) (h : fk_H), fk_ev d qL_law 33 L (.int (nI 19) :: st) h = fk_ev d qL_law 898 L st h) ∧
  (∀ (d : Nat) (L st : List Value) (h : fk_H), fk_ev d qL_law 33 L (.int (nI 20) :: st) h = fk_ev d qL_law 921 L st h) ∧
  (∀ (d : Nat) (L st : List Value) (h : fk_H), fk_ev d qL_law 33 L (.int (nI 21) :: st) h = fk_ev d qL_law 964 L st h) ∧
  (∀ (d : Nat) (L st : List Value) (h : fk_H), fk_ev d qL_law 33 L (.int (nI 22) :: st) h = fk_ev d qL_law 997 L st h) ∧
  (∀ (d : Nat) (L st : List Value) (h : fk_H), fk_ev d qL_law 33 L (.int (nI 23) :: st) h = fk_ev d qL_law 1040 L st h) ∧
  (∀ (d : Nat) (L st : List Value) (h : fk_H), fk_ev d qL_law 33 L (.int (nI 24) :: st) h = fk_ev d qL_law 1073 L st h) ∧
  (∀ (d : Nat) (L st : List Value) (h : fk_H), fk_ev d qL_law 33 L (.int (nI 25) :: st) h = fk_ev d qL_law 1116 L st h) ∧
  (∀ (d : Nat) (L st : List Value) (h : fk_H), fk_ev d qL_law 33 L (.int (nI 26) :: st) h = fk_ev d qL_law 1139 L st h) ∧
  (∀ (d : Nat) (L st : List Value) (h : fk_H), fk_ev d qL_law 33 L (.int (nI 27) :: st) h = fk_ev d qL_law 1152 L st h) ∧
  (∀ (d : Nat) (L st : List Value) (h : fk_H), fk_ev d qL_law 33 L (.int (nI 28) :: st) h = fk_ev d qL_law 1165 L st h) ∧
  (∀ (d : Nat) (L st : List Value) (h : fk_H), fk_ev d qL_law 33 L (.int (nI 29) :: st) h = fk_ev d qL_law 1188 L st h) ∧
  (∀ (d : Nat) (L : List Value) (x : Int32) (st : List Value) (h : fk_H), (x.toInt < 0 ∨ 29 < x.toInt) → fk_ev d qL_law 33 L (.int x :: st) h = fk_ev d qL_law 1211 L st h) ∧
  (∀ (d : Nat) (a0 a2 a3 : Value) (x : Nat) (st : List Value) (h : fk_H), fk_ev d qL_law 168 [a0, .ref x, a2, a3] st h = fk_ev d qL_law 169 [a0, .ref x, a2, a3] (.ref x :: st) h) ∧
  (∀ (d : Nat) (a1 a2 a3 : Value) (x : Nat) (st : List Value) (h : fk_H), fk_ev d qL_law 169 [.ref x, a1, a2, a3] st h = fk_ev d qL_law 170 [.ref x, a1, a2, a3] (.ref x :: st) h) ∧
  (∀ (d : Nat) (a0 a1 a2 : Value) (x : Int32) (st : List Value) (h : fk_H), fk_ev d qL_law 170 [a0, a1, a2, .int x] st h = fk_ev d qL_law 171 [a0, a1, a2, .int x] (.int x :: st) h) ∧
  (∀ (d : Nat) (L st : List Value) (h : fk_H), fk_ev d qL_law 171 L st h = fk_ev d qL_law 172 L (.int (nI 1) :: st) h) ∧
  (∀ (d : Nat) (L : List Value) (x y : Int32) (st : List Value) (h : fk_H), fk_ev d qL_law 172 L (.int y :: .int x :: st) h = fk_ev d qL_law 173 L (.int (x + y) :: st) h) ∧
  (∀ (d : Nat) (L st : List Value) (N : Nat) (y : Nat → Nat → Int32) (l : Nat → Nat → Int64) (i : Nat), i < N → N < 2 ^ 31 → fk_ev d qL_law 173 L (.int (nI i) :: .ref 0 :: st) (fk_E N y l) = fk_ev d qL_law 174 L (.int (y 0 i) :: st) (fk_E N y l)) ∧
  (∀ (d : Nat) (a1 a2 a3 : Value) (x : Nat) (st : List Value) (h : fk_H), fk_ev d qL_law 174 [.ref x, a1, a2, a3] st h = fk_ev d qL_law 175 [.ref x, a1, a2, a3] (.ref x :: st) h) ∧
  (∀ (d : Nat) (a0 a1 a2 : Value) (x : Int32) (st : List Value) (h : fk_H), fk_ev d qL_law 175 [a0, a1, a2, .int x] st h = fk_ev d qL_law 176 [a0, a1, a2, .int x] (.int x :: st) h) ∧
  (∀ (d : Nat) (L st : List Value) (h : fk_H), fk_ev d qL_law 176 L st h = fk_ev d qL_law 177 L (.int (nI 2) :: st) h) ∧
  (∀ (d : Nat) (L : List Value) (x y : Int32) (st : List Value) (h : fk_H), fk_ev d qL_law 177 L (.int y :: .int x :: st) h = fk_ev d qL_law 178 L (.int (x + y) :: st) h) ∧
  (∀ (d : Nat) (L st : List Value) (N : Nat) (y : Nat → Nat → Int32) (l : Nat → Nat → Int64) (i : Nat), i < N → N < 2 ^ 31 → fk_ev d qL_law 178 L (.int (nI i) :: .ref 0 :: st) (fk_E N y l) = fk_ev d qL_law 179 L (.int (y 0 i) :: st) (fk_E N y l)) ∧
  (∀ (d : Nat) (a1 a2 a3 : Value) (x : Nat) (st : List Value) (h : fk_H), fk_ev d qL_law 179 [.ref x, a1, a2, a3] st h = fk_ev d qL_law 180 [.ref x, a1, a2, a3] (.ref x :: st) h) ∧
  (∀ (d : Nat) (a0 a1 a2 : Value) (x : Int32) (st : List Value) (h : fk_H), fk_ev d qL_law 180 [a0, a1, a2, .int x] st h = fk_ev d qL_law 181 [a0, a1, a2, .int x] (.int x :: st) h) ∧
  (∀ (d : Nat) (L st : List Value) (h : fk_H), fk_ev d qL_law 181 L st h = fk_ev d qL_law 182 L (.int (nI 3) :: st) h) ∧
  (∀ (d : Nat) (L : List Value) (x y : Int32) (st : List Value) (h : fk_H), fk_ev d qL_law 182 L (.int y :: .int x :: st) h = fk_ev d qL_law 183 L (.int (x + y) :: st) h) ∧
  (∀ (d : Nat) (L st : List Value) (N : Nat) (y : Nat → Nat → Int32) (l : Nat → Nat → Int64) (i : Nat), i < N → N < 2 ^ 31 → fk_ev d qL_law 183 L (.int (nI i) :: .ref 0 :: st) (fk_E N y l) = fk_ev d qL_law 184 L (.int (y 0 i) :: st) (fk_E N y l)) ∧
  (∀ (d : Nat) (a1 a2 a3 : Value) (x : Nat) (st : List Value) (h : fk_H), fk_ev d qL_law 184 [.ref x, a1, a2, a3] st h = fk_ev d qL_law 185 [.ref x, a1, a2, a3] (.ref x :: st) h) ∧
  (∀ (d : Nat) (a0 a1 a2 : Value) (x : Int32) (st : List Value) (h : fk_H), fk_ev d qL_law 185 [a0, a1, a2, .int x] st h = fk_ev d qL_law 186 [a0, a1, a2, .int x] (.int x :: st) h) ∧
  (∀ (d : Nat) (L st : List Value) (h : fk_H), fk_ev d qL_law 186 L st h = fk_ev d qL_law 187 L (.int (nI 4) :: st) h) ∧
  (∀ (d : Nat) (L : List Value) (x y : Int32) (st : List Value) (h : fk_H), fk_ev d qL_law 187 L (.int y :: .int x :: st) h = fk_ev d qL_law 188 L (.int (x + y) :: st) h) ∧
  (∀ (d : Nat) (L st : List Value) (N : Nat) (y : Nat → Nat → Int32) (l : Nat → Nat → Int64) (i : Nat), i < N → N < 2 ^ 31 → fk_ev d qL_law 188 L (.int (nI i) :: .ref 0 :: st) (fk_E N y l) = fk_ev d qL_law 189 L (.int (y 0 i) :: st) (fk_E N y l)) ∧
  (∀ (d : Nat) (L : List Value) (x0 : Int32) (x1 : Int32) (x2 : Int32) (x3 : Int32)  (N : Nat) (y : Nat → Nat → Int32) (l : Nat → Nat → Int64), fk_ev (d + 1) qL_law 189 L (.int x3 :: .int x2 :: .int x1 :: .int x0 :: .ref 1 :: []) (fk_E N y l) = (fk_ev d qX11_road 0 [.ref 1, .int x0, .int x1, .int x2, .int x3] [] (fk_E N y l)).bind fun o => fk_ev (d + 1) qL_law 192 L (o.1.toList ++ []) o.2) ∧
  (∀ (d : Nat) (a0 a1 a3 : Value) (x : Nat) (st : List Value) (h : fk_H), fk_ev d qL_law 192 [a0, a1, .ref x, a3] st h = fk_ev d qL_law 193 [a0, a1, .ref x, a3] (.ref x :: st) h) ∧
  (∀ (d : Nat) (a1 a2 a3 : Value) (x : Nat) (st : List Value) (h : fk_H), fk_ev d qL_law 193 [.ref x, a1, a2, a3] st h = fk_ev d qL_law 194 [.ref x, a1, a2, a3] (.ref x :: st) h) ∧
  (∀ (d : Nat) (a0 a1 a2 : Value) (x : Int32) (st : List Value) (h : fk_H), fk_ev d qL_law 194 [a0, a1, a2, .int x] st h = fk_ev d qL_law 195 [a0, a1, a2, .int x] (.int x :: st) h) ∧
  (∀ (d : Nat) (L st : List Value) (h : fk_H), fk_ev d qL_law 195 L st h = fk_ev d qL_law 196 L (.int (nI 1) :: st) h) ∧
  (∀ (d : Nat) (L : List Value) (x y : Int32) (st : List Value) (h : fk_H), fk_ev d qL_law 196 L (.int y :: .int x :: st) h = fk_ev d qL_law 197 L (.int (x + y) :: st) h) ∧
  (∀ (d : Nat) (L st : List Value) (N : Nat) (y : Nat → Nat → Int32) (l : Nat → Nat → Int64) (i : Nat), i < N → N < 2 ^ 31 → fk_ev d qL_law 197 L (.int (nI i) :: .ref 0 :: st) (fk_E N y l) = fk_ev d qL_law 198 L (.int (y 0 i) :: st) (fk_E N y l)) ∧
  (∀ (d : Nat) (a1 a2 a3 : Value) (x : Nat) (st : List Value) (h : fk_H), fk_ev d qL_law 198 [.ref x, a1, a2, a3] st h = fk_ev d qL_law 199 [.ref x, a1, a2, a3] (.ref x :: st) h) ∧
  (∀ (d : Nat) (a0 a1 a2 : Value) (x : Int32) (st : List Value) (h : fk_H), fk_ev d qL_law 199 [a0, a1, a2, .int x] st h = fk_ev d qL_law 200 [a0, a1, a2, .int x] (.int x :: st) h) ∧
  (∀ (d : Nat) (L st : List Value) (h : fk_H), fk_ev d qL_law 200 L st h = fk_ev d qL_law 201 L (.int (nI 2) :: st) h) ∧
  (∀ (d : Nat) (L : List Value) (x y : Int32) (st : List Value) (h : fk_H), fk_ev d qL_law 201 L (.int y :: .int x :: st) h = fk_ev d qL_law 202 L (.int (x + y) :: st) h) ∧
  (∀ (d : Nat) (L st : List Value) (N : Nat) (y : Nat → Nat → Int32) (l : Nat → Nat → Int64) (i : Nat), i < N → N < 2 ^ 31 → fk_ev d qL_law 202 L (.int (nI i) :: .ref 0 :: st) (fk_E N y l) = fk_ev d qL_law 203 L (.int (y 0 i) :: st) (fk_E N y l)) ∧
  (∀ (d : Nat) (a1 a2 a3 : Value) (x : Nat) (st : List Value) (h : fk_H), fk_ev d qL_law 203 [.ref x, a1, a2, a3] st h = fk_ev d qL_law 204 [.ref x, a1, a2, a3] (.ref x :: st) h) ∧
  (∀ (d : Nat) (a0 a1 a2 : Value) (x : Int32) (st : List Value) (h : fk_H), fk_ev d qL_law 204 [a0, a1, a2, .int x] st h = fk_ev d qL_law 205 [a0, a1, a2, .int x] (.int x :: st) h) ∧
  (∀ (d : Nat) (L st : List Value) (h : fk_H), fk_ev d qL_law 205 L st h = fk_ev d qL_law 206 L (.int (nI 3) :: st) h) ∧
  (∀ (d : Nat) (L : List Value) (x y : Int32) (st : List Value) (h : fk_H), fk_ev d qL_law 206 L (.int y :: .int x :: st) h = fk_ev d qL_law 207 L (.int (x + y) :: st) h) ∧
  (∀ (d : Nat) (L st : List Value) (N : Nat) (y : Nat → Nat → Int32) (l : Nat → Nat → Int64) (i : Nat), i < N → N < 2 ^ 31 → fk_ev d qL_law 207 L (.int (nI i) :: .ref 0 :: st) (fk_E N y l) = fk_ev d qL_law 208 L (.int (y 0 i) :: st) (fk_E N y l)) ∧
  (∀ (d : Nat) (a1 a2 a3 : Value) (x : Nat) (st : List Value) (h : fk_H), fk_ev d qL_law 208 [.ref x, a1, a2, a3] st h = fk_ev d qL_law 209 [.ref x, a1, a2, a3] (.ref x :: st) h) ∧
  (∀ (d : Nat) (a0 a1 a2 : Value) (x : Int32) (st : List Value) (h : fk_H), fk_ev d qL_law 209 [a0, a1, a2, .int x] st h = fk_ev d qL_law 210 [a0, a1, a2, .int x] (.int x :: st) h) ∧
  (∀ (d : Nat) (L st : List Value) (h : fk_H), fk_ev d qL_law 210 L st h = fk_ev d qL_law 211 L (.int (nI 4) :: st) h) ∧
  (∀ (d : Nat) (L : List Value) (x y : Int32) (st : List Value) (h : fk_H), fk_ev d qL_law 211 L (.int y :: .int x :: st) h = fk_ev d qL_law 212 L (.int (x + y) :: st) h) ∧
  (∀ (d : Nat) (L st : List Value) (N : Nat) (y : Nat → Nat → Int32) (l : Nat → Nat → Int64) (i : Nat), i < N → N < 2 ^ 31 → fk_ev d qL_law 212 L (.int (nI i) :: .ref 0 :: st) (fk_E N y l) = fk_ev d qL_law 213 L (.int (y 0 i) :: st) (fk_E N y l)) ∧
  (∀ (d : Nat) (L : List Value) (x0 : Int32) (x1 : Int32) (x2 : Int32) (x3 : Int32) (w0 : Value) (N : Nat) (y : Nat → Nat → Int32) (l : Nat → Nat → Int64), fk_ev (d + 1) qL_law 213 L (.int x3 :: .int x2 :: .int x1 :: .int x0 :: .ref 246 :: [w0]) (fk_E N y l) = (fk_ev d qX12_road 0 [.ref 246, .int x0, .int x1, .int x2, .int x3] [] (fk_E N y l)).bind fun o => fk_ev (d + 1) qL_law 216 L (o.1.toList ++ [w0]) o.2) ∧
  (∀ (d : Nat) (L : List Value) (x y : Int32) (st : List Value) (h : fk_H), fk_ev d qL_law 216 L (.int y :: .int x :: st) h = if x = y then fk_ev d qL_law 1211 L st h else fk_ev d qL_law 219 L st h) ∧
  (∀ (d : Nat) (L st : List Value) (h : fk_H), fk_ev d qL_law 219 L st h = fk_ev d qL_law 220 L (.int (nI 0) :: st) h) ∧
  (∀ (d : Nat) (L : List Value) (h : fk_H), fk_ev d qL_law 220 L [.int (nI 0)] h = some (some (.int (nI 0)), h)) ∧
  (∀ (d : Nat) (L : List Value) (h : fk_H), fk_ev d qL_law 220 L [.int (nI 1)] h = some (some (.int (nI 1)), h)) ∧
  (∀ (d : Nat) (L : List Value) (p : Prop) [Decidable p] (h : fk_H), fk_ev d qL_law 220 L [.int (fk_b p)] h = some (some (.int (fk_b p)), h)) ∧
  (∀ (d : Nat) (L : List Value) (x : Int32) (h : fk_H), (x = nI 0 ∨ x = nI 1) → fk_ev d qL_law 220 L [.int x] h = some (some (.int x), h)) ∧
  (∀ (d : Nat) (a0 a2 a3 : Value) (x : Nat) (st : List Value) (h : fk_H), fk_ev d qL_law 221 [a0, .ref x, a2, a3] st h = fk_ev d qL_law 222 [a0, .ref x, a2, a3] (.ref x :: st) h) ∧
  (∀ (d : Nat) (a1 a2 a3 : Value) (x : Nat) (st : List Value) (h : fk_H), fk_ev d qL_law 222 [.ref x, a1, a2, a3] st h = fk_ev d qL_law 223 [.ref x, a1, a2, a3] (.ref x :: st) h) ∧
  (∀ (d : Nat) (a0 a1 a2 : Value) (x : Int32) (st : List Value) (h : fk_H), fk_ev d qL_law 223 [a0, a1, a2, .int x] st h = fk_ev d qL_law 224 [a0, a1, a2, .int x] (.int x :: st) h) ∧
  (∀ (d : Nat) (L st : List Value) (h : fk_H), fk_ev d qL_law 224 L st h = fk_ev d qL_law 225 L (.int (nI 1) :: st) h) ∧
  (∀ (d : Nat) (L : List Value) (x y : Int32) (st : List Value) (h : fk_H), fk_ev d qL_law 225 L (.int y :: .int x :: st) h = fk_ev d qL_law 226 L (.int (x + y) :: st) h) ∧
  (∀ (d : Nat) (L st : List Value) (N : Nat) (y : Nat → Nat → Int32) (l : Nat → Nat → Int64) (i : Nat), i < N → N < 2 ^ 31 → fk_ev d qL_law 226 L (.int (nI i) :: .ref 0 :: st) (fk_E N y l) = fk_ev d qL_law 227 L (.int (y 0 i) :: st) (fk_E N y l)) ∧
  (∀ (d : Nat) (a1 a2 a3 : Value) (x : Nat) (st : List Value) (h : fk_H), fk_ev d qL_law 227 [.ref x, a1, a2, a3] st h = fk_ev d qL_law 228 [.ref x, a1, a2, a3] (.ref x :: st) h) ∧
  (∀ (d : Nat) (a0 a1 a2 : Value) (x : Int32) (st : List Value) (h : fk_H), fk_ev d qL_law 228 [a0, a1, a2, .int x] st h = fk_ev d qL_law 229 [a0, a1, a2, .int x] (.int x :: st) h) ∧
  (∀ (d : Nat) (L st : List Value) (h : fk_H), fk_ev d qL_law 229 L st h = fk_ev d qL_law 230 L (.int (nI 2) :: st) h) ∧
  (∀ (d : Nat) (L : List Value) (x y : Int32) (st : List Value) (h : fk_H), fk_ev d qL_law 230 L (.int y :: .int x :: st) h = fk_ev d qL_law 231 L (.int (x + y) :: st) h) ∧
  (∀ (d : Nat) (L st : List Value) (N : Nat) (y : Nat → Nat → Int32) (l : Nat → Nat → Int64) (i : Nat), i < N → N < 2 ^ 31 → fk_ev d qL_law 231 L (.int (nI i) :: .ref 0 :: st) (fk_E N y l) = fk_ev d qL_law 232 L (.int (y 0 i) :: st) (fk_E N y l)) ∧
  (∀ (d : Nat) (a1 a2 a3 : Value) (x : Nat) (st : List Value) (h : fk_H), fk_ev d qL_law 232 [.ref x, a1, a2, a3] st h = fk_ev d qL_law 233 [.ref x, a1, a2, a3] (.ref x :: st) h) ∧
  (∀ (d : Nat) (a0 a1 a2 : Value) (x : Int32) (st : List Value) (h : fk_H), fk_ev d qL_law 233 [a0, a1, a2, .int x] st h = fk_ev d qL_law 234 [a0, a1, a2, .int x] (.int x :: st) h) ∧
  (∀ (d : Nat) (L st : List Value) (h : fk_H), fk_ev d qL_law 234 L st h = fk_ev d qL_law 235 L (.int (nI 3) :: st) h) ∧
  (∀ (d : Nat) (L : List Value) (x y : Int32) (st : List Value) (h : fk_H), fk_ev d qL_law 235 L (.int y :: .int x :: st) h = fk_ev d qL_law 236 L (.int (x + y) :: st) h) ∧
  (∀ (d : Nat) (L st : List Value) (N : Nat) (y : Nat → Nat → Int32) (l : Nat → Nat → Int64) (i : Nat), i < N → N < 2 ^ 31 → fk_ev d qL_law 236 L (.int (nI i) :: .ref 0 :: st) (fk_E N y l) = fk_ev d qL_law 237 L (.int (y 0 i) :: st) (fk_E N y l)) ∧
  (∀ (d : Nat) (L : List Value) (x : Int32) (st : List Value) (h : fk_H), fk_ev d qL_law 237 L (.int x :: st) h = if x = nI 0 then fk_ev d qL_law 244 L st h else fk_ev d qL_law 240 L st h) ∧
  (∀ (d : Nat) (L st : List Value) (h : fk_H), fk_ev d qL_law 240 L st h = fk_ev d qL_law 241 L (.int (nI 1) :: st) h) ∧
  (∀ (d : Nat) (L st : List Value) (h : fk_H), fk_ev d qL_law 241 L st h = fk_ev d qL_law 245 L st h) ∧
  (∀ (d : Nat) (L st : List Value) (h : fk_H), fk_ev d qL_law 244 L st h = fk_ev d qL_law 245 L (.int (nI 0) :: st) h) ∧
  (∀ (d : Nat) (L : List Value) (x0 : Int32) (x1 : Int32) (x2 : Int32)  (N : Nat) (y : Nat → Nat → Int32) (l : Nat → Nat → Int64), fk_ev (d + 1) qL_law 245 L (.int x2 :: .int x1 :: .int x0 :: .ref 1 :: []) (fk_E N y l) = (fk_ev d qX11_notice 0 [.ref 1, .int x0, .int x1, .int x2] [] (fk_E N y l)).bind fun o => fk_ev (d + 1) qL_law 248 L (o.1.toList ++ []) o.2) ∧
  (∀ (d : Nat) (a0 a1 a3 : Value) (x : Nat) (st : List Value) (h : fk_H), fk_ev d qL_law 248 [a0, a1, .ref x, a3] st h = fk_ev d qL_law 249 [a0, a1, .ref x, a3] (.ref x :: st) h) ∧
  (∀ (d : Nat) (a1 a2 a3 : Value) (x : Nat) (st : List Value) (h : fk_H), fk_ev d qL_law 249 [.ref x, a1, a2, a3] st h = fk_ev d qL_law 250 [.ref x, a1, a2, a3] (.ref x :: st) h) ∧
  (∀ (d : Nat) (a0 a1 a2 : Value) (x : Int32) (st : List Value) (h : fk_H), fk_ev d qL_law 250 [a0, a1, a2, .int x] st h = fk_ev d qL_law 251 [a0, a1, a2, .int x] (.int x :: st) h) ∧
  (∀ (d : Nat) (L st : List Value) (h : fk_H), fk_ev d qL_law 251 L st h = fk_ev d qL_law 252 L (.int (nI 1) :: st) h) ∧
  (∀ (d : Nat) (L : List Value) (x y : Int32) (st : List Value) (h : fk_H), fk_ev d qL_law 252 L (.int y :: .int x :: st) h = fk_ev d qL_law 253 L (.int (x + y) :: st) h) ∧
  (∀ (d : Nat) (L st : List Value) (N : Nat) (y : Nat → Nat → Int32) (l : Nat → Nat → Int64) (i : Nat), i < N → N < 2 ^ 31 → fk_ev d qL_law 253 L (.int (nI i) :: .ref 0 :: st) (fk_E N y l) = fk_ev d qL_law 254 L (.int (y 0 i) :: st) (fk_E N y l)) ∧
  (∀ (d : Nat) (a1 a2 a3 : Value) (x : Nat) (st : List Value) (h : fk_H), fk_ev d qL_law 254 [.ref x, a1, a2, a3] st h = fk_ev d qL_law 255 [.ref x, a1, a2, a3] (.ref x :: st) h) ∧
  (∀ (d : Nat) (a0 a1 a2 : Value) (x : Int32) (st : List Value) (h : fk_H), fk_ev d qL_law 255 [a0, a1, a2, .int x] st h = fk_ev d qL_law 256 [a0, a1, a2, .int x] (.int x :: st) h) ∧
  (∀ (d : Nat) (L st : List Value) (h : fk_H), fk_ev d qL_law 256 L st h = fk_ev d qL_law 257 L (.int (nI 2) :: st) h) ∧
  (∀ (d : Nat) (L : List Value) (x y : Int32) (st : List Value) (h : fk_H), fk_ev d qL_law 257 L (.int y :: .int x :: st) h = fk_ev d qL_law 258 L (.int (x + y) :: st) h) ∧
  (∀ (d : Nat) (L st : List Value) (N : Nat) (y : Nat → Nat → Int32) (l : Nat → Nat → Int64) (i : Nat), i < N → N < 2 ^ 31 → fk_ev d qL_law 258 L (.int (nI i) :: .ref 0 :: st) (fk_E N y l) = fk_ev d qL_law 259 L (.int (y 0 i) :: st) (fk_E N y l)) ∧
  (∀ (d : Nat) (a1 a2 a3 : Value) (x : Nat) (st : List Value) (h : fk_H), fk_ev d qL_law 259 [.ref x, a1, a2, a3] st h = fk_ev d qL_law 260 [.ref x, a1, a2, a3] (.ref x :: st) h) ∧
  (∀ (d : Nat) (a0 a1 a2 : Value) (x : Int32) (st : List Value) (h : fk_H), fk_ev d qL_law 260 [a0, a1, a2, .int x] st h = fk_ev d qL_law 261 [a0, a1, a2, .int x] (.int x :: st) h) ∧
  (∀ (d : Nat) (L st : List Value) (h : fk_H), fk_ev d qL_law 261 L st h = fk_ev d qL_law 262 L (.int (nI 3) :: st) h) ∧
  (∀ (d : Nat) (L : List Value) (x y : Int32) (st : List Value) (h : fk_H), fk_ev d qL_law 262 L (.int y :: .int x :: st) h = fk_ev d qL_law 263 L (.int (x + y) :: st) h) ∧
  (∀ (d : Nat) (L st : List Value) (N : Nat) (y : Nat → Nat → Int32) (l : Nat → Nat → Int64) (i : Nat), i < N → N < 2 ^ 31 → fk_ev d qL_law 263 L (.int (nI i) :: .ref 0 :: st) (fk_E N y l) = fk_ev d qL_law 264 L (.int (y 0 i) :: st) (fk_E N y l)) ∧
  (∀ (d : Nat) (L : List Value) (x : Int32) (st : List Value) (h : fk_H), fk_ev d qL_law 264 L (.int x :: st) h = if x = nI 0 then fk_ev d qL_law 271 L st h else fk_ev d qL_law 267 L st h) ∧
  (∀ (d : Nat) (L st : List Value) (h : fk_H), fk_ev d qL_law 267 L st h = fk_ev d qL_law 268 L (.int (nI 1) :: st) h) ∧
  (∀ (d : Nat) (L st : List Value) (h : fk_H), fk_ev d qL_law 268 L st h = fk_ev d qL_law 272 L st h) ∧
  (∀ (d : Nat) (L st : List Value) (h : fk_H), fk_ev d qL_law 271 L st h = fk_ev d qL_law 272 L (.int (nI 0) :: st) h) ∧
  (∀ (d : Nat) (L : List Value) (x0 : Int32) (x1 : Int32) (x2 : Int32) (w0 : Value) (N : Nat) (y : Nat → Nat → Int32) (l : Nat → Nat → Int64), fk_ev (d + 1) qL_law 272 L (.int x2 :: .int x1 :: .int x0 :: .ref 246 :: [w0]) (fk_E N y l) = (fk_ev d qX12_notice 0 [.ref 246, .int x0, .int x1, .int x2] [] (fk_E N y l)).bind fun o => fk_ev (d + 1) qL_law 275 L (o.1.toList ++ [w0]) o.2) ∧
  (∀ (d : Nat) (L : List Value) (x y : Int32) (st : List Value) (h : fk_H), fk_ev d qL_law 275 L (.int y :: .int x :: st) h = if x = y then fk_ev d qL_law 1211 L st h else fk_ev d qL_law 278 L st h) ∧
  (∀ (d : Nat) (L st : List Value) (h : fk_H), fk_ev d qL_law 278 L st h = fk_ev d qL_law 279 L (.int (nI 0) :: st) h) ∧
  (∀ (d : Nat) (L : List Value) (h : fk_H), fk_ev d qL_law 279 L [.int (nI 0)] h = some (some (.int (nI 0)), h)) ∧
  (∀ (d : Nat) (L : List Value) (h : fk_H), fk_ev d qL_law 279 L [.int (nI 1)] h = some (some (.int (nI 1)), h)) ∧
  (∀ (d : Nat) (L : List Value) (p : Prop) [Decidable p] (h : fk_H), fk_ev d qL_law 279 L [.int (fk_b p)] h = some (some (.int (fk_b p)), h)) ∧
  (∀ (d : Nat) (L : List Value) (x : Int32) (h : fk_H), (x = nI 0 ∨ x = nI 1) → fk_ev d qL_law 279 L [.int x] h = some (some (.int x), h)) ∧
  (∀ (d : Nat) (a0 a2 a3 : Value) (x : Nat) (st : List Value) (h : fk_H), fk_ev d qL_law 280 [a0, .ref x, a2, a3] st h = fk_ev d qL_law 281 [a0, .ref x, a2, a3] (.ref x :: st) h) ∧
  (∀ (d : Nat) (a1 a2 a3 : Value) (x : Nat) (st : List Value) (h : fk_H), fk_ev d qL_law 281 [.ref x, a1, a2, a3] st h = fk_ev d qL_law 282 [.ref x, a1, a2, a3] (.ref x :: st) h) ∧
  (∀ (d : Nat) (a0 a1 a2 : Value) (x : Int32) (st : List Value) (h : fk_H), fk_ev d qL_law 282 [a0, a1, a2, .int x] st h = fk_ev d qL_law 283 [a0, a1, a2, .int x] (.int x :: st) h) ∧
  (∀ (d : Nat) (L st : List Value) (h : fk_H), fk_ev d qL_law 283 L st h = fk_ev d qL_law 284 L (.int (nI 1) :: st) h) ∧
  (∀ (d : Nat) (L : List Value) (x y : Int32) (st : List Value) (h : fk_H), fk_ev d qL_law 284 L (.int y :: .int x :: st) h = fk_ev d qL_law 285 L (.int (x + y) :: st) h) ∧
  (∀ (d : Nat) (L st : List Value) (N : Nat) (y : Nat → Nat → Int32) (l : Nat → Nat → Int64) (i : Nat), i < N → N < 2 ^ 31 → fk_ev d qL_law 285 L (.int (nI i) :: .ref 0 :: st) (fk_E N y l) = fk_ev d qL_law 286 L (.int (y 0 i) :: st) (fk_E N y l)) ∧
  (∀ (d : Nat) (a1 a2 a3 : Value) (x : Nat) (st : List Value) (h : fk_H), fk_ev d qL_law 286 [.ref x, a1, a2, a3] st h = fk_ev d qL_law 287 [.ref x, a1, a2, a3] (.ref x :: st) h) ∧
  (∀ (d : Nat) (a0 a1 a2 : Value) (x : Int32) (st : List Value) (h : fk_H), fk_ev d qL_law 287 [a0, a1, a2, .int x] st h = fk_ev d qL_law 288 [a0, a1, a2, .int x] (.int x :: st) h) ∧
  (∀ (d : Nat) (L st : List Value) (h : fk_H), fk_ev d qL_law 288 L st h = fk_ev d qL_law 289 L (.int (nI 2) :: st) h) ∧
  (∀ (d : Nat) (L : List Value) (x y : Int32) (st : List Value) (h : fk_H), fk_ev d qL_law 289 L (.int y :: .int x :: st) h = fk_ev d qL_law 290 L (.int (x + y) :: st) h) ∧
  (∀ (d : Nat) (L st : List Value) (N : Nat) (y : Nat → Nat → Int32) (l : Nat → Nat → Int64) (i : Nat), i < N → N < 2 ^ 31 → fk_ev d qL_law 290 L (.int (nI i) :: .ref 0 :: st) (fk_E N y l) = fk_ev d qL_law 291 L (.int (y 0 i) :: st) (fk_E N y l)) ∧
  (∀ (d : Nat) (L : List Value) (x0 : Int32) (x1 : Int32)  (N : Nat) (y : Nat → Nat → Int32) (l : Nat → Nat → Int64), fk_ev (d + 1) qL_law 291 L (.int x1 :: .int x0 :: .ref 1 :: []) (fk_E N y l) = (fk_ev d qX11_comes 0 [.ref 1, .int x0, .int x1] [] (fk_E N y l)).bind fun o => fk_ev (d + 1) qL_law 294 L (o.1.toList ++ []) o.2) ∧
  (∀ (d : Nat) (a0 a1 a3 : Value) (x : Nat) (st : List Value) (h : fk_H), fk_ev d qL_law 294 [a0, a1, .ref x, a3] st h = fk_ev d qL_law 295 [a0, a1, .ref x, a3] (.ref x :: st) h) ∧
  (∀ (d : Nat) (a1 a2 a3 : Value) (x : Nat) (st : List Value) (h : fk_H), fk_ev d qL_law 295 [.ref x, a1, a2, a3] st h = fk_ev d qL_law 296 [.ref x, a1, a2, a3] (.ref x :: st) h) ∧
  (∀ (d : Nat) (a0 a1 a2 : Value) (x : Int32) (st : List Value) (h : fk_H), fk_ev d qL_law 296 [a0, a1, a2, .int x] st h = fk_ev d qL_law 297 [a0, a1, a2, .int x] (.int x :: st) h) ∧
  (∀ (d : Nat) (L st : List Value) (h : fk_H), fk_ev d qL_law 297 L st h = fk_ev d qL_law 298 L (.int (nI 1) :: st) h) ∧
  (∀ (d : Nat) (L : List Value) (x y : Int32) (st : List Value) (h : fk_H), fk_ev d qL_law 298 L (.int y :: .int x :: st) h = fk_ev d qL_law 299 L (.int (x + y) :: st) h) ∧
  (∀ (d : Nat) (L st : List Value) (N : Nat) (y : Nat → Nat → Int32) (l : Nat → Nat → Int64) (i : Nat), i < N → N < 2 ^ 31 → fk_ev d qL_law 299 L (.int (nI i) :: .ref 0 :: st) (fk_E N y l) = fk_ev d qL_law 300 L (.int (y 0 i) :: st) (fk_E N y l)) ∧
  (∀ (d : Nat) (a1 a2 a3 : Value) (x : Nat) (st : List Value) (h : fk_H), fk_ev d qL_law 300 [.ref x, a1, a2, a3] st h = fk_ev d qL_law 301 [.ref x, a1, a2, a3] (.ref x :: st) h) ∧
  (∀ (d : Nat) (a0 a1 a2 : Value) (x : Int32) (st : List Value) (h : fk_H), fk_ev d qL_law 301 [a0, a1, a2, .int x] st h = fk_ev d qL_law 302 [a0, a1, a2, .int x] (.int x :: st) h) ∧
  (∀ (d : Nat) (L st : List Value) (h : fk_H), fk_ev d qL_law 302 L st h = fk_ev d qL_law 303 L (.int (nI 2) :: st) h) ∧
  (∀ (d : Nat) (L : List Value) (x y : Int32) (st : List Value) (h : fk_H), fk_ev d qL_law 303 L (.int y :: .int x :: st) h = fk_ev d qL_law 304 L (.int (x + y) :: st) h) ∧
  (∀ (d : Nat) (L st : List Value) (N : Nat) (y : Nat → Nat → Int32) (l : Nat → Nat → Int64) (i : Nat), i < N → N < 2 ^ 31 → fk_ev d qL_law 304 L (.int (nI i) :: .ref 0 :: st) (fk_E N y l) = fk_ev d qL_law 305 L (.int (y 0 i) :: st) (fk_E N y l)) ∧
  (∀ (d : Nat) (L : List Value) (x0 : Int32) (x1 : Int32) (w0 : Value) (N : Nat) (y : Nat → Nat → Int32) (l : Nat → Nat → Int64), fk_ev (d + 1) qL_law 305 L (.int x1 :: .int x0 :: .ref 246 :: [w0]) (fk_E N y l) = (fk_ev d qX12_comes 0 [.ref 246, .int x0, .int x1, .null] [] (fk_E N y l)).bind fun o => fk_ev (d + 1) qL_law 308 L (o.1.toList ++ [w0]) o.2) ∧
  (∀ (d : Nat) (L : List Value) (x y : Int32) (st : List Value) (h : fk_H), fk_ev d qL_law 308 L (.int y :: .int x :: st) h = if x = y then fk_ev d qL_law 1211 L st h else fk_ev d qL_law 311 L st h) ∧
  (∀ (d : Nat) (L st : List Value) (h : fk_H), fk_ev d qL_law 311 L st h = fk_ev d qL_law 312 L (.int (nI 0) :: st) h) ∧
  (∀ (d : Nat) (L : List Value) (h : fk_H), fk_ev d qL_law 312 L [.int (nI 0)] h = some (some (.int (nI 0)), h)) ∧
  (∀ (d : Nat) (L : List Value) (h : fk_H), fk_ev d qL_law 312 L [.int (nI 1)] h = some (some (.int (nI 1)), h)) ∧
  (∀ (d : Nat) (L : List Value) (p : Prop) [Decidable p] (h : fk_H), fk_ev d qL_law 312 L [.int (fk_b p)] h = some (some (.int (fk_b p)), h)) ∧
  (∀ (d : Nat) (L : List Value) (x : Int32) (h : fk_H), (x = nI 0 ∨ x = nI 1) → fk_ev d qL_law 312 L [.int x] h = some (some (.int x), h)) ∧
  (∀ (d : Nat) (a0 a2 a3 : Value) (x : Nat) (st : List Value) (h : fk_H), fk_ev d qL_law 313 [a0, .ref x, a2, a3] st h = fk_ev d qL_law 314 [a0, .ref x, a2, a3] (.ref x :: st) h) ∧
  (∀ (d : Nat) (a1 a2 a3 : Value) (x : Nat) (st : List Value) (h : fk_H), fk_ev d qL_law 314 [.ref x, a1, a2, a3] st h = fk_ev d qL_law 315 [.ref x, a1, a2, a3] (.ref x :: st) h) ∧
  (∀ (d : Nat) (a0 a1 a2 : Value) (x : Int32) (st : List Value) (h : fk_H), fk_ev d qL_law 315 [a0, a1, a2, .int x] st h = fk_ev d qL_law 316 [a0, a1, a2, .int x] (.int x :: st) h) ∧
  (∀ (d : Nat) (L st : List Value) (h : fk_H), fk_ev d qL_law 316 L st h = fk_ev d qL_law 317 L (.int (nI 1) :: st) h) ∧
  (∀ (d : Nat) (L : List Value) (x y : Int32) (st : List Value) (h : fk_H), fk_ev d qL_law 317 L (.int y :: .int x :: st) h = fk_ev d qL_law 318 L (.int (x + y) :: st) h) ∧
  (∀ (d : Nat) (L st : List Value) (N : Nat) (y : Nat → Nat → Int32) (l : Nat → Nat → Int64) (i : Nat), i < N → N < 2 ^ 31 → fk_ev d qL_law 318 L (.int (nI i) :: .ref 0 :: st) (fk_E N y l) = fk_ev d qL_law 319 L (.int (y 0 i) :: st) (fk_E N y l)) ∧
  (∀ (d : Nat) (a1 a2 a3 : Value) (x : Nat) (st : List Value) (h : fk_H), fk_ev d qL_law 319 [.ref x, a1, a2, a3] st h = fk_ev d qL_law 320 [.ref x, a1, a2, a3] (.ref x :: st) h) ∧
  (∀ (d : Nat) (a0 a1 a2 : Value) (x : Int32) (st : List Value) (h : fk_H), fk_ev d qL_law 320 [a0, a1, a2, .int x] st h = fk_ev d qL_law 321 [a0, a1, a2, .int x] (.int x :: st) h) ∧
  (∀ (d : Nat) (L st : List Value) (h : fk_H), fk_ev d qL_law 321 L st h = fk_ev d qL_law 322 L (.int (nI 2) :: st) h) ∧
  (∀ (d : Nat) (L : List Value) (x y : Int32) (st : List Value) (h : fk_H), fk_ev d qL_law 322 L (.int y :: .int x :: st) h = fk_ev d qL_law 323 L (.int (x + y) :: st) h) ∧
  (∀ (d : Nat) (L st : List Value) (N : Nat) (y : Nat → Nat → Int32) (l : Nat → Nat → Int64) (i : Nat), i < N → N < 2 ^ 31 → fk_ev d qL_law 323 L (.int (nI i) :: .ref 0 :: st) (fk_E N y l) = fk_ev d qL_law 324 L (.int (y 0 i) :: st) (fk_E N y l)) ∧
  (∀ (d : Nat) (a1 a2 a3 : Value) (x : Nat) (st : List Value) (h : fk_H), fk_ev d qL_law 324 [.ref x, a1, a2, a3] st h = fk_ev d qL_law 325 [.ref x, a1, a2, a3] (.ref x :: st) h) ∧
  (∀ (d : Nat) (a0 a1 a2 : Value) (x : Int32) (st : List Value) (h : fk_H), fk_ev d qL_law 325 [a0, a1, a2, .int x] st h = fk_ev d qL_law 326 [a0, a1, a2, .int x] (.int x :: st) h) ∧
  (∀ (d : Nat) (L st : List Value) (h : fk_H), fk_ev d qL_law 326 L st h = fk_ev d qL_law 327 L (.int (nI 3) :: st) h) ∧
  (∀ (d : Nat) (L : List Value) (x y : Int32) (st : List Value) (h : fk_H), fk_ev d qL_law 327 L (.int y :: .int x :: st) h = fk_ev d qL_law 328 L (.int (x + y) :: st) h) ∧
  (∀ (d : Nat) (L st : List Value) (N : Nat) (y : Nat → Nat → Int32) (l : Nat → Nat → Int64) (i : Nat), i < N → N < 2 ^ 31 → fk_ev d qL_law 328 L (.int (nI i) :: .ref 0 :: st) (fk_E N y l) = fk_ev d qL_law 329 L (.int (y 0 i) :: st) (fk_E N y l)) ∧
  (∀ (d : Nat) (L : List Value) (x : Int32) (st : List Value) (h : fk_H), fk_ev d qL_law 329 L (.int x :: st) h = if x = nI 0 then fk_ev d qL_law 336 L st h else fk_ev d qL_law 332 L st h) ∧
  (∀ (d : Nat) (L st : List Value) (h : fk_H), fk_ev d qL_law 332 L st h = fk_ev d qL_law 333 L (.int (nI 1) :: st) h) ∧
  (∀ (d : Nat) (L st : List Value) (h : fk_H), fk_ev d qL_law 333 L st h = fk_ev d qL_law 337 L st h) ∧
  (∀ (d : Nat) (L st : List Value) (h : fk_H), fk_ev d qL_law 336 L st h = fk_ev d qL_law 337 L (.int (nI 0) :: st) h) ∧
  (∀ (d : Nat) (L : List Value) (x0 : Int32) (x1 : Int32) (x2 : Int32)  (N : Nat) (y : Nat → Nat → Int32) (l : Nat → Nat → Int64), fk_ev (d + 1) qL_law 337 L (.int x2 :: .int x1 :: .int x0 :: .ref 1 :: []) (fk_E N y l) = (fk_ev d qX11_learns 0 [.ref 1, .int x0, .int x1, .int x2] [] (fk_E N y l)).bind fun o => fk_ev (d + 1) qL_law 340 L (o.1.toList ++ []) o.2) ∧
  (∀ (d : Nat) (a0 a1 a3 : Value) (x : Nat) (st : List Value) (h : fk_H), fk_ev d qL_law 340 [a0, a1, .ref x, a3] st h = fk_ev d qL_law 341 [a0, a1, .ref x, a3] (.ref x :: st) h) ∧
  (∀ (d : Nat) (a1 a2 a3 : Value) (x : Nat) (st : List Value) (h : fk_H), fk_ev d qL_law 341 [.ref x, a1, a2, a3] st h = fk_ev d qL_law 342 [.ref x, a1, a2, a3] (.ref x :: st) h) ∧
  (∀ (d : Nat) (a0 a1 a2 : Value) (x : Int32) (st : List Value) (h : fk_H), fk_ev d qL_law 342 [a0, a1, a2, .int x] st h = fk_ev d qL_law 343 [a0, a1, a2, .int x] (.int x :: st) h) ∧
  (∀ (d : Nat) (L st : List Value) (h : fk_H), fk_ev d qL_law 343 L st h = fk_ev d qL_law 344 L (.int (nI 1) :: st) h) := ⟨fun d L x st h => fk_r_dup_ref dL_law_3,
  fun d a0 a1 a2 a3 x st h => fk_w_astoren 1 4 [] [a0, a1, a2, a3] [a0, .ref x, a2, a3] dL_law_7 rfl rfl (by decide) rfl,
  fun d L x st h => fk_r_dup_ref dL_law_11,
  fun d a0 a1 a2 a3 x st h => fk_w_astoren 2 4 [] [a0, a1, a2, a3] [a0, a1, .ref x, a3] dL_law_15 rfl rfl (by decide) rfl,
  fun d L st h => fk_w_iconst dL_law_16 (by decide),
  fun d a0 a1 a2 a3 x st h => fk_w_istoren 3 4 [] [a0, a1, a2, a3] [a0, a1, a2, .int x] dL_law_17 rfl rfl (by decide) rfl,
  fun d a1 a2 a3 x st h => fk_w_aloadn 0 [.ref x, a1, a2, a3] dL_law_19 rfl,
  fun d L st N y l => fk_h_slen dL_law_20,
  fun d L st h => fk_w_bipush dL_law_21 (by decide),
  fun d L x y st h => fk_r_isub dL_law_23,
  fun d L x y st h => fk_r_icmp_gt dL_law_24 (by decide),
  fun d a1 a2 a3 x st h => fk_w_aloadn 0 [.ref x, a1, a2, a3] dL_law_27 rfl,
  fun d a0 a1 a2 x st h => fk_w_iloadn 3 [a0, a1, a2, .int x] dL_law_28 rfl,
  fun d L st N y l i hi hN => fk_h_sld dL_law_29 hi hN,
  fun d L st h => fk_w_bipush dL_law_30 (by decide),
  fun d L x y st h => fk_r_iand dL_law_32,
  fun d L st h => fk_w_tab (0) (off := 135) dL_law_33 (by decide) (by decide) (by decide) (by decide),
  fun d L st h => fk_w_tab (1) (off := 188) dL_law_33 (by decide) (by decide) (by decide) (by decide),
  fun d L st h => fk_w_tab (2) (off := 247) dL_law_33 (by decide) (by decide) (by decide) (by decide),
  fun d L st h => fk_w_tab (3) (off := 280) dL_law_33 (by decide) (by decide) (by decide) (by decide),
  fun d L st h => fk_w_tab (4) (off := 339) dL_law_33 (by decide) (by decide) (by decide) (by decide),
  fun d L st h => fk_w_tab (5) (off := 372) dL_law_33 (by decide) (by decide) (by decide) (by decide),
  fun d L st h => fk_w_tab (6) (off := 435) dL_law_33 (by decide) (by decide) (by decide) (by decide),
  fun d L st h => fk_w_tab (7) (off := 458) dL_law_33 (by decide) (by decide) (by decide) (by decide),
  fun d L st h => fk_w_tab (8) (off := 481) dL_law_33 (by decide) (by decide) (by decide) (by decide),
  fun d L st h => fk_w_tab (9) (off := 514) dL_law_33 (by decide) (by decide) (by decide) (by decide),
  fun d L st h => fk_w_tab (10) (off := 547) dL_law_33 (by decide) (by decide) (by decide) (by decide),
  fun d L st h => fk_w_tab (11) (off := 580) dL_law_33 (by decide) (by decide) (by decide) (by decide),
  fun d L st h => fk_w_tab (12) (off := 613) dL_law_33 (by decide) (by decide) (by decide) (by decide),
  fun d L st h => fk_w_tab (13) (off := 646) dL_law_33 (by decide) (by decide) (by decide) (by decide),
  fun d L st h => fk_w_tab (14) (off := 680) dL_law_33 (by decide) (by decide) (by decide) (by decide),
  fun d L st h => fk_w_tab (15) (off := 733) dL_law_33 (by decide) (by decide) (by decide) (by decide),
  fun d L st h => fk_w_tab (16) (off := 766) dL_law_33 (by decide) (by decide) (by decide) (by decide),
  fun d L st h => fk_w_tab (17) (off := 809) dL_law_33 (by decide) (by decide) (by decide) (by decide),
  fun d L st h => fk_w_tab (18) (off := 842) dL_law_33 (by decide) (by decide) (by decide) (by decide),
  fun d L st h => fk_w_tab (19) (off := 865) dL_law_33 (by decide) (by decide) (by decide) (by decide),
  fun d L st h => fk_w_tab (20) (off := 888) dL_law_33 (by decide) (by decide) (by decide) (by decide),
  fun d L st h => fk_w_tab (21) (off := 931) dL_law_33 (by decide) (by decide) (by decide) (by decide),
  fun d L st h => fk_w_tab (22) (off := 964) dL_law_33 (by decide) (by decide) (by decide) (by decide),
  fun d L st h => fk_w_tab (23) (off := 1007) dL_law_33 (by decide) (by decide) (by decide) (by decide),
  fun d L st h => fk_w_tab (24) (off := 1040) dL_law_33 (by decide) (by decide) (by decide) (by decide),
  fun d L st h => fk_w_tab (25) (off := 1083) dL_law_33 (by decide) (by decide) (by decide) (by decide),
  fun d L st h => fk_w_tab (26) (off := 1106) dL_law_33 (by decide) (by decide) (by decide) (by decide),
  fun d L st h => fk_w_tab (27) (off := 1119) dL_law_33 (by decide) (by decide) (by decide) (by decide),
  fun d L st h => fk_w_tab (28) (off := 1132) dL_law_33 (by decide) (by decide) (by decide) (by decide),
  fun d L st h => fk_w_tab (29) (off := 1155) dL_law_33 (by decide) (by decide) (by decide) (by decide),
  fun d L x st h hx => fk_w_tabo dL_law_33 hx (by decide),
  fun d a0 a2 a3 x st h => fk_w_aloadn 1 [a0, .ref x, a2, a3] dL_law_168 rfl,
  fun d a1 a2 a3 x st h => fk_w_aloadn 0 [.ref x, a1, a2, a3] dL_law_169 rfl,
  fun d a0 a1 a2 x st h => fk_w_iloadn 3 [a0, a1, a2, .int x] dL_law_170 rfl,
  fun d L st h => fk_w_iconst dL_law_171 (by decide),
  fun d L x y st h => fk_r_iadd dL_law_172,
  fun d L st N y l i hi hN => fk_h_sld dL_law_173 hi hN,
  fun d a1 a2 a3 x st h => fk_w_aloadn 0 [.ref x, a1, a2, a3] dL_law_174 rfl,
  fun d a0 a1 a2 x st h => fk_w_iloadn 3 [a0, a1, a2, .int x] dL_law_175 rfl,
  fun d L st h => fk_w_iconst dL_law_176 (by decide),
  fun d L x y st h => fk_r_iadd dL_law_177,
  fun d L st N y l i hi hN => fk_h_sld dL_law_178 hi hN,
  fun d a1 a2 a3 x st h => fk_w_aloadn 0 [.ref x, a1, a2, a3] dL_law_179 rfl,
  fun d a0 a1 a2 x st h => fk_w_iloadn 3 [a0, a1, a2, .int x] dL_law_180 rfl,
  fun d L st h => fk_w_iconst dL_law_181 (by decide),
  fun d L x y st h => fk_r_iadd dL_law_182,
  fun d L st N y l i hi hN => fk_h_sld dL_law_183 hi hN,
  fun d a1 a2 a3 x st h => fk_w_aloadn 0 [.ref x, a1, a2, a3] dL_law_184 rfl,
  fun d a0 a1 a2 x st h => fk_w_iloadn 3 [a0, a1, a2, .int x] dL_law_185 rfl,
  fun d L st h => fk_w_iconst dL_law_186 (by decide),
  fun d L x y st h => fk_r_iadd dL_law_187,
  fun d L st N y l i hi hN => fk_h_sld dL_law_188 hi hN,
  fun d L x0 x1 x2 x3 N y l  => fk_g_call [.int x0, .int x1, .int x2, .int x3] [] rfl lm_13_13 dL_law_189 rfl ⟨rfl, by decide⟩ (by simp) fk_at_1,
  fun d a0 a1 a3 x st h => fk_w_aloadn 2 [a0, a1, .ref x, a3] dL_law_192 rfl,
  fun d a1 a2 a3 x st h => fk_w_aloadn 0 [.ref x, a1, a2, a3] dL_law_193 rfl,
  fun d a0 a1 a2 x st h => fk_w_iloadn 3 [a0, a1, a2, .int x] dL_law_194 rfl,
  fun d L st h => fk_w_iconst dL_law_195 (by decide),
  fun d L x y st h => fk_r_iadd dL_law_196,
  fun d L st N y l i hi hN => fk_h_sld dL_law_197 hi hN,
  fun d a1 a2 a3 x st h => fk_w_aloadn 0 [.ref x, a1, a2, a3] dL_law_198 rfl,
  fun d a0 a1 a2 x st h => fk_w_iloadn 3 [a0, a1, a2, .int x] dL_law_199 rfl,
  fun d L st h => fk_w_iconst dL_law_200 (by decide),
  fun d L x y st h => fk_r_iadd dL_law_201,
  fun d L st N y l i hi hN => fk_h_sld dL_law_202 hi hN,
  fun d a1 a2 a3 x st h => fk_w_aloadn 0 [.ref x, a1, a2, a3] dL_law_203 rfl,
  fun d a0 a1 a2 x st h => fk_w_iloadn 3 [a0, a1, a2, .int x] dL_law_204 rfl,
  fun d L st h => fk_w_iconst dL_law_205 (by decide),
  fun d L x y st h => fk_r_iadd dL_law_206,
  fun d L st N y l i hi hN => fk_h_sld dL_law_207 hi hN,
  fun d a1 a2 a3 x st h => fk_w_aloadn 0 [.ref x, a1, a2, a3] dL_law_208 rfl,
  fun d a0 a1 a2 x st h => fk_w_iloadn 3 [a0, a1, a2, .int x] dL_law_209 rfl,
  fun d L st h => fk_w_iconst dL_law_210 (by decide),
  fun d L x y st h => fk_r_iadd dL_law_211,
  fun d L st N y l i hi hN => fk_h_sld dL_law_212 hi hN,
  fun d L x0 x1 x2 x3 w0 N y l  => fk_g_call [.int x0, .int x1, .int x2, .int x3] [w0] rfl lm_13_17 dL_law_213 rfl ⟨rfl, by decide⟩ (by simp) fk_at_246,
  fun d L x y st h => fk_r_icmp_eq dL_law_216 (by decide),
  fun d L st h => fk_w_iconst dL_law_219 (by decide),
  fun d L h => fk_r_ret dL_law_220 (Or.inr (Or.inl ⟨rfl, by decide⟩)),
  fun d L h => fk_r_ret dL_law_220 (Or.inr (Or.inl ⟨rfl, by decide⟩)),
  fun d L p _ h => fk_r_ret dL_law_220 (Or.inr (Or.inl ⟨rfl, fk_b_01⟩)),
  fun d L x h hx => fk_r_ret dL_law_220 (Or.inr (Or.inl ⟨rfl, hx⟩)),
  fun d a0 a2 a3 x st h => fk_w_aloadn 1 [a0, .ref x, a2, a3] dL_law_221 rfl,
  fun d a1 a2 a3 x st h => fk_w_aloadn 0 [.ref x, a1, a2, a3] dL_law_222 rfl,
  fun d a0 a1 a2 x st h => fk_w_iloadn 3 [a0, a1, a2, .int x] dL_law_223 rfl,
  fun d L st h => fk_w_iconst dL_law_224 (by decide),
  fun d L x y st h => fk_r_iadd dL_law_225,
  fun d L st N y l i hi hN => fk_h_sld dL_law_226 hi hN,
  fun d a1 a2 a3 x st h => fk_w_aloadn 0 [.ref x, a1, a2, a3] dL_law_227 rfl,
  fun d a0 a1 a2 x st h => fk_w_iloadn 3 [a0, a1, a2, .int x] dL_law_228 rfl,
  fun d L st h => fk_w_iconst dL_law_229 (by decide),
  fun d L x y st h => fk_r_iadd dL_law_230,
  fun d L st N y l i hi hN => fk_h_sld dL_law_231 hi hN,
  fun d a1 a2 a3 x st h => fk_w_aloadn 0 [.ref x, a1, a2, a3] dL_law_232 rfl,
  fun d a0 a1 a2 x st h => fk_w_iloadn 3 [a0, a1, a2, .int x] dL_law_233 rfl,
  fun d L st h => fk_w_iconst dL_law_234 (by decide),
  fun d L x y st h => fk_r_iadd dL_law_235,
  fun d L st N y l i hi hN => fk_h_sld dL_law_236 hi hN,
  fun d L x st h => fk_r_if_eq dL_law_237 (by decide),
  fun d L st h => fk_w_iconst dL_law_240 (by decide),
  fun d L st h => fk_r_goto dL_law_241 (by decide),
  fun d L st h => fk_w_iconst dL_law_244 (by decide),
  fun d L x0 x1 x2 N y l  => fk_g_call [.int x0, .int x1, .int x2] [] rfl lm_13_18 dL_law_245 rfl ⟨rfl, by decide⟩ (by simp) fk_at_1,
  fun d a0 a1 a3 x st h => fk_w_aloadn 2 [a0, a1, .ref x, a3] dL_law_248 rfl,
  fun d a1 a2 a3 x st h => fk_w_aloadn 0 [.ref x, a1, a2, a3] dL_law_249 rfl,
  fun d a0 a1 a2 x st h => fk_w_iloadn 3 [a0, a1, a2, .int x] dL_law_250 rfl,
  fun d L st h => fk_w_iconst dL_law_251 (by decide),
  fun d L x y st h => fk_r_iadd dL_law_252,
  fun d L st N y l i hi hN => fk_h_sld dL_law_253 hi hN,
  fun d a1 a2 a3 x st h => fk_w_aloadn 0 [.ref x, a1, a2, a3] dL_law_254 rfl,
  fun d a0 a1 a2 x st h => fk_w_iloadn 3 [a0, a1, a2, .int x] dL_law_255 rfl,
  fun d L st h => fk_w_iconst dL_law_256 (by decide),
  fun d L x y st h => fk_r_iadd dL_law_257,
  fun d L st N y l i hi hN => fk_h_sld dL_law_258 hi hN,
  fun d a1 a2 a3 x st h => fk_w_aloadn 0 [.ref x, a1, a2, a3] dL_law_259 rfl,
  fun d a0 a1 a2 x st h => fk_w_iloadn 3 [a0, a1, a2, .int x] dL_law_260 rfl,
  fun d L st h => fk_w_iconst dL_law_261 (by decide),
  fun d L x y st h => fk_r_iadd dL_law_262,
  fun d L st N y l i hi hN => fk_h_sld dL_law_263 hi hN,
  fun d L x st h => fk_r_if_eq dL_law_264 (by decide),
  fun d L st h => fk_w_iconst dL_law_267 (by decide),
  fun d L st h => fk_r_goto dL_law_268 (by decide),
  fun d L st h => fk_w_iconst dL_law_271 (by decide),
  fun d L x0 x1 x2 w0 N y l  => fk_g_call [.int x0, .int x1, .int x2] [w0] rfl lm_13_22 dL_law_272 rfl ⟨rfl, by decide⟩ (by simp) fk_at_246,
  fun d L x y st h => fk_r_icmp_eq dL_law_275 (by decide),
  fun d L st h => fk_w_iconst dL_law_278 (by decide),
  fun d L h => fk_r_ret dL_law_279 (Or.inr (Or.inl ⟨rfl, by decide⟩)),
  fun d L h => fk_r_ret dL_law_279 (Or.inr (Or.inl ⟨rfl, by decide⟩)),
  fun d L p _ h => fk_r_ret dL_law_279 (Or.inr (Or.inl ⟨rfl, fk_b_01⟩)),
  fun d L x h hx => fk_r_ret dL_law_279 (Or.inr (Or.inl ⟨rfl, hx⟩)),
  fun d a0 a2 a3 x st h => fk_w_aloadn 1 [a0, .ref x, a2, a3] dL_law_280 rfl,
  fun d a1 a2 a3 x st h => fk_w_aloadn 0 [.ref x, a1, a2, a3] dL_law_281 rfl,
  fun d a0 a1 a2 x st h => fk_w_iloadn 3 [a0, a1, a2, .int x] dL_law_282 rfl,
  fun d L st h => fk_w_iconst dL_law_283 (by decide),
  fun d L x y st h => fk_r_iadd dL_law_284,
  fun d L st N y l i hi hN => fk_h_sld dL_law_285 hi hN,
  fun d a1 a2 a3 x st h => fk_w_aloadn 0 [.ref x, a1, a2, a3] dL_law_286 rfl,
  fun d a0 a1 a2 x st h => fk_w_iloadn 3 [a0, a1, a2, .int x] dL_law_287 rfl,
  fun d L st h => fk_w_iconst dL_law_288 (by decide),
  fun d L x y st h => fk_r_iadd dL_law_289,
  fun d L st N y l i hi hN => fk_h_sld dL_law_290 hi hN,
  fun d L x0 x1 N y l  => fk_g_call [.int x0, .int x1] [] rfl lm_13_23 dL_law_291 rfl ⟨rfl, by decide⟩ (by simp) fk_at_1,
  fun d a0 a1 a3 x st h => fk_w_aloadn 2 [a0, a1, .ref x, a3] dL_law_294 rfl,
  fun d a1 a2 a3 x st h => fk_w_aloadn 0 [.ref x, a1, a2, a3] dL_law_295 rfl,
  fun d a0 a1 a2 x st h => fk_w_iloadn 3 [a0, a1, a2, .int x] dL_law_296 rfl,
  fun d L st h => fk_w_iconst dL_law_297 (by decide),
  fun d L x y st h => fk_r_iadd dL_law_298,
  fun d L st N y l i hi hN => fk_h_sld dL_law_299 hi hN,
  fun d a1 a2 a3 x st h => fk_w_aloadn 0 [.ref x, a1, a2, a3] dL_law_300 rfl,
  fun d a0 a1 a2 x st h => fk_w_iloadn 3 [a0, a1, a2, .int x] dL_law_301 rfl,
  fun d L st h => fk_w_iconst dL_law_302 (by decide),
  fun d L x y st h => fk_r_iadd dL_law_303,
  fun d L st N y l i hi hN => fk_h_sld dL_law_304 hi hN,
  fun d L x0 x1 w0 N y l  => fk_g_call [.int x0, .int x1] [w0] rfl lm_13_27 dL_law_305 rfl ⟨rfl, by decide⟩ (by simp) fk_at_246,
  fun d L x y st h => fk_r_icmp_eq dL_law_308 (by decide),
  fun d L st h => fk_w_iconst dL_law_311 (by decide),
  fun d L h => fk_r_ret dL_law_312 (Or.inr (Or.inl ⟨rfl, by decide⟩)),
  fun d L h => fk_r_ret dL_law_312 (Or.inr (Or.inl ⟨rfl, by decide⟩)),
  fun d L p _ h => fk_r_ret dL_law_312 (Or.inr (Or.inl ⟨rfl, fk_b_01⟩)),
  fun d L x h hx => fk_r_ret dL_law_312 (Or.inr (Or.inl ⟨rfl, hx⟩)),
  fun d a0 a2 a3 x st h => fk_w_aloadn 1 [a0, .ref x, a2, a3] dL_law_313 rfl,
  fun d a1 a2 a3 x st h => fk_w_aloadn 0 [.ref x, a1, a2, a3] dL_law_314 rfl,
  fun d a0 a1 a2 x st h => fk_w_iloadn 3 [a0, a1, a2, .int x] dL_law_315 rfl,
  fun d L st h => fk_w_iconst dL_law_316 (by decide),
  fun d L x y st h => fk_r_iadd dL_law_317,
  fun d L st N y l i hi hN => fk_h_sld dL_law_318 hi hN,
  fun d a1 a2 a3 x st h => fk_w_aloadn 0 [.ref x, a1, a2, a3] dL_law_319 rfl,
  fun d a0 a1 a2 x st h => fk_w_iloadn 3 [a0, a1, a2, .int x] dL_law_320 rfl,
  fun d L st h => fk_w_iconst dL_law_321 (by decide),
  fun d L x y st h => fk_r_iadd dL_law_322,
  fun d L st N y l i hi hN => fk_h_sld dL_law_323 hi hN,
  fun d a1 a2 a3 x st h => fk_w_aloadn 0 [.ref x, a1, a2, a3] dL_law_324 rfl,
  fun d a0 a1 a2 x st h => fk_w_iloadn 3 [a0, a1, a2, .int x] dL_law_325 rfl,
  fun d L st h => fk_w_iconst dL_law_326 (by decide),
  fun d L x y st h => fk_r_iadd dL_law_327,
  fun d L st N y l i hi hN => fk_h_sld dL_law_328 hi hN,
  fun d L x st h => fk_r_if_eq dL_law_329 (by decide),
  fun d L st h => fk_w_iconst dL_law_332 (by decide),
  fun d L st h => fk_r_goto dL_law_333 (by decide),
  fun d L st h => fk_w_iconst dL_law_336 (by decide),
  fun d L x0 x1 x2 N y l  => fk_g_call [.int x0, .int x1, .int x2] [] rfl lm_13_28 dL_law_337 rfl ⟨rfl, by decide⟩ (by simp) fk_at_1,
  fun d a0 a1 a3 x st h => fk_w_aloadn 2 [a0, a1, .ref x, a3] dL_law_340 rfl,
  fun d a1 a2 a3 x st h => fk_w_aloadn 0 [.ref x, a1, a2, a3] dL_law_341 rfl,
  fun d a0 a1 a2 x st h => fk_w_iloadn 3 [a0, a1, a2, .int x] dL_law_342 rfl,
  fun d L st h => fk_w_iconst dL_law_343 (by decide)⟩
theorem rL_law_1 : (∀ (d : Nat) (L : List Value) (x y : Int32) (st : List Value) (h : fk_H), fk_ev d qL_law 344 L (.int y :: .int x :: st) h = fk_ev d qL_law 345 L (.int (x + y) :: st) h) ∧
  (∀ (d : Nat) (L st : List Value) (N : Nat) (y : Nat → Nat → Int32) (l : Nat → Nat → Int64) (i : Nat), i < N → N < 2 ^ 31 → fk_ev d qL_law 345 L (.int (nI i) :: .ref 0 :: st) (fk_E N y l) = fk_ev d qL_law 346 L (.int (y 0 i) :: st) (fk_E N y l)) ∧
  (∀ (d : Nat) (a1 a2 a3 : Value) (x : Nat) (st : List Value) (h : fk_H), fk_ev d qL_law 346 [.ref x, a1, a2, a3] st h = fk_ev d qL_law 347 [.ref x, a1, a2, a3] (.ref x :: st) h) ∧
  (∀ (d : Nat) (a0 a1 a2 : Value) (x : Int32) (st : List Value) (h : fk_H), fk_ev d qL_law 347 [a0, a1, a2, .int x] st h = fk_ev d qL_law 348 [a0, a1, a2, .int x] (.int x :: st) h) ∧
  (∀ (d : Nat) (L st : List Value) (h : fk_H), fk_ev d qL_law 348 L st h = fk_ev d qL_law 349 L (.int (nI 2) :: st) h) ∧
  (∀ (d : Nat) (L : List Value) (x y : Int32) (st : List Value) (h : fk_H), fk_ev d qL_law 349 L (.int y :: .int x :: st) h = fk_ev d qL_law 350 L (.int (x + y) :: st) h) ∧
  (∀ (d : Nat) (L st : List Value) (N : Nat) (y : Nat → Nat → Int32) (l : Nat → Nat → Int64) (i : Nat), i < N → N < 2 ^ 31 → fk_ev d qL_law 350 L (.int (nI i) :: .ref 0 :: st) (fk_E N y l) = fk_ev d qL_law 351 L (.int (y 0 i) :: st) (fk_E N y l)) ∧
  (∀ (d : Nat) (a1 a2 a3 : Value) (x : Nat) (st : List Value) (h : fk_H), fk_ev d qL_law 351 [.ref x, a1, a2, a3] st h = fk_ev d qL_law 352 [.ref x, a1, a2, a3] (.ref x :: st) h) ∧
  (∀ (d : Nat) (a0 a1 a2 : Value) (x : Int32) (st : List Value) (h : fk_H), fk_ev d qL_law 352 [a0, a1, a2, .int x] st h = fk_ev d qL_law 353 [a0, a1, a2, .int x] (.int x :: st) h) ∧
  (∀ (d : Nat) (L st : List Value) (h : fk_H), fk_ev d qL_law 353 L st h = fk_ev d qL_law 354 L (.int (nI 3) :: st) h) ∧
  (∀ (d : Nat) (L : List Value) (x y : Int32) (st : List Value) (h : fk_H), fk_ev d qL_law 354 L (.int y :: .int x :: st) h = fk_ev d qL_law 355 L (.int (x + y) :: st) h) ∧
  (∀ (d : Nat) (L st : List Value) (N : Nat) (y : Nat → Nat → Int32) (l : Nat → Nat → Int64) (i : Nat), i < N → N < 2 ^ 31 → fk_ev d qL_law 355 L (.int (nI i) :: .ref 0 :: st) (fk_E N y l) = fk_ev d qL_law 356 L (.int (y 0 i) :: st) (fk_E N y l)) ∧
  (∀ (d : Nat) (L : List Value) (x : Int32) (st : List Value) (h : fk_H), fk_ev d qL_law 356 L (.int x :: st) h = if x = nI 0 then fk_ev d qL_law 363 L st h else fk_ev d qL_law 359 L st h) ∧
  (∀ (d : Nat) (L st : List Value) (h : fk_H), fk_ev d qL_law 359 L st h = fk_ev d qL_law 360 L (.int (nI 1) :: st) h) ∧
  (∀ (d : Nat) (L st : List Value) (h : fk_H), fk_ev d qL_law 360 L st h = fk_ev d qL_law 364 L st h) ∧
  (∀ (d : Nat) (L st : List Value) (h : fk_H), fk_ev d qL_law 363 L st h = fk_ev d qL_law 364 L (.int (nI 0) :: st) h) ∧
  (∀ (d : Nat) (L : List Value) (x0 : Int32) (x1 : Int32) (x2 : Int32) (w0 : Value) (N : Nat) (y : Nat → Nat → Int32) (l : Nat → Nat → Int64), fk_ev (d + 1) qL_law 364 L (.int x2 :: .int x1 :: .int x0 :: .ref 246 :: [w0]) (fk_E N y l) = (fk_ev d qX12_learns 0 [.ref 246, .int x0, .int x1, .int x2] [] (fk_E N y l)).bind fun o => fk_ev (d + 1) qL_law 367 L (o.1.toList ++ [w0]) o.2) ∧
  (∀ (d : Nat) (L : List Value) (x y : Int32) (st : List Value) (h : fk_H), fk_ev d qL_law 367 L (.int y :: .int x :: st) h = if x = y then fk_ev d qL_law 1211 L st h else fk_ev d qL_law 370 L st h) ∧
  (∀ (d : Nat) (L st : List Value) (h : fk_H), fk_ev d qL_law 370 L st h = fk_ev d qL_law 371 L (.int (nI 0) :: st) h) ∧
  (∀ (d : Nat) (L : List Value) (h : fk_H), fk_ev d qL_law 371 L [.int (nI 0)] h = some (some (.int (nI 0)), h)) ∧
  (∀ (d : Nat) (L : List Value) (h : fk_H), fk_ev d qL_law 371 L [.int (nI 1)] h = some (some (.int (nI 1)), h)) ∧
  (∀ (d : Nat) (L : List Value) (p : Prop) [Decidable p] (h : fk_H), fk_ev d qL_law 371 L [.int (fk_b p)] h = some (some (.int (fk_b p)), h)) ∧
  (∀ (d : Nat) (L : List Value) (x : Int32) (h : fk_H), (x = nI 0 ∨ x = nI 1) → fk_ev d qL_law 371 L [.int x] h = some (some (.int x), h)) ∧
  (∀ (d : Nat) (a0 a2 a3 : Value) (x : Nat) (st : List Value) (h : fk_H), fk_ev d qL_law 372 [a0, .ref x, a2, a3] st h = fk_ev d qL_law 373 [a0, .ref x, a2, a3] (.ref x :: st) h) ∧
  (∀ (d : Nat) (a1 a2 a3 : Value) (x : Nat) (st : List Value) (h : fk_H), fk_ev d qL_law 373 [.ref x, a1, a2, a3] st h = fk_ev d qL_law 374 [.ref x, a1, a2, a3] (.ref x :: st) h) ∧
  (∀ (d : Nat) (a0 a1 a2 : Value) (x : Int32) (st : List Value) (h : fk_H), fk_ev d qL_law 374 [a0, a1, a2, .int x] st h = fk_ev d qL_law 375 [a0, a1, a2, .int x] (.int x :: st) h) ∧
  (∀ (d : Nat) (L st : List Value) (h : fk_H), fk_ev d qL_law 375 L st h = fk_ev d qL_law 376 L (.int (nI 1) :: st) h) ∧
  (∀ (d : Nat) (L : List Value) (x y : Int32) (st : List Value) (h : fk_H), fk_ev d qL_law 376 L (.int y :: .int x :: st) h = fk_ev d qL_law 377 L (.int (x + y) :: st) h) ∧
  (∀ (d : Nat) (L st : List Value) (N : Nat) (y : Nat → Nat → Int32) (l : Nat → Nat → Int64) (i : Nat), i < N → N < 2 ^ 31 → fk_ev d qL_law 377 L (.int (nI i) :: .ref 0 :: st) (fk_E N y l) = fk_ev d qL_law 378 L (.int (y 0 i) :: st) (fk_E N y l)) ∧
  (∀ (d : Nat) (a1 a2 a3 : Value) (x : Nat) (st : List Value) (h : fk_H), fk_ev d qL_law 378 [.ref x, a1, a2, a3] st h = fk_ev d qL_law 379 [.ref x, a1, a2, a3] (.ref x :: st) h) ∧
  (∀ (d : Nat) (a0 a1 a2 : Value) (x : Int32) (st : List Value) (h : fk_H), fk_ev d qL_law 379 [a0, a1, a2, .int x] st h = fk_ev d qL_law 380 [a0, a1, a2, .int x] (.int x :: st) h) ∧
  (∀ (d : Nat) (L st : List Value) (h : fk_H), fk_ev d qL_law 380 L st h = fk_ev d qL_law 381 L (.int (nI 2) :: st) h) ∧
  (∀ (d : Nat) (L : List Value) (x y : Int32) (st : List Value) (h : fk_H), fk_ev d qL_law 381 L (.int y :: .int x :: st) h = fk_ev d qL_law 382 L (.int (x + y) :: st) h) ∧
  (∀ (d : Nat) (L st : List Value) (N : Nat) (y : Nat → Nat → Int32) (l : Nat → Nat → Int64) (i : Nat), i < N → N < 2 ^ 31 → fk_ev d qL_law 382 L (.int (nI i) :: .ref 0 :: st) (fk_E N y l) = fk_ev d qL_law 383 L (.int (y 0 i) :: st) (fk_E N y l)) ∧
  (∀ (d : Nat) (L : List Value) (x0 : Int32) (x1 : Int32)  (N : Nat) (y : Nat → Nat → Int32) (l : Nat → Nat → Int64), fk_ev (d + 1) qL_law 383 L (.int x1 :: .int x0 :: .ref 1 :: []) (fk_E N y l) = (fk_ev d qX11_owes 0 [.ref 1, .int x0, .int x1] [] (fk_E N y l)).bind fun o => fk_ev (d + 1) qL_law 386 L (o.1.toList ++ []) o.2) ∧
  (∀ (d : Nat) (a0 a1 a3 : Value) (x : Nat) (st : List Value) (h : fk_H), fk_ev d qL_law 386 [a0, a1, .ref x, a3] st h = fk_ev d qL_law 387 [a0, a1, .ref x, a3] (.ref x :: st) h) ∧
  (∀ (d : Nat) (a1 a2 a3 : Value) (x : Nat) (st : List Value) (h : fk_H), fk_ev d qL_law 387 [.ref x, a1, a2, a3] st h = fk_ev d qL_law 388 [.ref x, a1, a2, a3] (.ref x :: st) h) ∧
  (∀ (d : Nat) (a0 a1 a2 : Value) (x : Int32) (st : List Value) (h : fk_H), fk_ev d qL_law 388 [a0, a1, a2, .int x] st h = fk_ev d qL_law 389 [a0, a1, a2, .int x] (.int x :: st) h) ∧
  (∀ (d : Nat) (L st : List Value) (h : fk_H), fk_ev d qL_law 389 L st h = fk_ev d qL_law 390 L (.int (nI 1) :: st) h) ∧
  (∀ (d : Nat) (L : List Value) (x y : Int32) (st : List Value) (h : fk_H), fk_ev d qL_law 390 L (.int y :: .int x :: st) h = fk_ev d qL_law 391 L (.int (x + y) :: st) h) ∧
  (∀ (d : Nat) (L st : List Value) (N : Nat) (y : Nat → Nat → Int32) (l : Nat → Nat → Int64) (i : Nat), i < N → N < 2 ^ 31 → fk_ev d qL_law 391 L (.int (nI i) :: .ref 0 :: st) (fk_E N y l) = fk_ev d qL_law 392 L (.int (y 0 i) :: st) (fk_E N y l)) ∧
  (∀ (d : Nat) (a1 a2 a3 : Value) (x : Nat) (st : List Value) (h : fk_H), fk_ev d qL_law 392 [.ref x, a1, a2, a3] st h = fk_ev d qL_law 393 [.ref x, a1, a2, a3] (.ref x :: st) h) ∧
  (∀ (d : Nat) (a0 a1 a2 : Value) (x : Int32) (st : List Value) (h : fk_H), fk_ev d qL_law 393 [a0, a1, a2, .int x] st h = fk_ev d qL_law 394 [a0, a1, a2, .int x] (.int x :: st) h) ∧
  (∀ (d : Nat) (L st : List Value) (h : fk_H), fk_ev d qL_law 394 L st h = fk_ev d qL_law 395 L (.int (nI 2) :: st) h) ∧
  (∀ (d : Nat) (L : List Value) (x y : Int32) (st : List Value) (h : fk_H), fk_ev d qL_law 395 L (.int y :: .int x :: st) h = fk_ev d qL_law 396 L (.int (x + y) :: st) h) ∧
  (∀ (d : Nat) (L st : List Value) (N : Nat) (y : Nat → Nat → Int32) (l : Nat → Nat → Int64) (i : Nat), i < N → N < 2 ^ 31 → fk_ev d qL_law 396 L (.int (nI i) :: .ref 0 :: st) (fk_E N y l) = fk_ev d qL_law 397 L (.int (y 0 i) :: st) (fk_E N y l)) ∧
  (∀ (d : Nat) (L : List Value) (x0 : Int32) (x1 : Int32) (w0 : Value) (N : Nat) (y : Nat → Nat → Int32) (l : Nat → Nat → Int64), fk_ev (d + 1) qL_law 397 L (.int x1 :: .int x0 :: .ref 246 :: [w0]) (fk_E N y l) = (fk_ev d qX12_owes 0 [.ref 246, .int x0, .int x1] [] (fk_E N y l)).bind fun o => fk_ev (d + 1) qL_law 400 L (o.1.toList ++ [w0]) o.2) ∧
  (∀ (d : Nat) (L : List Value) (x y : Int32) (st : List Value) (h : fk_H), fk_ev d qL_law 400 L (.int y :: .int x :: st) h = if x = y then fk_ev d qL_law 1211 L st h else fk_ev d qL_law 403 L st h) ∧
  (∀ (d : Nat) (L st : List Value) (h : fk_H), fk_ev d qL_law 403 L st h = fk_ev d qL_law 404 L (.int (nI 0) :: st) h) ∧
  (∀ (d : Nat) (L : List Value) (h : fk_H), fk_ev d qL_law 404 L [.int (nI 0)] h = some (some (.int (nI 0)), h)) ∧
  (∀ (d : Nat) (L : List Value) (h : fk_H), fk_ev d qL_law 404 L [.int (nI 1)] h = some (some (.int (nI 1)), h)) ∧
  (∀ (d : Nat) (L : List Value) (p : Prop) [Decidable p] (h : fk_H), fk_ev d qL_law 404 L [.int (fk_b p)] h = some (some (.int (fk_b p)), h)) ∧
  (∀ (d : Nat) (L : List Value) (x : Int32) (h : fk_H), (x = nI 0 ∨ x = nI 1) → fk_ev d qL_law 404 L [.int x] h = some (some (.int x), h)) ∧
  (∀ (d : Nat) (a0 a2 a3 : Value) (x : Nat) (st : List Value) (h : fk_H), fk_ev d qL_law 405 [a0, .ref x, a2, a3] st h = fk_ev d qL_law 406 [a0, .ref x, a2, a3] (.ref x :: st) h) ∧
  (∀ (d : Nat) (a1 a2 a3 : Value) (x : Nat) (st : List Value) (h : fk_H), fk_ev d qL_law 406 [.ref x, a1, a2, a3] st h = fk_ev d qL_law 407 [.ref x, a1, a2, a3] (.ref x :: st) h) ∧
  (∀ (d : Nat) (a0 a1 a2 : Value) (x : Int32) (st : List Value) (h : fk_H), fk_ev d qL_law 407 [a0, a1, a2, .int x] st h = fk_ev d qL_law 408 [a0, a1, a2, .int x] (.int x :: st) h) ∧
  (∀ (d : Nat) (L st : List Value) (h : fk_H), fk_ev d qL_law 408 L st h = fk_ev d qL_law 409 L (.int (nI 1) :: st) h) ∧
  (∀ (d : Nat) (L : List Value) (x y : Int32) (st : List Value) (h : fk_H), fk_ev d qL_law 409 L (.int y :: .int x :: st) h = fk_ev d qL_law 410 L (.int (x + y) :: st) h) ∧
  (∀ (d : Nat) (L st : List Value) (N : Nat) (y : Nat → Nat → Int32) (l : Nat → Nat → Int64) (i : Nat), i < N → N < 2 ^ 31 → fk_ev d qL_law 410 L (.int (nI i) :: .ref 0 :: st) (fk_E N y l) = fk_ev d qL_law 411 L (.int (y 0 i) :: st) (fk_E N y l)) ∧
  (∀ (d : Nat) (a1 a2 a3 : Value) (x : Nat) (st : List Value) (h : fk_H), fk_ev d qL_law 411 [.ref x, a1, a2, a3] st h = fk_ev d qL_law 412 [.ref x, a1, a2, a3] (.ref x :: st) h) ∧
  (∀ (d : Nat) (a0 a1 a2 : Value) (x : Int32) (st : List Value) (h : fk_H), fk_ev d qL_law 412 [a0, a1, a2, .int x] st h = fk_ev d qL_law 413 [a0, a1, a2, .int x] (.int x :: st) h) ∧
  (∀ (d : Nat) (L st : List Value) (h : fk_H), fk_ev d qL_law 413 L st h = fk_ev d qL_law 414 L (.int (nI 2) :: st) h) ∧
  (∀ (d : Nat) (L : List Value) (x y : Int32) (st : List Value) (h : fk_H), fk_ev d qL_law 414 L (.int y :: .int x :: st) h = fk_ev d qL_law 415 L (.int (x + y) :: st) h) ∧
  (∀ (d : Nat) (L st : List Value) (N : Nat) (y : Nat → Nat → Int32) (l : Nat → Nat → Int64) (i : Nat), i < N → N < 2 ^ 31 → fk_ev d qL_law 415 L (.int (nI i) :: .ref 0 :: st) (fk_E N y l) = fk_ev d qL_law 416 L (.int (y 0 i) :: st) (fk_E N y l)) ∧
  (∀ (d : Nat) (a1 a2 a3 : Value) (x : Nat) (st : List Value) (h : fk_H), fk_ev d qL_law 416 [.ref x, a1, a2, a3] st h = fk_ev d qL_law 417 [.ref x, a1, a2, a3] (.ref x :: st) h) ∧
  (∀ (d : Nat) (a0 a1 a2 : Value) (x : Int32) (st : List Value) (h : fk_H), fk_ev d qL_law 417 [a0, a1, a2, .int x] st h = fk_ev d qL_law 418 [a0, a1, a2, .int x] (.int x :: st) h) ∧
  (∀ (d : Nat) (L st : List Value) (h : fk_H), fk_ev d qL_law 418 L st h = fk_ev d qL_law 419 L (.int (nI 3) :: st) h) ∧
  (∀ (d : Nat) (L : List Value) (x y : Int32) (st : List Value) (h : fk_H), fk_ev d qL_law 419 L (.int y :: .int x :: st) h = fk_ev d qL_law 420 L (.int (x + y) :: st) h) ∧
  (∀ (d : Nat) (L st : List Value) (N : Nat) (y : Nat → Nat → Int32) (l : Nat → Nat → Int64) (i : Nat), i < N → N < 2 ^ 31 → fk_ev d qL_law 420 L (.int (nI i) :: .ref 0 :: st) (fk_E N y l) = fk_ev d qL_law 421 L (.int (y 0 i) :: st) (fk_E N y l)) ∧
  (∀ (d : Nat) (a1 a2 a3 : Value) (x : Nat) (st : List Value) (h : fk_H), fk_ev d qL_law 421 [.ref x, a1, a2, a3] st h = fk_ev d qL_law 422 [.ref x, a1, a2, a3] (.ref x :: st) h) ∧
  (∀ (d : Nat) (a0 a1 a2 : Value) (x : Int32) (st : List Value) (h : fk_H), fk_ev d qL_law 422 [a0, a1, a2, .int x] st h = fk_ev d qL_law 423 [a0, a1, a2, .int x] (.int x :: st) h) ∧
  (∀ (d : Nat) (L st : List Value) (h : fk_H), fk_ev d qL_law 423 L st h = fk_ev d qL_law 424 L (.int (nI 4) :: st) h) ∧
  (∀ (d : Nat) (L : List Value) (x y : Int32) (st : List Value) (h : fk_H), fk_ev d qL_law 424 L (.int y :: .int x :: st) h = fk_ev d qL_law 425 L (.int (x + y) :: st) h) ∧
  (∀ (d : Nat) (L st : List Value) (N : Nat) (y : Nat → Nat → Int32) (l : Nat → Nat → Int64) (i : Nat), i < N → N < 2 ^ 31 → fk_ev d qL_law 425 L (.int (nI i) :: .ref 0 :: st) (fk_E N y l) = fk_ev d qL_law 426 L (.int (y 0 i) :: st) (fk_E N y l)) ∧
  (∀ (d : Nat) (a1 a2 a3 : Value) (x : Nat) (st : List Value) (h : fk_H), fk_ev d qL_law 426 [.ref x, a1, a2, a3] st h = fk_ev d qL_law 427 [.ref x, a1, a2, a3] (.ref x :: st) h) ∧
  (∀ (d : Nat) (a0 a1 a2 : Value) (x : Int32) (st : List Value) (h : fk_H), fk_ev d qL_law 427 [a0, a1, a2, .int x] st h = fk_ev d qL_law 428 [a0, a1, a2, .int x] (.int x :: st) h) ∧
  (∀ (d : Nat) (L st : List Value) (h : fk_H), fk_ev d qL_law 428 L st h = fk_ev d qL_law 429 L (.int (nI 5) :: st) h) ∧
  (∀ (d : Nat) (L : List Value) (x y : Int32) (st : List Value) (h : fk_H), fk_ev d qL_law 429 L (.int y :: .int x :: st) h = fk_ev d qL_law 430 L (.int (x + y) :: st) h) ∧
  (∀ (d : Nat) (L st : List Value) (N : Nat) (y : Nat → Nat → Int32) (l : Nat → Nat → Int64) (i : Nat), i < N → N < 2 ^ 31 → fk_ev d qL_law 430 L (.int (nI i) :: .ref 0 :: st) (fk_E N y l) = fk_ev d qL_law 431 L (.int (y 0 i) :: st) (fk_E N y l)) ∧
  (∀ (d : Nat) (L : List Value) (x0 : Int32) (x1 : Int32) (x2 : Int32) (x3 : Int32) (x4 : Int32)  (N : Nat) (y : Nat → Nat → Int32) (l : Nat → Nat → Int64), fk_ev (d + 1) qL_law 431 L (.int x4 :: .int x3 :: .int x2 :: .int x1 :: .int x0 :: .ref 1 :: []) (fk_E N y l) = (fk_ev d qX11_feed 0 [.ref 1, .int x0, .int x1, .int x2, .int x3, .int x4] [] (fk_E N y l)).bind fun o => fk_ev (d + 1) qL_law 434 L (o.1.toList ++ []) o.2) ∧
  (∀ (d : Nat) (a0 a1 a3 : Value) (x : Nat) (st : List Value) (h : fk_H), fk_ev d qL_law 434 [a0, a1, .ref x, a3] st h = fk_ev d qL_law 435 [a0, a1, .ref x, a3] (.ref x :: st) h) ∧
  (∀ (d : Nat) (a1 a2 a3 : Value) (x : Nat) (st : List Value) (h : fk_H), fk_ev d qL_law 435 [.ref x, a1, a2, a3] st h = fk_ev d qL_law 436 [.ref x, a1, a2, a3] (.ref x :: st) h) ∧
  (∀ (d : Nat) (a0 a1 a2 : Value) (x : Int32) (st : List Value) (h : fk_H), fk_ev d qL_law 436 [a0, a1, a2, .int x] st h = fk_ev d qL_law 437 [a0, a1, a2, .int x] (.int x :: st) h) ∧
  (∀ (d : Nat) (L st : List Value) (h : fk_H), fk_ev d qL_law 437 L st h = fk_ev d qL_law 438 L (.int (nI 1) :: st) h) ∧
  (∀ (d : Nat) (L : List Value) (x y : Int32) (st : List Value) (h : fk_H), fk_ev d qL_law 438 L (.int y :: .int x :: st) h = fk_ev d qL_law 439 L (.int (x + y) :: st) h) ∧
  (∀ (d : Nat) (L st : List Value) (N : Nat) (y : Nat → Nat → Int32) (l : Nat → Nat → Int64) (i : Nat), i < N → N < 2 ^ 31 → fk_ev d qL_law 439 L (.int (nI i) :: .ref 0 :: st) (fk_E N y l) = fk_ev d qL_law 440 L (.int (y 0 i) :: st) (fk_E N y l)) ∧
  (∀ (d : Nat) (a1 a2 a3 : Value) (x : Nat) (st : List Value) (h : fk_H), fk_ev d qL_law 440 [.ref x, a1, a2, a3] st h = fk_ev d qL_law 441 [.ref x, a1, a2, a3] (.ref x :: st) h) ∧
  (∀ (d : Nat) (a0 a1 a2 : Value) (x : Int32) (st : List Value) (h : fk_H), fk_ev d qL_law 441 [a0, a1, a2, .int x] st h = fk_ev d qL_law 442 [a0, a1, a2, .int x] (.int x :: st) h) ∧
  (∀ (d : Nat) (L st : List Value) (h : fk_H), fk_ev d qL_law 442 L st h = fk_ev d qL_law 443 L (.int (nI 2) :: st) h) ∧
  (∀ (d : Nat) (L : List Value) (x y : Int32) (st : List Value) (h : fk_H), fk_ev d qL_law 443 L (.int y :: .int x :: st) h = fk_ev d qL_law 444 L (.int (x + y) :: st) h) ∧
  (∀ (d : Nat) (L st : List Value) (N : Nat) (y : Nat → Nat → Int32) (l : Nat → Nat → Int64) (i : Nat), i < N → N < 2 ^ 31 → fk_ev d qL_law 444 L (.int (nI i) :: .ref 0 :: st) (fk_E N y l) = fk_ev d qL_law 445 L (.int (y 0 i) :: st) (fk_E N y l)) ∧
  (∀ (d : Nat) (a1 a2 a3 : Value) (x : Nat) (st : List Value) (h : fk_H), fk_ev d qL_law 445 [.ref x, a1, a2, a3] st h = fk_ev d qL_law 446 [.ref x, a1, a2, a3] (.ref x :: st) h) ∧
  (∀ (d : Nat) (a0 a1 a2 : Value) (x : Int32) (st : List Value) (h : fk_H), fk_ev d qL_law 446 [a0, a1, a2, .int x] st h = fk_ev d qL_law 447 [a0, a1, a2, .int x] (.int x :: st) h) ∧
  (∀ (d : Nat) (L st : List Value) (h : fk_H), fk_ev d qL_law 447 L st h = fk_ev d qL_law 448 L (.int (nI 3) :: st) h) ∧
  (∀ (d : Nat) (L : List Value) (x y : Int32) (st : List Value) (h : fk_H), fk_ev d qL_law 448 L (.int y :: .int x :: st) h = fk_ev d qL_law 449 L (.int (x + y) :: st) h) ∧
  (∀ (d : Nat) (L st : List Value) (N : Nat) (y : Nat → Nat → Int32) (l : Nat → Nat → Int64) (i : Nat), i < N → N < 2 ^ 31 → fk_ev d qL_law 449 L (.int (nI i) :: .ref 0 :: st) (fk_E N y l) = fk_ev d qL_law 450 L (.int (y 0 i) :: st) (fk_E N y l)) ∧
  (∀ (d : Nat) (a1 a2 a3 : Value) (x : Nat) (st : List Value) (h : fk_H), fk_ev d qL_law 450 [.ref x, a1, a2, a3] st h = fk_ev d qL_law 451 [.ref x, a1, a2, a3] (.ref x :: st) h) ∧
  (∀ (d : Nat) (a0 a1 a2 : Value) (x : Int32) (st : List Value) (h : fk_H), fk_ev d qL_law 451 [a0, a1, a2, .int x] st h = fk_ev d qL_law 452 [a0, a1, a2, .int x] (.int x :: st) h) ∧
  (∀ (d : Nat) (L st : List Value) (h : fk_H), fk_ev d qL_law 452 L st h = fk_ev d qL_law 453 L (.int (nI 4) :: st) h) ∧
  (∀ (d : Nat) (L : List Value) (x y : Int32) (st : List Value) (h : fk_H), fk_ev d qL_law 453 L (.int y :: .int x :: st) h = fk_ev d qL_law 454 L (.int (x + y) :: st) h) ∧
  (∀ (d : Nat) (L st : List Value) (N : Nat) (y : Nat → Nat → Int32) (l : Nat → Nat → Int64) (i : Nat), i < N → N < 2 ^ 31 → fk_ev d qL_law 454 L (.int (nI i) :: .ref 0 :: st) (fk_E N y l) = fk_ev d qL_law 455 L (.int (y 0 i) :: st) (fk_E N y l)) ∧
  (∀ (d : Nat) (a1 a2 a3 : Value) (x : Nat) (st : List Value) (h : fk_H), fk_ev d qL_law 455 [.ref x, a1, a2, a3] st h = fk_ev d qL_law 456 [.ref x, a1, a2, a3] (.ref x :: st) h) ∧
  (∀ (d : Nat) (a0 a1 a2 : Value) (x : Int32) (st : List Value) (h : fk_H), fk_ev d qL_law 456 [a0, a1, a2, .int x] st h = fk_ev d qL_law 457 [a0, a1, a2, .int x] (.int x :: st) h) ∧
  (∀ (d : Nat) (L st : List Value) (h : fk_H), fk_ev d qL_law 457 L st h = fk_ev d qL_law 458 L (.int (nI 5) :: st) h) ∧
  (∀ (d : Nat) (L : List Value) (x y : Int32) (st : List Value) (h : fk_H), fk_ev d qL_law 458 L (.int y :: .int x :: st) h = fk_ev d qL_law 459 L (.int (x + y) :: st) h) ∧
  (∀ (d : Nat) (L st : List Value) (N : Nat) (y : Nat → Nat → Int32) (l : Nat → Nat → Int64) (i : Nat), i < N → N < 2 ^ 31 → fk_ev d qL_law 459 L (.int (nI i) :: .ref 0 :: st) (fk_E N y l) = fk_ev d qL_law 460 L (.int (y 0 i) :: st) (fk_E N y l)) ∧
  (∀ (d : Nat) (L : List Value) (x0 : Int32) (x1 : Int32) (x2 : Int32) (x3 : Int32) (x4 : Int32) (w0 : Value) (N : Nat) (y : Nat → Nat → Int32) (l : Nat → Nat → Int64), fk_ev (d + 1) qL_law 460 L (.int x4 :: .int x3 :: .int x2 :: .int x1 :: .int x0 :: .ref 246 :: [w0]) (fk_E N y l) = (fk_ev d qX12_feed 0 [.ref 246, .int x0, .int x1, .int x2, .int x3, .int x4] [] (fk_E N y l)).bind fun o => fk_ev (d + 1) qL_law 463 L (o.1.toList ++ [w0]) o.2) ∧
  (∀ (d : Nat) (L : List Value) (x y : Int32) (st : List Value) (h : fk_H), fk_ev d qL_law 463 L (.int y :: .int x :: st) h = if x = y then fk_ev d qL_law 1211 L st h else fk_ev d qL_law 466 L st h) ∧
  (∀ (d : Nat) (L st : List Value) (h : fk_H), fk_ev d qL_law 466 L st h = fk_ev d qL_law 467 L (.int (nI 0) :: st) h) ∧
  (∀ (d : Nat) (L : List Value) (h : fk_H), fk_ev d qL_law 467 L [.int (nI 0)] h = some (some (.int (nI 0)), h)) ∧
  (∀ (d : Nat) (L : List Value) (h : fk_H), fk_ev d qL_law 467 L [.int (nI 1)] h = some (some (.int (nI 1)), h)) ∧
  (∀ (d : Nat) (L : List Value) (p : Prop) [Decidable p] (h : fk_H), fk_ev d qL_law 467 L [.int (fk_b p)] h = some (some (.int (fk_b p)), h)) ∧
  (∀ (d : Nat) (L : List Value) (x : Int32) (h : fk_H), (x = nI 0 ∨ x = nI 1) → fk_ev d qL_law 467 L [.int x] h = some (some (.int x), h)) ∧
  (∀ (d : Nat) (a0 a2 a3 : Value) (x : Nat) (st : List Value) (h : fk_H), fk_ev d qL_law 468 [a0, .ref x, a2, a3] st h = fk_ev d qL_law 469 [a0, .ref x, a2, a3] (.ref x :: st) h) ∧
  (∀ (d : Nat) (a1 a2 a3 : Value) (x : Nat) (st : List Value) (h : fk_H), fk_ev d qL_law 469 [.ref x, a1, a2, a3] st h = fk_ev d qL_law 470 [.ref x, a1, a2, a3] (.ref x :: st) h) ∧
  (∀ (d : Nat) (a0 a1 a2 : Value) (x : Int32) (st : List Value) (h : fk_H), fk_ev d qL_law 470 [a0, a1, a2, .int x] st h = fk_ev d qL_law 471 [a0, a1, a2, .int x] (.int x :: st) h) ∧
  (∀ (d : Nat) (L st : List Value) (h : fk_H), fk_ev d qL_law 471 L st h = fk_ev d qL_law 472 L (.int (nI 1) :: st) h) ∧
  (∀ (d : Nat) (L : List Value) (x y : Int32) (st : List Value) (h : fk_H), fk_ev d qL_law 472 L (.int y :: .int x :: st) h = fk_ev d qL_law 473 L (.int (x + y) :: st) h) ∧
  (∀ (d : Nat) (L st : List Value) (N : Nat) (y : Nat → Nat → Int32) (l : Nat → Nat → Int64) (i : Nat), i < N → N < 2 ^ 31 → fk_ev d qL_law 473 L (.int (nI i) :: .ref 0 :: st) (fk_E N y l) = fk_ev d qL_law 474 L (.int (y 0 i) :: st) (fk_E N y l)) ∧
  (∀ (d : Nat) (L : List Value) (x0 : Int32)  (N : Nat) (y : Nat → Nat → Int32) (l : Nat → Nat → Int64), fk_ev (d + 1) qL_law 474 L (.int x0 :: .ref 1 :: []) (fk_E N y l) = (fk_ev d qX11_law 0 [.ref 1, .int x0, .null, .null] [] (fk_E N y l)).bind fun o => fk_ev (d + 1) qL_law 477 L (o.1.toList ++ []) o.2) ∧
  (∀ (d : Nat) (a0 a1 a3 : Value) (x : Nat) (st : List Value) (h : fk_H), fk_ev d qL_law 477 [a0, a1, .ref x, a3] st h = fk_ev d qL_law 478 [a0, a1, .ref x, a3] (.ref x :: st) h) ∧
  (∀ (d : Nat) (a1 a2 a3 : Value) (x : Nat) (st : List Value) (h : fk_H), fk_ev d qL_law 478 [.ref x, a1, a2, a3] st h = fk_ev d qL_law 479 [.ref x, a1, a2, a3] (.ref x :: st) h) ∧
  (∀ (d : Nat) (a0 a1 a2 : Value) (x : Int32) (st : List Value) (h : fk_H), fk_ev d qL_law 479 [a0, a1, a2, .int x] st h = fk_ev d qL_law 480 [a0, a1, a2, .int x] (.int x :: st) h) ∧
  (∀ (d : Nat) (L st : List Value) (h : fk_H), fk_ev d qL_law 480 L st h = fk_ev d qL_law 481 L (.int (nI 1) :: st) h) ∧
  (∀ (d : Nat) (L : List Value) (x y : Int32) (st : List Value) (h : fk_H), fk_ev d qL_law 481 L (.int y :: .int x :: st) h = fk_ev d qL_law 482 L (.int (x + y) :: st) h) ∧
  (∀ (d : Nat) (L st : List Value) (N : Nat) (y : Nat → Nat → Int32) (l : Nat → Nat → Int64) (i : Nat), i < N → N < 2 ^ 31 → fk_ev d qL_law 482 L (.int (nI i) :: .ref 0 :: st) (fk_E N y l) = fk_ev d qL_law 483 L (.int (y 0 i) :: st) (fk_E N y l)) ∧
  (∀ (d : Nat) (L : List Value) (x0 : Int32) (w0 : Value) (N : Nat) (y : Nat → Nat → Int32) (l : Nat → Nat → Int64), fk_ev (d + 1) qL_law 483 L (.int x0 :: .ref 246 :: [w0]) (fk_E N y l) = (fk_ev d qX12_law 0 [.ref 246, .int x0, .null, .null] [] (fk_E N y l)).bind fun o => fk_ev (d + 1) qL_law 486 L (o.1.toList ++ [w0]) o.2) ∧
  (∀ (d : Nat) (L : List Value) (x y : Int32) (st : List Value) (h : fk_H), fk_ev d qL_law 486 L (.int y :: .int x :: st) h = if x = y then fk_ev d qL_law 1211 L st h else fk_ev d qL_law 489 L st h) ∧
  (∀ (d : Nat) (L st : List Value) (h : fk_H), fk_ev d qL_law 489 L st h = fk_ev d qL_law 490 L (.int (nI 0) :: st) h) ∧
  (∀ (d : Nat) (L : List Value) (h : fk_H), fk_ev d qL_law 490 L [.int (nI 0)] h = some (some (.int (nI 0)), h)) ∧
  (∀ (d : Nat) (L : List Value) (h : fk_H), fk_ev d qL_law 490 L [.int (nI 1)] h = some (some (.int (nI 1)), h)) ∧
  (∀ (d : Nat) (L : List Value) (p : Prop) [Decidable p] (h : fk_H), fk_ev d qL_law 490 L [.int (fk_b p)] h = some (some (.int (fk_b p)), h)) ∧
  (∀ (d : Nat) (L : List Value) (x : Int32) (h : fk_H), (x = nI 0 ∨ x = nI 1) → fk_ev d qL_law 490 L [.int x] h = some (some (.int x), h)) ∧
  (∀ (d : Nat) (a0 a2 a3 : Value) (x : Nat) (st : List Value) (h : fk_H), fk_ev d qL_law 491 [a0, .ref x, a2, a3] st h = fk_ev d qL_law 492 [a0, .ref x, a2, a3] (.ref x :: st) h) ∧
  (∀ (d : Nat) (a1 a2 a3 : Value) (x : Nat) (st : List Value) (h : fk_H), fk_ev d qL_law 492 [.ref x, a1, a2, a3] st h = fk_ev d qL_law 493 [.ref x, a1, a2, a3] (.ref x :: st) h) ∧
  (∀ (d : Nat) (a0 a1 a2 : Value) (x : Int32) (st : List Value) (h : fk_H), fk_ev d qL_law 493 [a0, a1, a2, .int x] st h = fk_ev d qL_law 494 [a0, a1, a2, .int x] (.int x :: st) h) ∧
  (∀ (d : Nat) (L st : List Value) (h : fk_H), fk_ev d qL_law 494 L st h = fk_ev d qL_law 495 L (.int (nI 1) :: st) h) ∧
  (∀ (d : Nat) (L : List Value) (x y : Int32) (st : List Value) (h : fk_H), fk_ev d qL_law 495 L (.int y :: .int x :: st) h = fk_ev d qL_law 496 L (.int (x + y) :: st) h) ∧
  (∀ (d : Nat) (L st : List Value) (N : Nat) (y : Nat → Nat → Int32) (l : Nat → Nat → Int64) (i : Nat), i < N → N < 2 ^ 31 → fk_ev d qL_law 496 L (.int (nI i) :: .ref 0 :: st) (fk_E N y l) = fk_ev d qL_law 497 L (.int (y 0 i) :: st) (fk_E N y l)) ∧
  (∀ (d : Nat) (L : List Value) (x0 : Int32)  (N : Nat) (y : Nat → Nat → Int32) (l : Nat → Nat → Int64), fk_ev (d + 1) qL_law 497 L (.int x0 :: .ref 1 :: []) (fk_E N y l) = (fk_ev d qX11_hours 0 [.ref 1, .int x0, .null] [] (fk_E N y l)).bind fun o => fk_ev (d + 1) qL_law 500 L (o.1.toList ++ []) o.2) ∧
  (∀ (d : Nat) (a0 a1 a3 : Value) (x : Nat) (st : List Value) (h : fk_H), fk_ev d qL_law 500 [a0, a1, .ref x, a3] st h = fk_ev d qL_law 501 [a0, a1, .ref x, a3] (.ref x :: st) h) ∧
  (∀ (d : Nat) (a1 a2 a3 : Value) (x : Nat) (st : List Value) (h : fk_H), fk_ev d qL_law 501 [.ref x, a1, a2, a3] st h = fk_ev d qL_law 502 [.ref x, a1, a2, a3] (.ref x :: st) h) ∧
  (∀ (d : Nat) (a0 a1 a2 : Value) (x : Int32) (st : List Value) (h : fk_H), fk_ev d qL_law 502 [a0, a1, a2, .int x] st h = fk_ev d qL_law 503 [a0, a1, a2, .int x] (.int x :: st) h) ∧
  (∀ (d : Nat) (L st : List Value) (h : fk_H), fk_ev d qL_law 503 L st h = fk_ev d qL_law 504 L (.int (nI 1) :: st) h) ∧
  (∀ (d : Nat) (L : List Value) (x y : Int32) (st : List Value) (h : fk_H), fk_ev d qL_law 504 L (.int y :: .int x :: st) h = fk_ev d qL_law 505 L (.int (x + y) :: st) h) ∧
  (∀ (d : Nat) (L st : List Value) (N : Nat) (y : Nat → Nat → Int32) (l : Nat → Nat → Int64) (i : Nat), i < N → N < 2 ^ 31 → fk_ev d qL_law 505 L (.int (nI i) :: .ref 0 :: st) (fk_E N y l) = fk_ev d qL_law 506 L (.int (y 0 i) :: st) (fk_E N y l)) ∧
  (∀ (d : Nat) (L : List Value) (x0 : Int32) (w0 : Value) (N : Nat) (y : Nat → Nat → Int32) (l : Nat → Nat → Int64), fk_ev (d + 1) qL_law 506 L (.int x0 :: .ref 246 :: [w0]) (fk_E N y l) = (fk_ev d qX12_hours 0 [.ref 246, .int x0, .null] [] (fk_E N y l)).bind fun o => fk_ev (d + 1) qL_law 509 L (o.1.toList ++ [w0]) o.2) ∧
  (∀ (d : Nat) (L : List Value) (x y : Int32) (st : List Value) (h : fk_H), fk_ev d qL_law 509 L (.int y :: .int x :: st) h = if x = y then fk_ev d qL_law 1211 L st h else fk_ev d qL_law 512 L st h) ∧
  (∀ (d : Nat) (L st : List Value) (h : fk_H), fk_ev d qL_law 512 L st h = fk_ev d qL_law 513 L (.int (nI 0) :: st) h) ∧
  (∀ (d : Nat) (L : List Value) (h : fk_H), fk_ev d qL_law 513 L [.int (nI 0)] h = some (some (.int (nI 0)), h)) ∧
  (∀ (d : Nat) (L : List Value) (h : fk_H), fk_ev d qL_law 513 L [.int (nI 1)] h = some (some (.int (nI 1)), h)) ∧
  (∀ (d : Nat) (L : List Value) (p : Prop) [Decidable p] (h : fk_H), fk_ev d qL_law 513 L [.int (fk_b p)] h = some (some (.int (fk_b p)), h)) ∧
  (∀ (d : Nat) (L : List Value) (x : Int32) (h : fk_H), (x = nI 0 ∨ x = nI 1) → fk_ev d qL_law 513 L [.int x] h = some (some (.int x), h)) ∧
  (∀ (d : Nat) (a0 a2 a3 : Value) (x : Nat) (st : List Value) (h : fk_H), fk_ev d qL_law 514 [a0, .ref x, a2, a3] st h = fk_ev d qL_law 515 [a0, .ref x, a2, a3] (.ref x :: st) h) ∧
  (∀ (d : Nat) (a1 a2 a3 : Value) (x : Nat) (st : List Value) (h : fk_H), fk_ev d qL_law 515 [.ref x, a1, a2, a3] st h = fk_ev d qL_law 516 [.ref x, a1, a2, a3] (.ref x :: st) h) ∧
  (∀ (d : Nat) (a0 a1 a2 : Value) (x : Int32) (st : List Value) (h : fk_H), fk_ev d qL_law 516 [a0, a1, a2, .int x] st h = fk_ev d qL_law 517 [a0, a1, a2, .int x] (.int x :: st) h) ∧
  (∀ (d : Nat) (L st : List Value) (h : fk_H), fk_ev d qL_law 517 L st h = fk_ev d qL_law 518 L (.int (nI 1) :: st) h) ∧
  (∀ (d : Nat) (L : List Value) (x y : Int32) (st : List Value) (h : fk_H), fk_ev d qL_law 518 L (.int y :: .int x :: st) h = fk_ev d qL_law 519 L (.int (x + y) :: st) h) ∧
  (∀ (d : Nat) (L st : List Value) (N : Nat) (y : Nat → Nat → Int32) (l : Nat → Nat → Int64) (i : Nat), i < N → N < 2 ^ 31 → fk_ev d qL_law 519 L (.int (nI i) :: .ref 0 :: st) (fk_E N y l) = fk_ev d qL_law 520 L (.int (y 0 i) :: st) (fk_E N y l)) ∧
  (∀ (d : Nat) (a1 a2 a3 : Value) (x : Nat) (st : List Value) (h : fk_H), fk_ev d qL_law 520 [.ref x, a1, a2, a3] st h = fk_ev d qL_law 521 [.ref x, a1, a2, a3] (.ref x :: st) h) ∧
  (∀ (d : Nat) (a0 a1 a2 : Value) (x : Int32) (st : List Value) (h : fk_H), fk_ev d qL_law 521 [a0, a1, a2, .int x] st h = fk_ev d qL_law 522 [a0, a1, a2, .int x] (.int x :: st) h) ∧
  (∀ (d : Nat) (L st : List Value) (h : fk_H), fk_ev d qL_law 522 L st h = fk_ev d qL_law 523 L (.int (nI 2) :: st) h) ∧
  (∀ (d : Nat) (L : List Value) (x y : Int32) (st : List Value) (h : fk_H), fk_ev d qL_law 523 L (.int y :: .int x :: st) h = fk_ev d qL_law 524 L (.int (x + y) :: st) h) ∧
  (∀ (d : Nat) (L st : List Value) (N : Nat) (y : Nat → Nat → Int32) (l : Nat → Nat → Int64) (i : Nat), i < N → N < 2 ^ 31 → fk_ev d qL_law 524 L (.int (nI i) :: .ref 0 :: st) (fk_E N y l) = fk_ev d qL_law 525 L (.int (y 0 i) :: st) (fk_E N y l)) ∧
  (∀ (d : Nat) (L : List Value) (x0 : Int32) (x1 : Int32)  (N : Nat) (y : Nat → Nat → Int32) (l : Nat → Nat → Int64), fk_ev (d + 1) qL_law 525 L (.int x1 :: .int x0 :: .ref 1 :: []) (fk_E N y l) = (fk_ev d qX11_tried 0 [.ref 1, .int x0, .int x1, .null] [] (fk_E N y l)).bind fun o => fk_ev (d + 1) qL_law 528 L (o.1.toList ++ []) o.2) ∧
  (∀ (d : Nat) (a0 a1 a3 : Value) (x : Nat) (st : List Value) (h : fk_H), fk_ev d qL_law 528 [a0, a1, .ref x, a3] st h = fk_ev d qL_law 529 [a0, a1, .ref x, a3] (.ref x :: st) h) ∧
  (∀ (d : Nat) (a1 a2 a3 : Value) (x : Nat) (st : List Value) (h : fk_H), fk_ev d qL_law 529 [.ref x, a1, a2, a3] st h = fk_ev d qL_law 530 [.ref x, a1, a2, a3] (.ref x :: st) h) ∧
  (∀ (d : Nat) (a0 a1 a2 : Value) (x : Int32) (st : List Value) (h : fk_H), fk_ev d qL_law 530 [a0, a1, a2, .int x] st h = fk_ev d qL_law 531 [a0, a1, a2, .int x] (.int x :: st) h) ∧
  (∀ (d : Nat) (L st : List Value) (h : fk_H), fk_ev d qL_law 531 L st h = fk_ev d qL_law 532 L (.int (nI 1) :: st) h) ∧
  (∀ (d : Nat) (L : List Value) (x y : Int32) (st : List Value) (h : fk_H), fk_ev d qL_law 532 L (.int y :: .int x :: st) h = fk_ev d qL_law 533 L (.int (x + y) :: st) h) ∧
  (∀ (d : Nat) (L st : List Value) (N : Nat) (y : Nat → Nat → Int32) (l : Nat → Nat → Int64) (i : Nat), i < N → N < 2 ^ 31 → fk_ev d qL_law 533 L (.int (nI i) :: .ref 0 :: st) (fk_E N y l) = fk_ev d qL_law 534 L (.int (y 0 i) :: st) (fk_E N y l)) ∧
  (∀ (d : Nat) (a1 a2 a3 : Value) (x : Nat) (st : List Value) (h : fk_H), fk_ev d qL_law 534 [.ref x, a1, a2, a3] st h = fk_ev d qL_law 535 [.ref x, a1, a2, a3] (.ref x :: st) h) ∧
  (∀ (d : Nat) (a0 a1 a2 : Value) (x : Int32) (st : List Value) (h : fk_H), fk_ev d qL_law 535 [a0, a1, a2, .int x] st h = fk_ev d qL_law 536 [a0, a1, a2, .int x] (.int x :: st) h) ∧
  (∀ (d : Nat) (L st : List Value) (h : fk_H), fk_ev d qL_law 536 L st h = fk_ev d qL_law 537 L (.int (nI 2) :: st) h) ∧
  (∀ (d : Nat) (L : List Value) (x y : Int32) (st : List Value) (h : fk_H), fk_ev d qL_law 537 L (.int y :: .int x :: st) h = fk_ev d qL_law 538 L (.int (x + y) :: st) h) ∧
  (∀ (d : Nat) (L st : List Value) (N : Nat) (y : Nat → Nat → Int32) (l : Nat → Nat → Int64) (i : Nat), i < N → N < 2 ^ 31 → fk_ev d qL_law 538 L (.int (nI i) :: .ref 0 :: st) (fk_E N y l) = fk_ev d qL_law 539 L (.int (y 0 i) :: st) (fk_E N y l)) ∧
  (∀ (d : Nat) (L : List Value) (x0 : Int32) (x1 : Int32) (w0 : Value) (N : Nat) (y : Nat → Nat → Int32) (l : Nat → Nat → Int64), fk_ev (d + 1) qL_law 539 L (.int x1 :: .int x0 :: .ref 246 :: [w0]) (fk_E N y l) = (fk_ev d qX12_tried 0 [.ref 246, .int x0, .int x1, .null, .null] [] (fk_E N y l)).bind fun o => fk_ev (d + 1) qL_law 542 L (o.1.toList ++ [w0]) o.2) ∧
  (∀ (d : Nat) (L : List Value) (x y : Int32) (st : List Value) (h : fk_H), fk_ev d qL_law 542 L (.int y :: .int x :: st) h = if x = y then fk_ev d qL_law 1211 L st h else fk_ev d qL_law 545 L st h) ∧
  (∀ (d : Nat) (L st : List Value) (h : fk_H), fk_ev d qL_law 545 L st h = fk_ev d qL_law 546 L (.int (nI 0) :: st) h) ∧
  (∀ (d : Nat) (L : List Value) (h : fk_H), fk_ev d qL_law 546 L [.int (nI 0)] h = some (some (.int (nI 0)), h)) ∧
  (∀ (d : Nat) (L : List Value) (h : fk_H), fk_ev d qL_law 546 L [.int (nI 1)] h = some (some (.int (nI 1)), h)) ∧
  (∀ (d : Nat) (L : List Value) (p : Prop) [Decidable p] (h : fk_H), fk_ev d qL_law 546 L [.int (fk_b p)] h = some (some (.int (fk_b p)), h)) ∧
  (∀ (d : Nat) (L : List Value) (x : Int32) (h : fk_H), (x = nI 0 ∨ x = nI 1) → fk_ev d qL_law 546 L [.int x] h = some (some (.int x), h)) ∧
  (∀ (d : Nat) (a0 a2 a3 : Value) (x : Nat) (st : List Value) (h : fk_H), fk_ev d qL_law 547 [a0, .ref x, a2, a3] st h = fk_ev d qL_law 548 [a0, .ref x, a2, a3] (.ref x :: st) h) ∧
  (∀ (d : Nat) (a1 a2 a3 : Value) (x : Nat) (st : List Value) (h : fk_H), fk_ev d qL_law 548 [.ref x, a1, a2, a3] st h = fk_ev d qL_law 549 [.ref x, a1, a2, a3] (.ref x :: st) h) ∧
  (∀ (d : Nat) (a0 a1 a2 : Value) (x : Int32) (st : List Value) (h : fk_H), fk_ev d qL_law 549 [a0, a1, a2, .int x] st h = fk_ev d qL_law 550 [a0, a1, a2, .int x] (.int x :: st) h) ∧
  (∀ (d : Nat) (L st : List Value) (h : fk_H), fk_ev d qL_law 550 L st h = fk_ev d qL_law 551 L (.int (nI 1) :: st) h) ∧
  (∀ (d : Nat) (L : List Value) (x y : Int32) (st : List Value) (h : fk_H), fk_ev d qL_law 551 L (.int y :: .int x :: st) h = fk_ev d qL_law 552 L (.int (x + y) :: st) h) ∧
  (∀ (d : Nat) (L st : List Value) (N : Nat) (y : Nat → Nat → Int32) (l : Nat → Nat → Int64) (i : Nat), i < N → N < 2 ^ 31 → fk_ev d qL_law 552 L (.int (nI i) :: .ref 0 :: st) (fk_E N y l) = fk_ev d qL_law 553 L (.int (y 0 i) :: st) (fk_E N y l)) ∧
  (∀ (d : Nat) (a1 a2 a3 : Value) (x : Nat) (st : List Value) (h : fk_H), fk_ev d qL_law 553 [.ref x, a1, a2, a3] st h = fk_ev d qL_law 554 [.ref x, a1, a2, a3] (.ref x :: st) h) ∧
  (∀ (d : Nat) (a0 a1 a2 : Value) (x : Int32) (st : List Value) (h : fk_H), fk_ev d qL_law 554 [a0, a1, a2, .int x] st h = fk_ev d qL_law 555 [a0, a1, a2, .int x] (.int x :: st) h) ∧
  (∀ (d : Nat) (L st : List Value) (h : fk_H), fk_ev d qL_law 555 L st h = fk_ev d qL_law 556 L (.int (nI 2) :: st) h) ∧
  (∀ (d : Nat) (L : List Value) (x y : Int32) (st : List Value) (h : fk_H), fk_ev d qL_law 556 L (.int y :: .int x :: st) h = fk_ev d qL_law 557 L (.int (x + y) :: st) h) ∧
  (∀ (d : Nat) (L st : List Value) (N : Nat) (y : Nat → Nat → Int32) (l : Nat → Nat → Int64) (i : Nat), i < N → N < 2 ^ 31 → fk_ev d qL_law 557 L (.int (nI i) :: .ref 0 :: st) (fk_E N y l) = fk_ev d qL_law 558 L (.int (y 0 i) :: st) (fk_E N y l)) ∧
  (∀ (d : Nat) (L : List Value) (x0 : Int32) (x1 : Int32)  (N : Nat) (y : Nat → Nat → Int32) (l : Nat → Nat → Int64), fk_ev (d + 1) qL_law 558 L (.int x1 :: .int x0 :: .ref 1 :: []) (fk_E N y l) = (fk_ev d qX11_half 0 [.ref 1, .int x0, .int x1, .null] [] (fk_E N y l)).bind fun o => fk_ev (d + 1) qL_law 561 L (o.1.toList ++ []) o.2) ∧
  (∀ (d : Nat) (a0 a1 a3 : Value) (x : Nat) (st : List Value) (h : fk_H), fk_ev d qL_law 561 [a0, a1, .ref x, a3] st h = fk_ev d qL_law 562 [a0, a1, .ref x, a3] (.ref x :: st) h) ∧
  (∀ (d : Nat) (a1 a2 a3 : Value) (x : Nat) (st : List Value) (h : fk_H), fk_ev d qL_law 562 [.ref x, a1, a2, a3] st h = fk_ev d qL_law 563 [.ref x, a1, a2, a3] (.ref x :: st) h) ∧
  (∀ (d : Nat) (a0 a1 a2 : Value) (x : Int32) (st : List Value) (h : fk_H), fk_ev d qL_law 563 [a0, a1, a2, .int x] st h = fk_ev d qL_law 564 [a0, a1, a2, .int x] (.int x :: st) h) ∧
  (∀ (d : Nat) (L st : List Value) (h : fk_H), fk_ev d qL_law 564 L st h = fk_ev d qL_law 565 L (.int (nI 1) :: st) h) ∧
  (∀ (d : Nat) (L : List Value) (x y : Int32) (st : List Value) (h : fk_H), fk_ev d qL_law 565 L (.int y :: .int x :: st) h = fk_ev d qL_law 566 L (.int (x + y) :: st) h) := ⟨fun d L x y st h => fk_r_iadd dL_law_344,
  fun d L st N y l i hi hN => fk_h_sld dL_law_345 hi hN,
  fun d a1 a2 a3 x st h => fk_w_aloadn 0 [.ref x, a1, a2, a3] dL_law_346 rfl,
  fun d a0 a1 a2 x st h => fk_w_iloadn 3 [a0, a1, a2, .int x] dL_law_347 rfl,
  fun d L st h => fk_w_iconst dL_law_348 (by decide),
  fun d L x y st h => fk_r_iadd dL_law_349,
  fun d L st N y l i hi hN => fk_h_sld dL_law_350 hi hN,
  fun d a1 a2 a3 x st h => fk_w_aloadn 0 [.ref x, a1, a2, a3] dL_law_351 rfl,
  fun d a0 a1 a2 x st h => fk_w_iloadn 3 [a0, a1, a2, .int x] dL_law_352 rfl,
  fun d L st h => fk_w_iconst dL_law_353 (by decide),
  fun d L x y st h => fk_r_iadd dL_law_354,
  fun d L st N y l i hi hN => fk_h_sld dL_law_355 hi hN,
  fun d L x st h => fk_r_if_eq dL_law_356 (by decide),
  fun d L st h => fk_w_iconst dL_law_359 (by decide),
  fun d L st h => fk_r_goto dL_law_360 (by decide),
  fun d L st h => fk_w_iconst dL_law_363 (by decide),
  fun d L x0 x1 x2 w0 N y l  => fk_g_call [.int x0, .int x1, .int x2] [w0] rfl lm_13_31 dL_law_364 rfl ⟨rfl, by decide⟩ (by simp) fk_at_246,
  fun d L x y st h => fk_r_icmp_eq dL_law_367 (by decide),
  fun d L st h => fk_w_iconst dL_law_370 (by decide),
  fun d L h => fk_r_ret dL_law_371 (Or.inr (Or.inl ⟨rfl, by decide⟩)),
  fun d L h => fk_r_ret dL_law_371 (Or.inr (Or.inl ⟨rfl, by decide⟩)),
  fun d L p _ h => fk_r_ret dL_law_371 (Or.inr (Or.inl ⟨rfl, fk_b_01⟩)),
  fun d L x h hx => fk_r_ret dL_law_371 (Or.inr (Or.inl ⟨rfl, hx⟩)),
  fun d a0 a2 a3 x st h => fk_w_aloadn 1 [a0, .ref x, a2, a3] dL_law_372 rfl,
  fun d a1 a2 a3 x st h => fk_w_aloadn 0 [.ref x, a1, a2, a3] dL_law_373 rfl,
  fun d a0 a1 a2 x st h => fk_w_iloadn 3 [a0, a1, a2, .int x] dL_law_374 rfl,
  fun d L st h => fk_w_iconst dL_law_375 (by decide),
  fun d L x y st h => fk_r_iadd dL_law_376,
  fun d L st N y l i hi hN => fk_h_sld dL_law_377 hi hN,
  fun d a1 a2 a3 x st h => fk_w_aloadn 0 [.ref x, a1, a2, a3] dL_law_378 rfl,
  fun d a0 a1 a2 x st h => fk_w_iloadn 3 [a0, a1, a2, .int x] dL_law_379 rfl,
  fun d L st h => fk_w_iconst dL_law_380 (by decide),
  fun d L x y st h => fk_r_iadd dL_law_381,
  fun d L st N y l i hi hN => fk_h_sld dL_law_382 hi hN,
  fun d L x0 x1 N y l  => fk_g_call [.int x0, .int x1] [] rfl lm_13_32 dL_law_383 rfl ⟨rfl, by decide⟩ (by simp) fk_at_1,
  fun d a0 a1 a3 x st h => fk_w_aloadn 2 [a0, a1, .ref x, a3] dL_law_386 rfl,
  fun d a1 a2 a3 x st h => fk_w_aloadn 0 [.ref x, a1, a2, a3] dL_law_387 rfl,
  fun d a0 a1 a2 x st h => fk_w_iloadn 3 [a0, a1, a2, .int x] dL_law_388 rfl,
  fun d L st h => fk_w_iconst dL_law_389 (by decide),
  fun d L x y st h => fk_r_iadd dL_law_390,
  fun d L st N y l i hi hN => fk_h_sld dL_law_391 hi hN,
  fun d a1 a2 a3 x st h => fk_w_aloadn 0 [.ref x, a1, a2, a3] dL_law_392 rfl,
  fun d a0 a1 a2 x st h => fk_w_iloadn 3 [a0, a1, a2, .int x] dL_law_393 rfl,
  fun d L st h => fk_w_iconst dL_law_394 (by decide),
  fun d L x y st h => fk_r_iadd dL_law_395,
  fun d L st N y l i hi hN => fk_h_sld dL_law_396 hi hN,
  fun d L x0 x1 w0 N y l  => fk_g_call [.int x0, .int x1] [w0] rfl lm_13_36 dL_law_397 rfl ⟨rfl, by decide⟩ (by simp) fk_at_246,
  fun d L x y st h => fk_r_icmp_eq dL_law_400 (by decide),
  fun d L st h => fk_w_iconst dL_law_403 (by decide),
  fun d L h => fk_r_ret dL_law_404 (Or.inr (Or.inl ⟨rfl, by decide⟩)),
  fun d L h => fk_r_ret dL_law_404 (Or.inr (Or.inl ⟨rfl, by decide⟩)),
  fun d L p _ h => fk_r_ret dL_law_404 (Or.inr (Or.inl ⟨rfl, fk_b_01⟩)),
  fun d L x h hx => fk_r_ret dL_law_404 (Or.inr (Or.inl ⟨rfl, hx⟩)),
  fun d a0 a2 a3 x st h => fk_w_aloadn 1 [a0, .ref x, a2, a3] dL_law_405 rfl,
  fun d a1 a2 a3 x st h => fk_w_aloadn 0 [.ref x, a1, a2, a3] dL_law_406 rfl,
  fun d a0 a1 a2 x st h => fk_w_iloadn 3 [a0, a1, a2, .int x] dL_law_407 rfl,
  fun d L st h => fk_w_iconst dL_law_408 (by decide),
  fun d L x y st h => fk_r_iadd dL_law_409,
  fun d L st N y l i hi hN => fk_h_sld dL_law_410 hi hN,
  fun d a1 a2 a3 x st h => fk_w_aloadn 0 [.ref x, a1, a2, a3] dL_law_411 rfl,
  fun d a0 a1 a2 x st h => fk_w_iloadn 3 [a0, a1, a2, .int x] dL_law_412 rfl,
  fun d L st h => fk_w_iconst dL_law_413 (by decide),
  fun d L x y st h => fk_r_iadd dL_law_414,
  fun d L st N y l i hi hN => fk_h_sld dL_law_415 hi hN,
  fun d a1 a2 a3 x st h => fk_w_aloadn 0 [.ref x, a1, a2, a3] dL_law_416 rfl,
  fun d a0 a1 a2 x st h => fk_w_iloadn 3 [a0, a1, a2, .int x] dL_law_417 rfl,
  fun d L st h => fk_w_iconst dL_law_418 (by decide),
  fun d L x y st h => fk_r_iadd dL_law_419,
  fun d L st N y l i hi hN => fk_h_sld dL_law_420 hi hN,
  fun d a1 a2 a3 x st h => fk_w_aloadn 0 [.ref x, a1, a2, a3] dL_law_421 rfl,
  fun d a0 a1 a2 x st h => fk_w_iloadn 3 [a0, a1, a2, .int x] dL_law_422 rfl,
  fun d L st h => fk_w_iconst dL_law_423 (by decide),
  fun d L x y st h => fk_r_iadd dL_law_424,
  fun d L st N y l i hi hN => fk_h_sld dL_law_425 hi hN,
  fun d a1 a2 a3 x st h => fk_w_aloadn 0 [.ref x, a1, a2, a3] dL_law_426 rfl,
  fun d a0 a1 a2 x st h => fk_w_iloadn 3 [a0, a1, a2, .int x] dL_law_427 rfl,
  fun d L st h => fk_w_iconst dL_law_428 (by decide),
  fun d L x y st h => fk_r_iadd dL_law_429,
  fun d L st N y l i hi hN => fk_h_sld dL_law_430 hi hN,
  fun d L x0 x1 x2 x3 x4 N y l  => fk_g_call [.int x0, .int x1, .int x2, .int x3, .int x4] [] rfl lm_13_37 dL_law_431 rfl ⟨rfl, by decide⟩ (by simp) fk_at_1,
  fun d a0 a1 a3 x st h => fk_w_aloadn 2 [a0, a1, .ref x, a3] dL_law_434 rfl,
  fun d a1 a2 a3 x st h => fk_w_aloadn 0 [.ref x, a1, a2, a3] dL_law_435 rfl,
  fun d a0 a1 a2 x st h => fk_w_iloadn 3 [a0, a1, a2, .int x] dL_law_436 rfl,
  fun d L st h => fk_w_iconst dL_law_437 (by decide),
  fun d L x y st h => fk_r_iadd dL_law_438,
  fun d L st N y l i hi hN => fk_h_sld dL_law_439 hi hN,
  fun d a1 a2 a3 x st h => fk_w_aloadn 0 [.ref x, a1, a2, a3] dL_law_440 rfl,
  fun d a0 a1 a2 x st h => fk_w_iloadn 3 [a0, a1, a2, .int x] dL_law_441 rfl,
  fun d L st h => fk_w_iconst dL_law_442 (by decide),
  fun d L x y st h => fk_r_iadd dL_law_443,
  fun d L st N y l i hi hN => fk_h_sld dL_law_444 hi hN,
  fun d a1 a2 a3 x st h => fk_w_aloadn 0 [.ref x, a1, a2, a3] dL_law_445 rfl,
  fun d a0 a1 a2 x st h => fk_w_iloadn 3 [a0, a1, a2, .int x] dL_law_446 rfl,
  fun d L st h => fk_w_iconst dL_law_447 (by decide),
  fun d L x y st h => fk_r_iadd dL_law_448,
  fun d L st N y l i hi hN => fk_h_sld dL_law_449 hi hN,
  fun d a1 a2 a3 x st h => fk_w_aloadn 0 [.ref x, a1, a2, a3] dL_law_450 rfl,
  fun d a0 a1 a2 x st h => fk_w_iloadn 3 [a0, a1, a2, .int x] dL_law_451 rfl,
  fun d L st h => fk_w_iconst dL_law_452 (by decide),
  fun d L x y st h => fk_r_iadd dL_law_453,
  fun d L st N y l i hi hN => fk_h_sld dL_law_454 hi hN,
  fun d a1 a2 a3 x st h => fk_w_aloadn 0 [.ref x, a1, a2, a3] dL_law_455 rfl,
  fun d a0 a1 a2 x st h => fk_w_iloadn 3 [a0, a1, a2, .int x] dL_law_456 rfl,
  fun d L st h => fk_w_iconst dL_law_457 (by decide),
  fun d L x y st h => fk_r_iadd dL_law_458,
  fun d L st N y l i hi hN => fk_h_sld dL_law_459 hi hN,
  fun d L x0 x1 x2 x3 x4 w0 N y l  => fk_g_call [.int x0, .int x1, .int x2, .int x3, .int x4] [w0] rfl lm_13_41 dL_law_460 rfl ⟨rfl, by decide⟩ (by simp) fk_at_246,
  fun d L x y st h => fk_r_icmp_eq dL_law_463 (by decide),
  fun d L st h => fk_w_iconst dL_law_466 (by decide),
  fun d L h => fk_r_ret dL_law_467 (Or.inr (Or.inl ⟨rfl, by decide⟩)),
  fun d L h => fk_r_ret dL_law_467 (Or.inr (Or.inl ⟨rfl, by decide⟩)),
  fun d L p _ h => fk_r_ret dL_law_467 (Or.inr (Or.inl ⟨rfl, fk_b_01⟩)),
  fun d L x h hx => fk_r_ret dL_law_467 (Or.inr (Or.inl ⟨rfl, hx⟩)),
  fun d a0 a2 a3 x st h => fk_w_aloadn 1 [a0, .ref x, a2, a3] dL_law_468 rfl,
  fun d a1 a2 a3 x st h => fk_w_aloadn 0 [.ref x, a1, a2, a3] dL_law_469 rfl,
  fun d a0 a1 a2 x st h => fk_w_iloadn 3 [a0, a1, a2, .int x] dL_law_470 rfl,
  fun d L st h => fk_w_iconst dL_law_471 (by decide),
  fun d L x y st h => fk_r_iadd dL_law_472,
  fun d L st N y l i hi hN => fk_h_sld dL_law_473 hi hN,
  fun d L x0 N y l  => fk_g_call [.int x0] [] rfl lm_13_42 dL_law_474 rfl ⟨rfl, by decide⟩ (by simp) fk_at_1,
  fun d a0 a1 a3 x st h => fk_w_aloadn 2 [a0, a1, .ref x, a3] dL_law_477 rfl,
  fun d a1 a2 a3 x st h => fk_w_aloadn 0 [.ref x, a1, a2, a3] dL_law_478 rfl,
  fun d a0 a1 a2 x st h => fk_w_iloadn 3 [a0, a1, a2, .int x] dL_law_479 rfl,
  fun d L st h => fk_w_iconst dL_law_480 (by decide),
  fun d L x y st h => fk_r_iadd dL_law_481,
  fun d L st N y l i hi hN => fk_h_sld dL_law_482 hi hN,
  fun d L x0 w0 N y l  => fk_g_call [.int x0] [w0] rfl lm_13_46 dL_law_483 rfl ⟨rfl, by decide⟩ (by simp) fk_at_246,
  fun d L x y st h => fk_r_icmp_eq dL_law_486 (by decide),
  fun d L st h => fk_w_iconst dL_law_489 (by decide),
  fun d L h => fk_r_ret dL_law_490 (Or.inr (Or.inl ⟨rfl, by decide⟩)),
  fun d L h => fk_r_ret dL_law_490 (Or.inr (Or.inl ⟨rfl, by decide⟩)),
  fun d L p _ h => fk_r_ret dL_law_490 (Or.inr (Or.inl ⟨rfl, fk_b_01⟩)),
  fun d L x h hx => fk_r_ret dL_law_490 (Or.inr (Or.inl ⟨rfl, hx⟩)),
  fun d a0 a2 a3 x st h => fk_w_aloadn 1 [a0, .ref x, a2, a3] dL_law_491 rfl,
  fun d a1 a2 a3 x st h => fk_w_aloadn 0 [.ref x, a1, a2, a3] dL_law_492 rfl,
  fun d a0 a1 a2 x st h => fk_w_iloadn 3 [a0, a1, a2, .int x] dL_law_493 rfl,
  fun d L st h => fk_w_iconst dL_law_494 (by decide),
  fun d L x y st h => fk_r_iadd dL_law_495,
  fun d L st N y l i hi hN => fk_h_sld dL_law_496 hi hN,
  fun d L x0 N y l  => fk_g_call [.int x0] [] rfl lm_13_47 dL_law_497 rfl ⟨rfl, by decide⟩ (by simp) fk_at_1,
  fun d a0 a1 a3 x st h => fk_w_aloadn 2 [a0, a1, .ref x, a3] dL_law_500 rfl,
  fun d a1 a2 a3 x st h => fk_w_aloadn 0 [.ref x, a1, a2, a3] dL_law_501 rfl,
  fun d a0 a1 a2 x st h => fk_w_iloadn 3 [a0, a1, a2, .int x] dL_law_502 rfl,
  fun d L st h => fk_w_iconst dL_law_503 (by decide),
  fun d L x y st h => fk_r_iadd dL_law_504,
  fun d L st N y l i hi hN => fk_h_sld dL_law_505 hi hN,
  fun d L x0 w0 N y l  => fk_g_call [.int x0] [w0] rfl lm_13_50 dL_law_506 rfl ⟨rfl, by decide⟩ (by simp) fk_at_246,
  fun d L x y st h => fk_r_icmp_eq dL_law_509 (by decide),
  fun d L st h => fk_w_iconst dL_law_512 (by decide),
  fun d L h => fk_r_ret dL_law_513 (Or.inr (Or.inl ⟨rfl, by decide⟩)),
  fun d L h => fk_r_ret dL_law_513 (Or.inr (Or.inl ⟨rfl, by decide⟩)),
  fun d L p _ h => fk_r_ret dL_law_513 (Or.inr (Or.inl ⟨rfl, fk_b_01⟩)),
  fun d L x h hx => fk_r_ret dL_law_513 (Or.inr (Or.inl ⟨rfl, hx⟩)),
  fun d a0 a2 a3 x st h => fk_w_aloadn 1 [a0, .ref x, a2, a3] dL_law_514 rfl,
  fun d a1 a2 a3 x st h => fk_w_aloadn 0 [.ref x, a1, a2, a3] dL_law_515 rfl,
  fun d a0 a1 a2 x st h => fk_w_iloadn 3 [a0, a1, a2, .int x] dL_law_516 rfl,
  fun d L st h => fk_w_iconst dL_law_517 (by decide),
  fun d L x y st h => fk_r_iadd dL_law_518,
  fun d L st N y l i hi hN => fk_h_sld dL_law_519 hi hN,
  fun d a1 a2 a3 x st h => fk_w_aloadn 0 [.ref x, a1, a2, a3] dL_law_520 rfl,
  fun d a0 a1 a2 x st h => fk_w_iloadn 3 [a0, a1, a2, .int x] dL_law_521 rfl,
  fun d L st h => fk_w_iconst dL_law_522 (by decide),
  fun d L x y st h => fk_r_iadd dL_law_523,
  fun d L st N y l i hi hN => fk_h_sld dL_law_524 hi hN,
  fun d L x0 x1 N y l  => fk_g_call [.int x0, .int x1] [] rfl lm_13_51 dL_law_525 rfl ⟨rfl, by decide⟩ (by simp) fk_at_1,
  fun d a0 a1 a3 x st h => fk_w_aloadn 2 [a0, a1, .ref x, a3] dL_law_528 rfl,
  fun d a1 a2 a3 x st h => fk_w_aloadn 0 [.ref x, a1, a2, a3] dL_law_529 rfl,
  fun d a0 a1 a2 x st h => fk_w_iloadn 3 [a0, a1, a2, .int x] dL_law_530 rfl,
  fun d L st h => fk_w_iconst dL_law_531 (by decide),
  fun d L x y st h => fk_r_iadd dL_law_532,
  fun d L st N y l i hi hN => fk_h_sld dL_law_533 hi hN,
  fun d a1 a2 a3 x st h => fk_w_aloadn 0 [.ref x, a1, a2, a3] dL_law_534 rfl,
  fun d a0 a1 a2 x st h => fk_w_iloadn 3 [a0, a1, a2, .int x] dL_law_535 rfl,
  fun d L st h => fk_w_iconst dL_law_536 (by decide),
  fun d L x y st h => fk_r_iadd dL_law_537,
  fun d L st N y l i hi hN => fk_h_sld dL_law_538 hi hN,
  fun d L x0 x1 w0 N y l  => fk_g_call [.int x0, .int x1] [w0] rfl lm_13_54 dL_law_539 rfl ⟨rfl, by decide⟩ (by simp) fk_at_246,
  fun d L x y st h => fk_r_icmp_eq dL_law_542 (by decide),
  fun d L st h => fk_w_iconst dL_law_545 (by decide),
  fun d L h => fk_r_ret dL_law_546 (Or.inr (Or.inl ⟨rfl, by decide⟩)),
  fun d L h => fk_r_ret dL_law_546 (Or.inr (Or.inl ⟨rfl, by decide⟩)),
  fun d L p _ h => fk_r_ret dL_law_546 (Or.inr (Or.inl ⟨rfl, fk_b_01⟩)),
  fun d L x h hx => fk_r_ret dL_law_546 (Or.inr (Or.inl ⟨rfl, hx⟩)),
  fun d a0 a2 a3 x st h => fk_w_aloadn 1 [a0, .ref x, a2, a3] dL_law_547 rfl,
  fun d a1 a2 a3 x st h => fk_w_aloadn 0 [.ref x, a1, a2, a3] dL_law_548 rfl,
  fun d a0 a1 a2 x st h => fk_w_iloadn 3 [a0, a1, a2, .int x] dL_law_549 rfl,
  fun d L st h => fk_w_iconst dL_law_550 (by decide),
  fun d L x y st h => fk_r_iadd dL_law_551,
  fun d L st N y l i hi hN => fk_h_sld dL_law_552 hi hN,
  fun d a1 a2 a3 x st h => fk_w_aloadn 0 [.ref x, a1, a2, a3] dL_law_553 rfl,
  fun d a0 a1 a2 x st h => fk_w_iloadn 3 [a0, a1, a2, .int x] dL_law_554 rfl,
  fun d L st h => fk_w_iconst dL_law_555 (by decide),
  fun d L x y st h => fk_r_iadd dL_law_556,
  fun d L st N y l i hi hN => fk_h_sld dL_law_557 hi hN,
  fun d L x0 x1 N y l  => fk_g_call [.int x0, .int x1] [] rfl lm_13_55 dL_law_558 rfl ⟨rfl, by decide⟩ (by simp) fk_at_1,
  fun d a0 a1 a3 x st h => fk_w_aloadn 2 [a0, a1, .ref x, a3] dL_law_561 rfl,
  fun d a1 a2 a3 x st h => fk_w_aloadn 0 [.ref x, a1, a2, a3] dL_law_562 rfl,
  fun d a0 a1 a2 x st h => fk_w_iloadn 3 [a0, a1, a2, .int x] dL_law_563 rfl,
  fun d L st h => fk_w_iconst dL_law_564 (by decide),
  fun d L x y st h => fk_r_iadd dL_law_565⟩
theorem rL_law_2 : (∀ (d : Nat) (L st : List Value) (N : Nat) (y : Nat → Nat → Int32) (l : Nat → Nat → Int64) (i : Nat), i < N → N < 2 ^ 31 → fk_ev d qL_law 566 L (.int (nI i) :: .ref 0 :: st) (fk_E N y l) = fk_ev d qL_law 567 L (.int (y 0 i) :: st) (fk_E N y l)) ∧
  (∀ (d : Nat) (a1 a2 a3 : Value) (x : Nat) (st : List Value) (h : fk_H), fk_ev d qL_law 567 [.ref x, a1, a2, a3] st h = fk_ev d qL_law 568 [.ref x, a1, a2, a3] (.ref x :: st) h) ∧
  (∀ (d : Nat) (a0 a1 a2 : Value) (x : Int32) (st : List Value) (h : fk_H), fk_ev d qL_law 568 [a0, a1, a2, .int x] st h = fk_ev d qL_law 569 [a0, a1, a2, .int x] (.int x :: st) h) ∧
  (∀ (d : Nat) (L st : List Value) (h : fk_H), fk_ev d qL_law 569 L st h = fk_ev d qL_law 570 L (.int (nI 2) :: st) h) ∧
  (∀ (d : Nat) (L : List Value) (x y : Int32) (st : List Value) (h : fk_H), fk_ev d qL_law 570 L (.int y :: .int x :: st) h = fk_ev d qL_law 571 L (.int (x + y) :: st) h) ∧
  (∀ (d : Nat) (L st : List Value) (N : Nat) (y : Nat → Nat → Int32) (l : Nat → Nat → Int64) (i : Nat), i < N → N < 2 ^ 31 → fk_ev d qL_law 571 L (.int (nI i) :: .ref 0 :: st) (fk_E N y l) = fk_ev d qL_law 572 L (.int (y 0 i) :: st) (fk_E N y l)) ∧
  (∀ (d : Nat) (L : List Value) (x0 : Int32) (x1 : Int32) (w0 : Value) (N : Nat) (y : Nat → Nat → Int32) (l : Nat → Nat → Int64), fk_ev (d + 1) qL_law 572 L (.int x1 :: .int x0 :: .ref 246 :: [w0]) (fk_E N y l) = (fk_ev d qX12_half 0 [.ref 246, .int x0, .int x1] [] (fk_E N y l)).bind fun o => fk_ev (d + 1) qL_law 575 L (o.1.toList ++ [w0]) o.2) ∧
  (∀ (d : Nat) (L : List Value) (x y : Int32) (st : List Value) (h : fk_H), fk_ev d qL_law 575 L (.int y :: .int x :: st) h = if x = y then fk_ev d qL_law 1211 L st h else fk_ev d qL_law 578 L st h) ∧
  (∀ (d : Nat) (L st : List Value) (h : fk_H), fk_ev d qL_law 578 L st h = fk_ev d qL_law 579 L (.int (nI 0) :: st) h) ∧
  (∀ (d : Nat) (L : List Value) (h : fk_H), fk_ev d qL_law 579 L [.int (nI 0)] h = some (some (.int (nI 0)), h)) ∧
  (∀ (d : Nat) (L : List Value) (h : fk_H), fk_ev d qL_law 579 L [.int (nI 1)] h = some (some (.int (nI 1)), h)) ∧
  (∀ (d : Nat) (L : List Value) (p : Prop) [Decidable p] (h : fk_H), fk_ev d qL_law 579 L [.int (fk_b p)] h = some (some (.int (fk_b p)), h)) ∧
  (∀ (d : Nat) (L : List Value) (x : Int32) (h : fk_H), (x = nI 0 ∨ x = nI 1) → fk_ev d qL_law 579 L [.int x] h = some (some (.int x), h)) ∧
  (∀ (d : Nat) (a0 a2 a3 : Value) (x : Nat) (st : List Value) (h : fk_H), fk_ev d qL_law 580 [a0, .ref x, a2, a3] st h = fk_ev d qL_law 581 [a0, .ref x, a2, a3] (.ref x :: st) h) ∧
  (∀ (d : Nat) (a1 a2 a3 : Value) (x : Nat) (st : List Value) (h : fk_H), fk_ev d qL_law 581 [.ref x, a1, a2, a3] st h = fk_ev d qL_law 582 [.ref x, a1, a2, a3] (.ref x :: st) h) ∧
  (∀ (d : Nat) (a0 a1 a2 : Value) (x : Int32) (st : List Value) (h : fk_H), fk_ev d qL_law 582 [a0, a1, a2, .int x] st h = fk_ev d qL_law 583 [a0, a1, a2, .int x] (.int x :: st) h) ∧
  (∀ (d : Nat) (L st : List Value) (h : fk_H), fk_ev d qL_law 583 L st h = fk_ev d qL_law 584 L (.int (nI 1) :: st) h) ∧
  (∀ (d : Nat) (L : List Value) (x y : Int32) (st : List Value) (h : fk_H), fk_ev d qL_law 584 L (.int y :: .int x :: st) h = fk_ev d qL_law 585 L (.int (x + y) :: st) h) ∧
  (∀ (d : Nat) (L st : List Value) (N : Nat) (y : Nat → Nat → Int32) (l : Nat → Nat → Int64) (i : Nat), i < N → N < 2 ^ 31 → fk_ev d qL_law 585 L (.int (nI i) :: .ref 0 :: st) (fk_E N y l) = fk_ev d qL_law 586 L (.int (y 0 i) :: st) (fk_E N y l)) ∧
  (∀ (d : Nat) (a1 a2 a3 : Value) (x : Nat) (st : List Value) (h : fk_H), fk_ev d qL_law 586 [.ref x, a1, a2, a3] st h = fk_ev d qL_law 587 [.ref x, a1, a2, a3] (.ref x :: st) h) ∧
  (∀ (d : Nat) (a0 a1 a2 : Value) (x : Int32) (st : List Value) (h : fk_H), fk_ev d qL_law 587 [a0, a1, a2, .int x] st h = fk_ev d qL_law 588 [a0, a1, a2, .int x] (.int x :: st) h) ∧
  (∀ (d : Nat) (L st : List Value) (h : fk_H), fk_ev d qL_law 588 L st h = fk_ev d qL_law 589 L (.int (nI 2) :: st) h) ∧
  (∀ (d : Nat) (L : List Value) (x y : Int32) (st : List Value) (h : fk_H), fk_ev d qL_law 589 L (.int y :: .int x :: st) h = fk_ev d qL_law 590 L (.int (x + y) :: st) h) ∧
  (∀ (d : Nat) (L st : List Value) (N : Nat) (y : Nat → Nat → Int32) (l : Nat → Nat → Int64) (i : Nat), i < N → N < 2 ^ 31 → fk_ev d qL_law 590 L (.int (nI i) :: .ref 0 :: st) (fk_E N y l) = fk_ev d qL_law 591 L (.int (y 0 i) :: st) (fk_E N y l)) ∧
  (∀ (d : Nat) (L : List Value) (x0 : Int32) (x1 : Int32)  (N : Nat) (y : Nat → Nat → Int32) (l : Nat → Nat → Int64), fk_ev (d + 1) qL_law 591 L (.int x1 :: .int x0 :: .ref 1 :: []) (fk_E N y l) = (fk_ev d qX11_gladly 0 [.ref 1, .int x0, .int x1] [] (fk_E N y l)).bind fun o => fk_ev (d + 1) qL_law 594 L (o.1.toList ++ []) o.2) ∧
  (∀ (d : Nat) (a0 a1 a3 : Value) (x : Nat) (st : List Value) (h : fk_H), fk_ev d qL_law 594 [a0, a1, .ref x, a3] st h = fk_ev d qL_law 595 [a0, a1, .ref x, a3] (.ref x :: st) h) ∧
  (∀ (d : Nat) (a1 a2 a3 : Value) (x : Nat) (st : List Value) (h : fk_H), fk_ev d qL_law 595 [.ref x, a1, a2, a3] st h = fk_ev d qL_law 596 [.ref x, a1, a2, a3] (.ref x :: st) h) ∧
  (∀ (d : Nat) (a0 a1 a2 : Value) (x : Int32) (st : List Value) (h : fk_H), fk_ev d qL_law 596 [a0, a1, a2, .int x] st h = fk_ev d qL_law 597 [a0, a1, a2, .int x] (.int x :: st) h) ∧
  (∀ (d : Nat) (L st : List Value) (h : fk_H), fk_ev d qL_law 597 L st h = fk_ev d qL_law 598 L (.int (nI 1) :: st) h) ∧
  (∀ (d : Nat) (L : List Value) (x y : Int32) (st : List Value) (h : fk_H), fk_ev d qL_law 598 L (.int y :: .int x :: st) h = fk_ev d qL_law 599 L (.int (x + y) :: st) h) ∧
  (∀ (d : Nat) (L st : List Value) (N : Nat) (y : Nat → Nat → Int32) (l : Nat → Nat → Int64) (i : Nat), i < N → N < 2 ^ 31 → fk_ev d qL_law 599 L (.int (nI i) :: .ref 0 :: st) (fk_E N y l) = fk_ev d qL_law 600 L (.int (y 0 i) :: st) (fk_E N y l)) ∧
  (∀ (d : Nat) (a1 a2 a3 : Value) (x : Nat) (st : List Value) (h : fk_H), fk_ev d qL_law 600 [.ref x, a1, a2, a3] st h = fk_ev d qL_law 601 [.ref x, a1, a2, a3] (.ref x :: st) h) ∧
  (∀ (d : Nat) (a0 a1 a2 : Value) (x : Int32) (st : List Value) (h : fk_H), fk_ev d qL_law 601 [a0, a1, a2, .int x] st h = fk_ev d qL_law 602 [a0, a1, a2, .int x] (.int x :: st) h) ∧
  (∀ (d : Nat) (L st : List Value) (h : fk_H), fk_ev d qL_law 602 L st h = fk_ev d qL_law 603 L (.int (nI 2) :: st) h) ∧
  (∀ (d : Nat) (L : List Value) (x y : Int32) (st : List Value) (h : fk_H), fk_ev d qL_law 603 L (.int y :: .int x :: st) h = fk_ev d qL_law 604 L (.int (x + y) :: st) h) ∧
  (∀ (d : Nat) (L st : List Value) (N : Nat) (y : Nat → Nat → Int32) (l : Nat → Nat → Int64) (i : Nat), i < N → N < 2 ^ 31 → fk_ev d qL_law 604 L (.int (nI i) :: .ref 0 :: st) (fk_E N y l) = fk_ev d qL_law 605 L (.int (y 0 i) :: st) (fk_E N y l)) ∧
  (∀ (d : Nat) (L : List Value) (x0 : Int32) (x1 : Int32) (w0 : Value) (N : Nat) (y : Nat → Nat → Int32) (l : Nat → Nat → Int64), fk_ev (d + 1) qL_law 605 L (.int x1 :: .int x0 :: .ref 246 :: [w0]) (fk_E N y l) = (fk_ev d qX12_gladly 0 [.ref 246, .int x0, .int x1] [] (fk_E N y l)).bind fun o => fk_ev (d + 1) qL_law 608 L (o.1.toList ++ [w0]) o.2) ∧
  (∀ (d : Nat) (L : List Value) (x y : Int32) (st : List Value) (h : fk_H), fk_ev d qL_law 608 L (.int y :: .int x :: st) h = if x = y then fk_ev d qL_law 1211 L st h else fk_ev d qL_law 611 L st h) ∧
  (∀ (d : Nat) (L st : List Value) (h : fk_H), fk_ev d qL_law 611 L st h = fk_ev d qL_law 612 L (.int (nI 0) :: st) h) ∧
  (∀ (d : Nat) (L : List Value) (h : fk_H), fk_ev d qL_law 612 L [.int (nI 0)] h = some (some (.int (nI 0)), h)) ∧
  (∀ (d : Nat) (L : List Value) (h : fk_H), fk_ev d qL_law 612 L [.int (nI 1)] h = some (some (.int (nI 1)), h)) ∧
  (∀ (d : Nat) (L : List Value) (p : Prop) [Decidable p] (h : fk_H), fk_ev d qL_law 612 L [.int (fk_b p)] h = some (some (.int (fk_b p)), h)) ∧
  (∀ (d : Nat) (L : List Value) (x : Int32) (h : fk_H), (x = nI 0 ∨ x = nI 1) → fk_ev d qL_law 612 L [.int x] h = some (some (.int x), h)) ∧
  (∀ (d : Nat) (a0 a2 a3 : Value) (x : Nat) (st : List Value) (h : fk_H), fk_ev d qL_law 613 [a0, .ref x, a2, a3] st h = fk_ev d qL_law 614 [a0, .ref x, a2, a3] (.ref x :: st) h) ∧
  (∀ (d : Nat) (a1 a2 a3 : Value) (x : Nat) (st : List Value) (h : fk_H), fk_ev d qL_law 614 [.ref x, a1, a2, a3] st h = fk_ev d qL_law 615 [.ref x, a1, a2, a3] (.ref x :: st) h) ∧
  (∀ (d : Nat) (a0 a1 a2 : Value) (x : Int32) (st : List Value) (h : fk_H), fk_ev d qL_law 615 [a0, a1, a2, .int x] st h = fk_ev d qL_law 616 [a0, a1, a2, .int x] (.int x :: st) h) ∧
  (∀ (d : Nat) (L st : List Value) (h : fk_H), fk_ev d qL_law 616 L st h = fk_ev d qL_law 617 L (.int (nI 1) :: st) h) ∧
  (∀ (d : Nat) (L : List Value) (x y : Int32) (st : List Value) (h : fk_H), fk_ev d qL_law 617 L (.int y :: .int x :: st) h = fk_ev d qL_law 618 L (.int (x + y) :: st) h) ∧
  (∀ (d : Nat) (L st : List Value) (N : Nat) (y : Nat → Nat → Int32) (l : Nat → Nat → Int64) (i : Nat), i < N → N < 2 ^ 31 → fk_ev d qL_law 618 L (.int (nI i) :: .ref 0 :: st) (fk_E N y l) = fk_ev d qL_law 619 L (.int (y 0 i) :: st) (fk_E N y l)) ∧
  (∀ (d : Nat) (a1 a2 a3 : Value) (x : Nat) (st : List Value) (h : fk_H), fk_ev d qL_law 619 [.ref x, a1, a2, a3] st h = fk_ev d qL_law 620 [.ref x, a1, a2, a3] (.ref x :: st) h) ∧
  (∀ (d : Nat) (a0 a1 a2 : Value) (x : Int32) (st : List Value) (h : fk_H), fk_ev d qL_law 620 [a0, a1, a2, .int x] st h = fk_ev d qL_law 621 [a0, a1, a2, .int x] (.int x :: st) h) ∧
  (∀ (d : Nat) (L st : List Value) (h : fk_H), fk_ev d qL_law 621 L st h = fk_ev d qL_law 622 L (.int (nI 2) :: st) h) ∧
  (∀ (d : Nat) (L : List Value) (x y : Int32) (st : List Value) (h : fk_H), fk_ev d qL_law 622 L (.int y :: .int x :: st) h = fk_ev d qL_law 623 L (.int (x + y) :: st) h) ∧
  (∀ (d : Nat) (L st : List Value) (N : Nat) (y : Nat → Nat → Int32) (l : Nat → Nat → Int64) (i : Nat), i < N → N < 2 ^ 31 → fk_ev d qL_law 623 L (.int (nI i) :: .ref 0 :: st) (fk_E N y l) = fk_ev d qL_law 624 L (.int (y 0 i) :: st) (fk_E N y l)) ∧
  (∀ (d : Nat) (L : List Value) (x0 : Int32) (x1 : Int32)  (N : Nat) (y : Nat → Nat → Int32) (l : Nat → Nat → Int64), fk_ev (d + 1) qL_law 624 L (.int x1 :: .int x0 :: .ref 1 :: []) (fk_E N y l) = (fk_ev d qX11_halves 0 [.ref 1, .int x0, .int x1, .null, .null, .null] [] (fk_E N y l)).bind fun o => fk_ev (d + 1) qL_law 627 L (o.1.toList ++ []) o.2) ∧
  (∀ (d : Nat) (a0 a1 a3 : Value) (x : Nat) (st : List Value) (h : fk_H), fk_ev d qL_law 627 [a0, a1, .ref x, a3] st h = fk_ev d qL_law 628 [a0, a1, .ref x, a3] (.ref x :: st) h) ∧
  (∀ (d : Nat) (a1 a2 a3 : Value) (x : Nat) (st : List Value) (h : fk_H), fk_ev d qL_law 628 [.ref x, a1, a2, a3] st h = fk_ev d qL_law 629 [.ref x, a1, a2, a3] (.ref x :: st) h) ∧
  (∀ (d : Nat) (a0 a1 a2 : Value) (x : Int32) (st : List Value) (h : fk_H), fk_ev d qL_law 629 [a0, a1, a2, .int x] st h = fk_ev d qL_law 630 [a0, a1, a2, .int x] (.int x :: st) h) ∧
  (∀ (d : Nat) (L st : List Value) (h : fk_H), fk_ev d qL_law 630 L st h = fk_ev d qL_law 631 L (.int (nI 1) :: st) h) ∧
  (∀ (d : Nat) (L : List Value) (x y : Int32) (st : List Value) (h : fk_H), fk_ev d qL_law 631 L (.int y :: .int x :: st) h = fk_ev d qL_law 632 L (.int (x + y) :: st) h) ∧
  (∀ (d : Nat) (L st : List Value) (N : Nat) (y : Nat → Nat → Int32) (l : Nat → Nat → Int64) (i : Nat), i < N → N < 2 ^ 31 → fk_ev d qL_law 632 L (.int (nI i) :: .ref 0 :: st) (fk_E N y l) = fk_ev d qL_law 633 L (.int (y 0 i) :: st) (fk_E N y l)) ∧
  (∀ (d : Nat) (a1 a2 a3 : Value) (x : Nat) (st : List Value) (h : fk_H), fk_ev d qL_law 633 [.ref x, a1, a2, a3] st h = fk_ev d qL_law 634 [.ref x, a1, a2, a3] (.ref x :: st) h) ∧
  (∀ (d : Nat) (a0 a1 a2 : Value) (x : Int32) (st : List Value) (h : fk_H), fk_ev d qL_law 634 [a0, a1, a2, .int x] st h = fk_ev d qL_law 635 [a0, a1, a2, .int x] (.int x :: st) h) ∧
  (∀ (d : Nat) (L st : List Value) (h : fk_H), fk_ev d qL_law 635 L st h = fk_ev d qL_law 636 L (.int (nI 2) :: st) h) ∧
  (∀ (d : Nat) (L : List Value) (x y : Int32) (st : List Value) (h : fk_H), fk_ev d qL_law 636 L (.int y :: .int x :: st) h = fk_ev d qL_law 637 L (.int (x + y) :: st) h) ∧
  (∀ (d : Nat) (L st : List Value) (N : Nat) (y : Nat → Nat → Int32) (l : Nat → Nat → Int64) (i : Nat), i < N → N < 2 ^ 31 → fk_ev d qL_law 637 L (.int (nI i) :: .ref 0 :: st) (fk_E N y l) = fk_ev d qL_law 638 L (.int (y 0 i) :: st) (fk_E N y l)) ∧
  (∀ (d : Nat) (L : List Value) (x0 : Int32) (x1 : Int32) (w0 : Value) (N : Nat) (y : Nat → Nat → Int32) (l : Nat → Nat → Int64), fk_ev (d + 1) qL_law 638 L (.int x1 :: .int x0 :: .ref 246 :: [w0]) (fk_E N y l) = (fk_ev d qX12_halves 0 [.ref 246, .int x0, .int x1, .null, .null] [] (fk_E N y l)).bind fun o => fk_ev (d + 1) qL_law 641 L (o.1.toList ++ [w0]) o.2) ∧
  (∀ (d : Nat) (L : List Value) (x y : Int32) (st : List Value) (h : fk_H), fk_ev d qL_law 641 L (.int y :: .int x :: st) h = if x = y then fk_ev d qL_law 1211 L st h else fk_ev d qL_law 644 L st h) ∧
  (∀ (d : Nat) (L st : List Value) (h : fk_H), fk_ev d qL_law 644 L st h = fk_ev d qL_law 645 L (.int (nI 0) :: st) h) ∧
  (∀ (d : Nat) (L : List Value) (h : fk_H), fk_ev d qL_law 645 L [.int (nI 0)] h = some (some (.int (nI 0)), h)) ∧
  (∀ (d : Nat) (L : List Value) (h : fk_H), fk_ev d qL_law 645 L [.int (nI 1)] h = some (some (.int (nI 1)), h)) ∧
  (∀ (d : Nat) (L : List Value) (p : Prop) [Decidable p] (h : fk_H), fk_ev d qL_law 645 L [.int (fk_b p)] h = some (some (.int (fk_b p)), h)) ∧
  (∀ (d : Nat) (L : List Value) (x : Int32) (h : fk_H), (x = nI 0 ∨ x = nI 1) → fk_ev d qL_law 645 L [.int x] h = some (some (.int x), h)) ∧
  (∀ (d : Nat) (a0 a2 a3 : Value) (x : Nat) (st : List Value) (h : fk_H), fk_ev d qL_law 646 [a0, .ref x, a2, a3] st h = fk_ev d qL_law 647 [a0, .ref x, a2, a3] (.ref x :: st) h) ∧
  (∀ (d : Nat) (a1 a2 a3 : Value) (x : Nat) (st : List Value) (h : fk_H), fk_ev d qL_law 647 [.ref x, a1, a2, a3] st h = fk_ev d qL_law 648 [.ref x, a1, a2, a3] (.ref x :: st) h) ∧
  (∀ (d : Nat) (a0 a1 a2 : Value) (x : Int32) (st : List Value) (h : fk_H), fk_ev d qL_law 648 [a0, a1, a2, .int x] st h = fk_ev d qL_law 649 [a0, a1, a2, .int x] (.int x :: st) h) ∧
  (∀ (d : Nat) (L st : List Value) (h : fk_H), fk_ev d qL_law 649 L st h = fk_ev d qL_law 650 L (.int (nI 1) :: st) h) ∧
  (∀ (d : Nat) (L : List Value) (x y : Int32) (st : List Value) (h : fk_H), fk_ev d qL_law 650 L (.int y :: .int x :: st) h = fk_ev d qL_law 651 L (.int (x + y) :: st) h) ∧
  (∀ (d : Nat) (L st : List Value) (N : Nat) (y : Nat → Nat → Int32) (l : Nat → Nat → Int64) (i : Nat), i < N → N < 2 ^ 31 → fk_ev d qL_law 651 L (.int (nI i) :: .ref 0 :: st) (fk_E N y l) = fk_ev d qL_law 652 L (.int (y 0 i) :: st) (fk_E N y l)) ∧
  (∀ (d : Nat) (a1 a2 a3 : Value) (x : Nat) (st : List Value) (h : fk_H), fk_ev d qL_law 652 [.ref x, a1, a2, a3] st h = fk_ev d qL_law 653 [.ref x, a1, a2, a3] (.ref x :: st) h) ∧
  (∀ (d : Nat) (a0 a1 a2 : Value) (x : Int32) (st : List Value) (h : fk_H), fk_ev d qL_law 653 [a0, a1, a2, .int x] st h = fk_ev d qL_law 654 [a0, a1, a2, .int x] (.int x :: st) h) ∧
  (∀ (d : Nat) (L st : List Value) (h : fk_H), fk_ev d qL_law 654 L st h = fk_ev d qL_law 655 L (.int (nI 2) :: st) h) ∧
  (∀ (d : Nat) (L : List Value) (x y : Int32) (st : List Value) (h : fk_H), fk_ev d qL_law 655 L (.int y :: .int x :: st) h = fk_ev d qL_law 656 L (.int (x + y) :: st) h) ∧
  (∀ (d : Nat) (L st : List Value) (N : Nat) (y : Nat → Nat → Int32) (l : Nat → Nat → Int64) (i : Nat), i < N → N < 2 ^ 31 → fk_ev d qL_law 656 L (.int (nI i) :: .ref 0 :: st) (fk_E N y l) = fk_ev d qL_law 657 L (.int (y 0 i) :: st) (fk_E N y l)) ∧
  (∀ (d : Nat) (L : List Value) (x0 : Int32) (x1 : Int32)  (N : Nat) (y : Nat → Nat → Int32) (l : Nat → Nat → Int64), fk_ev (d + 1) qL_law 657 L (.int x1 :: .int x0 :: .ref 1 :: []) (fk_E N y l) = (fk_ev d qX11_was 0 [.ref 1, .int x0, .int x1] [] (fk_E N y l)).bind fun o => fk_ev (d + 1) qL_law 660 L (o.1.toList ++ []) o.2) ∧
  (∀ (d : Nat) (a0 a1 a3 : Value) (x : Nat) (st : List Value) (h : fk_H), fk_ev d qL_law 660 [a0, a1, .ref x, a3] st h = fk_ev d qL_law 661 [a0, a1, .ref x, a3] (.ref x :: st) h) ∧
  (∀ (d : Nat) (a1 a2 a3 : Value) (x : Nat) (st : List Value) (h : fk_H), fk_ev d qL_law 661 [.ref x, a1, a2, a3] st h = fk_ev d qL_law 662 [.ref x, a1, a2, a3] (.ref x :: st) h) ∧
  (∀ (d : Nat) (a0 a1 a2 : Value) (x : Int32) (st : List Value) (h : fk_H), fk_ev d qL_law 662 [a0, a1, a2, .int x] st h = fk_ev d qL_law 663 [a0, a1, a2, .int x] (.int x :: st) h) ∧
  (∀ (d : Nat) (L st : List Value) (h : fk_H), fk_ev d qL_law 663 L st h = fk_ev d qL_law 664 L (.int (nI 1) :: st) h) ∧
  (∀ (d : Nat) (L : List Value) (x y : Int32) (st : List Value) (h : fk_H), fk_ev d qL_law 664 L (.int y :: .int x :: st) h = fk_ev d qL_law 665 L (.int (x + y) :: st) h) ∧
  (∀ (d : Nat) (L st : List Value) (N : Nat) (y : Nat → Nat → Int32) (l : Nat → Nat → Int64) (i : Nat), i < N → N < 2 ^ 31 → fk_ev d qL_law 665 L (.int (nI i) :: .ref 0 :: st) (fk_E N y l) = fk_ev d qL_law 666 L (.int (y 0 i) :: st) (fk_E N y l)) ∧
  (∀ (d : Nat) (a1 a2 a3 : Value) (x : Nat) (st : List Value) (h : fk_H), fk_ev d qL_law 666 [.ref x, a1, a2, a3] st h = fk_ev d qL_law 667 [.ref x, a1, a2, a3] (.ref x :: st) h) ∧
  (∀ (d : Nat) (a0 a1 a2 : Value) (x : Int32) (st : List Value) (h : fk_H), fk_ev d qL_law 667 [a0, a1, a2, .int x] st h = fk_ev d qL_law 668 [a0, a1, a2, .int x] (.int x :: st) h) ∧
  (∀ (d : Nat) (L st : List Value) (h : fk_H), fk_ev d qL_law 668 L st h = fk_ev d qL_law 669 L (.int (nI 2) :: st) h) ∧
  (∀ (d : Nat) (L : List Value) (x y : Int32) (st : List Value) (h : fk_H), fk_ev d qL_law 669 L (.int y :: .int x :: st) h = fk_ev d qL_law 670 L (.int (x + y) :: st) h) ∧
  (∀ (d : Nat) (L st : List Value) (N : Nat) (y : Nat → Nat → Int32) (l : Nat → Nat → Int64) (i : Nat), i < N → N < 2 ^ 31 → fk_ev d qL_law 670 L (.int (nI i) :: .ref 0 :: st) (fk_E N y l) = fk_ev d qL_law 671 L (.int (y 0 i) :: st) (fk_E N y l)) ∧
  (∀ (d : Nat) (L : List Value) (x0 : Int32) (x1 : Int32) (w0 : Value) (N : Nat) (y : Nat → Nat → Int32) (l : Nat → Nat → Int64), fk_ev (d + 1) qL_law 671 L (.int x1 :: .int x0 :: .ref 246 :: [w0]) (fk_E N y l) = (fk_ev d qX12_was 0 [.ref 246, .int x0, .int x1] [] (fk_E N y l)).bind fun o => fk_ev (d + 1) qL_law 674 L (o.1.toList ++ [w0]) o.2) ∧
  (∀ (d : Nat) (L : List Value) (x y : Int32) (st : List Value) (h : fk_H), fk_ev d qL_law 674 L (.int y :: .int x :: st) h = if x = y then fk_ev d qL_law 1211 L st h else fk_ev d qL_law 677 L st h) ∧
  (∀ (d : Nat) (L st : List Value) (h : fk_H), fk_ev d qL_law 677 L st h = fk_ev d qL_law 678 L (.int (nI 0) :: st) h) ∧
  (∀ (d : Nat) (L : List Value) (h : fk_H), fk_ev d qL_law 678 L [.int (nI 0)] h = some (some (.int (nI 0)), h)) ∧
  (∀ (d : Nat) (L : List Value) (h : fk_H), fk_ev d qL_law 678 L [.int (nI 1)] h = some (some (.int (nI 1)), h)) ∧
  (∀ (d : Nat) (L : List Value) (p : Prop) [Decidable p] (h : fk_H), fk_ev d qL_law 678 L [.int (fk_b p)] h = some (some (.int (fk_b p)), h)) ∧
  (∀ (d : Nat) (L : List Value) (x : Int32) (h : fk_H), (x = nI 0 ∨ x = nI 1) → fk_ev d qL_law 678 L [.int x] h = some (some (.int x), h)) ∧
  (∀ (d : Nat) (a0 a2 a3 : Value) (x : Nat) (st : List Value) (h : fk_H), fk_ev d qL_law 679 [a0, .ref x, a2, a3] st h = fk_ev d qL_law 680 [a0, .ref x, a2, a3] (.ref x :: st) h) ∧
  (∀ (d : Nat) (a1 a2 a3 : Value) (x : Nat) (st : List Value) (h : fk_H), fk_ev d qL_law 680 [.ref x, a1, a2, a3] st h = fk_ev d qL_law 681 [.ref x, a1, a2, a3] (.ref x :: st) h) ∧
  (∀ (d : Nat) (a0 a1 a2 : Value) (x : Int32) (st : List Value) (h : fk_H), fk_ev d qL_law 681 [a0, a1, a2, .int x] st h = fk_ev d qL_law 682 [a0, a1, a2, .int x] (.int x :: st) h) ∧
  (∀ (d : Nat) (L st : List Value) (h : fk_H), fk_ev d qL_law 682 L st h = fk_ev d qL_law 683 L (.int (nI 1) :: st) h) ∧
  (∀ (d : Nat) (L : List Value) (x y : Int32) (st : List Value) (h : fk_H), fk_ev d qL_law 683 L (.int y :: .int x :: st) h = fk_ev d qL_law 684 L (.int (x + y) :: st) h) ∧
  (∀ (d : Nat) (L st : List Value) (N : Nat) (y : Nat → Nat → Int32) (l : Nat → Nat → Int64) (i : Nat), i < N → N < 2 ^ 31 → fk_ev d qL_law 684 L (.int (nI i) :: .ref 0 :: st) (fk_E N y l) = fk_ev d qL_law 685 L (.int (y 0 i) :: st) (fk_E N y l)) ∧
  (∀ (d : Nat) (a1 a2 a3 : Value) (x : Nat) (st : List Value) (h : fk_H), fk_ev d qL_law 685 [.ref x, a1, a2, a3] st h = fk_ev d qL_law 686 [.ref x, a1, a2, a3] (.ref x :: st) h) ∧
  (∀ (d : Nat) (a0 a1 a2 : Value) (x : Int32) (st : List Value) (h : fk_H), fk_ev d qL_law 686 [a0, a1, a2, .int x] st h = fk_ev d qL_law 687 [a0, a1, a2, .int x] (.int x :: st) h) ∧
  (∀ (d : Nat) (L st : List Value) (h : fk_H), fk_ev d qL_law 687 L st h = fk_ev d qL_law 688 L (.int (nI 2) :: st) h) ∧
  (∀ (d : Nat) (L : List Value) (x y : Int32) (st : List Value) (h : fk_H), fk_ev d qL_law 688 L (.int y :: .int x :: st) h = fk_ev d qL_law 689 L (.int (x + y) :: st) h) ∧
  (∀ (d : Nat) (L st : List Value) (N : Nat) (y : Nat → Nat → Int32) (l : Nat → Nat → Int64) (i : Nat), i < N → N < 2 ^ 31 → fk_ev d qL_law 689 L (.int (nI i) :: .ref 0 :: st) (fk_E N y l) = fk_ev d qL_law 690 L (.int (y 0 i) :: st) (fk_E N y l)) ∧
  (∀ (d : Nat) (L : List Value) (x0 : Int32) (x1 : Int32)  (N : Nat) (y : Nat → Nat → Int32) (l : Nat → Nat → Int64), fk_ev (d + 1) qL_law 690 L (.int x1 :: .int x0 :: .ref 1 :: []) (fk_E N y l) = (fk_ev d qX11_byForks 0 [.ref 1, .int x0, .int x1] [] (fk_E N y l)).bind fun o => fk_ev (d + 1) qL_law 693 L (o.1.toList ++ []) o.2) ∧
  (∀ (d : Nat) (a0 a1 a3 : Value) (x : Nat) (st : List Value) (h : fk_H), fk_ev d qL_law 693 [a0, a1, .ref x, a3] st h = fk_ev d qL_law 694 [a0, a1, .ref x, a3] (.ref x :: st) h) ∧
  (∀ (d : Nat) (a1 a2 a3 : Value) (x : Nat) (st : List Value) (h : fk_H), fk_ev d qL_law 694 [.ref x, a1, a2, a3] st h = fk_ev d qL_law 695 [.ref x, a1, a2, a3] (.ref x :: st) h) ∧
  (∀ (d : Nat) (a0 a1 a2 : Value) (x : Int32) (st : List Value) (h : fk_H), fk_ev d qL_law 695 [a0, a1, a2, .int x] st h = fk_ev d qL_law 696 [a0, a1, a2, .int x] (.int x :: st) h) ∧
  (∀ (d : Nat) (L st : List Value) (h : fk_H), fk_ev d qL_law 696 L st h = fk_ev d qL_law 697 L (.int (nI 1) :: st) h) ∧
  (∀ (d : Nat) (L : List Value) (x y : Int32) (st : List Value) (h : fk_H), fk_ev d qL_law 697 L (.int y :: .int x :: st) h = fk_ev d qL_law 698 L (.int (x + y) :: st) h) ∧
  (∀ (d : Nat) (L st : List Value) (N : Nat) (y : Nat → Nat → Int32) (l : Nat → Nat → Int64) (i : Nat), i < N → N < 2 ^ 31 → fk_ev d qL_law 698 L (.int (nI i) :: .ref 0 :: st) (fk_E N y l) = fk_ev d qL_law 699 L (.int (y 0 i) :: st) (fk_E N y l)) ∧
  (∀ (d : Nat) (a1 a2 a3 : Value) (x : Nat) (st : List Value) (h : fk_H), fk_ev d qL_law 699 [.ref x, a1, a2, a3] st h = fk_ev d qL_law 700 [.ref x, a1, a2, a3] (.ref x :: st) h) ∧
  (∀ (d : Nat) (a0 a1 a2 : Value) (x : Int32) (st : List Value) (h : fk_H), fk_ev d qL_law 700 [a0, a1, a2, .int x] st h = fk_ev d qL_law 701 [a0, a1, a2, .int x] (.int x :: st) h) ∧
  (∀ (d : Nat) (L st : List Value) (h : fk_H), fk_ev d qL_law 701 L st h = fk_ev d qL_law 702 L (.int (nI 2) :: st) h) ∧
  (∀ (d : Nat) (L : List Value) (x y : Int32) (st : List Value) (h : fk_H), fk_ev d qL_law 702 L (.int y :: .int x :: st) h = fk_ev d qL_law 703 L (.int (x + y) :: st) h) ∧
  (∀ (d : Nat) (L st : List Value) (N : Nat) (y : Nat → Nat → Int32) (l : Nat → Nat → Int64) (i : Nat), i < N → N < 2 ^ 31 → fk_ev d qL_law 703 L (.int (nI i) :: .ref 0 :: st) (fk_E N y l) = fk_ev d qL_law 704 L (.int (y 0 i) :: st) (fk_E N y l)) ∧
  (∀ (d : Nat) (L : List Value) (x0 : Int32) (x1 : Int32) (w0 : Value) (N : Nat) (y : Nat → Nat → Int32) (l : Nat → Nat → Int64), fk_ev (d + 1) qL_law 704 L (.int x1 :: .int x0 :: .ref 246 :: [w0]) (fk_E N y l) = (fk_ev d qX12_byForks 0 [.ref 246, .int x0, .int x1, .null, .null, .null, .null, .null, .null] [] (fk_E N y l)).bind fun o => fk_ev (d + 1) qL_law 707 L (o.1.toList ++ [w0]) o.2) ∧
  (∀ (d : Nat) (L : List Value) (x y : Int64) (st : List Value) (h : fk_H), fk_ev d qL_law 707 L (.long y :: .long x :: st) h = fk_ev d qL_law 708 L (.int (lg_cmp x y) :: st) h) ∧
  (∀ (d : Nat) (L : List Value) (x : Int32) (st : List Value) (h : fk_H), fk_ev d qL_law 708 L (.int x :: st) h = if x = nI 0 then fk_ev d qL_law 1211 L st h else fk_ev d qL_law 711 L st h) ∧
  (∀ (d : Nat) (L st : List Value) (h : fk_H), fk_ev d qL_law 711 L st h = fk_ev d qL_law 712 L (.int (nI 0) :: st) h) ∧
  (∀ (d : Nat) (L : List Value) (h : fk_H), fk_ev d qL_law 712 L [.int (nI 0)] h = some (some (.int (nI 0)), h)) ∧
  (∀ (d : Nat) (L : List Value) (h : fk_H), fk_ev d qL_law 712 L [.int (nI 1)] h = some (some (.int (nI 1)), h)) ∧
  (∀ (d : Nat) (L : List Value) (p : Prop) [Decidable p] (h : fk_H), fk_ev d qL_law 712 L [.int (fk_b p)] h = some (some (.int (fk_b p)), h)) ∧
  (∀ (d : Nat) (L : List Value) (x : Int32) (h : fk_H), (x = nI 0 ∨ x = nI 1) → fk_ev d qL_law 712 L [.int x] h = some (some (.int x), h)) ∧
  (∀ (d : Nat) (a0 a2 a3 : Value) (x : Nat) (st : List Value) (h : fk_H), fk_ev d qL_law 713 [a0, .ref x, a2, a3] st h = fk_ev d qL_law 714 [a0, .ref x, a2, a3] (.ref x :: st) h) ∧
  (∀ (d : Nat) (a1 a2 a3 : Value) (x : Nat) (st : List Value) (h : fk_H), fk_ev d qL_law 714 [.ref x, a1, a2, a3] st h = fk_ev d qL_law 715 [.ref x, a1, a2, a3] (.ref x :: st) h) ∧
  (∀ (d : Nat) (a0 a1 a2 : Value) (x : Int32) (st : List Value) (h : fk_H), fk_ev d qL_law 715 [a0, a1, a2, .int x] st h = fk_ev d qL_law 716 [a0, a1, a2, .int x] (.int x :: st) h) ∧
  (∀ (d : Nat) (L st : List Value) (h : fk_H), fk_ev d qL_law 716 L st h = fk_ev d qL_law 717 L (.int (nI 1) :: st) h) ∧
  (∀ (d : Nat) (L : List Value) (x y : Int32) (st : List Value) (h : fk_H), fk_ev d qL_law 717 L (.int y :: .int x :: st) h = fk_ev d qL_law 718 L (.int (x + y) :: st) h) ∧
  (∀ (d : Nat) (L st : List Value) (N : Nat) (y : Nat → Nat → Int32) (l : Nat → Nat → Int64) (i : Nat), i < N → N < 2 ^ 31 → fk_ev d qL_law 718 L (.int (nI i) :: .ref 0 :: st) (fk_E N y l) = fk_ev d qL_law 719 L (.int (y 0 i) :: st) (fk_E N y l)) ∧
  (∀ (d : Nat) (a1 a2 a3 : Value) (x : Nat) (st : List Value) (h : fk_H), fk_ev d qL_law 719 [.ref x, a1, a2, a3] st h = fk_ev d qL_law 720 [.ref x, a1, a2, a3] (.ref x :: st) h) ∧
  (∀ (d : Nat) (a0 a1 a2 : Value) (x : Int32) (st : List Value) (h : fk_H), fk_ev d qL_law 720 [a0, a1, a2, .int x] st h = fk_ev d qL_law 721 [a0, a1, a2, .int x] (.int x :: st) h) ∧
  (∀ (d : Nat) (L st : List Value) (h : fk_H), fk_ev d qL_law 721 L st h = fk_ev d qL_law 722 L (.int (nI 2) :: st) h) ∧
  (∀ (d : Nat) (L : List Value) (x y : Int32) (st : List Value) (h : fk_H), fk_ev d qL_law 722 L (.int y :: .int x :: st) h = fk_ev d qL_law 723 L (.int (x + y) :: st) h) ∧
  (∀ (d : Nat) (L st : List Value) (N : Nat) (y : Nat → Nat → Int32) (l : Nat → Nat → Int64) (i : Nat), i < N → N < 2 ^ 31 → fk_ev d qL_law 723 L (.int (nI i) :: .ref 0 :: st) (fk_E N y l) = fk_ev d qL_law 724 L (.int (y 0 i) :: st) (fk_E N y l)) ∧
  (∀ (d : Nat) (a1 a2 a3 : Value) (x : Nat) (st : List Value) (h : fk_H), fk_ev d qL_law 724 [.ref x, a1, a2, a3] st h = fk_ev d qL_law 725 [.ref x, a1, a2, a3] (.ref x :: st) h) ∧
  (∀ (d : Nat) (a0 a1 a2 : Value) (x : Int32) (st : List Value) (h : fk_H), fk_ev d qL_law 725 [a0, a1, a2, .int x] st h = fk_ev d qL_law 726 [a0, a1, a2, .int x] (.int x :: st) h) ∧
  (∀ (d : Nat) (L st : List Value) (h : fk_H), fk_ev d qL_law 726 L st h = fk_ev d qL_law 727 L (.int (nI 3) :: st) h) ∧
  (∀ (d : Nat) (L : List Value) (x y : Int32) (st : List Value) (h : fk_H), fk_ev d qL_law 727 L (.int y :: .int x :: st) h = fk_ev d qL_law 728 L (.int (x + y) :: st) h) ∧
  (∀ (d : Nat) (L st : List Value) (N : Nat) (y : Nat → Nat → Int32) (l : Nat → Nat → Int64) (i : Nat), i < N → N < 2 ^ 31 → fk_ev d qL_law 728 L (.int (nI i) :: .ref 0 :: st) (fk_E N y l) = fk_ev d qL_law 729 L (.int (y 0 i) :: st) (fk_E N y l)) ∧
  (∀ (d : Nat) (a1 a2 a3 : Value) (x : Nat) (st : List Value) (h : fk_H), fk_ev d qL_law 729 [.ref x, a1, a2, a3] st h = fk_ev d qL_law 730 [.ref x, a1, a2, a3] (.ref x :: st) h) ∧
  (∀ (d : Nat) (a0 a1 a2 : Value) (x : Int32) (st : List Value) (h : fk_H), fk_ev d qL_law 730 [a0, a1, a2, .int x] st h = fk_ev d qL_law 731 [a0, a1, a2, .int x] (.int x :: st) h) ∧
  (∀ (d : Nat) (L st : List Value) (h : fk_H), fk_ev d qL_law 731 L st h = fk_ev d qL_law 732 L (.int (nI 4) :: st) h) ∧
  (∀ (d : Nat) (L : List Value) (x y : Int32) (st : List Value) (h : fk_H), fk_ev d qL_law 732 L (.int y :: .int x :: st) h = fk_ev d qL_law 733 L (.int (x + y) :: st) h) ∧
  (∀ (d : Nat) (L st : List Value) (N : Nat) (y : Nat → Nat → Int32) (l : Nat → Nat → Int64) (i : Nat), i < N → N < 2 ^ 31 → fk_ev d qL_law 733 L (.int (nI i) :: .ref 0 :: st) (fk_E N y l) = fk_ev d qL_law 734 L (.int (y 0 i) :: st) (fk_E N y l)) ∧
  (∀ (d : Nat) (L : List Value) (x0 : Int32) (x1 : Int32) (x2 : Int32) (x3 : Int32)  (N : Nat) (y : Nat → Nat → Int32) (l : Nat → Nat → Int64), fk_ev (d + 1) qL_law 734 L (.int x3 :: .int x2 :: .int x1 :: .int x0 :: .ref 1 :: []) (fk_E N y l) = (fk_ev d qX11_plan 0 [.ref 1, .int x0, .int x1, .int x2, .int x3, .null] [] (fk_E N y l)).bind fun o => fk_ev (d + 1) qL_law 737 L (o.1.toList ++ []) o.2) ∧
  (∀ (d : Nat) (a0 a1 a3 : Value) (x : Nat) (st : List Value) (h : fk_H), fk_ev d qL_law 737 [a0, a1, .ref x, a3] st h = fk_ev d qL_law 738 [a0, a1, .ref x, a3] (.ref x :: st) h) ∧
  (∀ (d : Nat) (a1 a2 a3 : Value) (x : Nat) (st : List Value) (h : fk_H), fk_ev d qL_law 738 [.ref x, a1, a2, a3] st h = fk_ev d qL_law 739 [.ref x, a1, a2, a3] (.ref x :: st) h) ∧
  (∀ (d : Nat) (a0 a1 a2 : Value) (x : Int32) (st : List Value) (h : fk_H), fk_ev d qL_law 739 [a0, a1, a2, .int x] st h = fk_ev d qL_law 740 [a0, a1, a2, .int x] (.int x :: st) h) ∧
  (∀ (d : Nat) (L st : List Value) (h : fk_H), fk_ev d qL_law 740 L st h = fk_ev d qL_law 741 L (.int (nI 1) :: st) h) ∧
  (∀ (d : Nat) (L : List Value) (x y : Int32) (st : List Value) (h : fk_H), fk_ev d qL_law 741 L (.int y :: .int x :: st) h = fk_ev d qL_law 742 L (.int (x + y) :: st) h) ∧
  (∀ (d : Nat) (L st : List Value) (N : Nat) (y : Nat → Nat → Int32) (l : Nat → Nat → Int64) (i : Nat), i < N → N < 2 ^ 31 → fk_ev d qL_law 742 L (.int (nI i) :: .ref 0 :: st) (fk_E N y l) = fk_ev d qL_law 743 L (.int (y 0 i) :: st) (fk_E N y l)) ∧
  (∀ (d : Nat) (a1 a2 a3 : Value) (x : Nat) (st : List Value) (h : fk_H), fk_ev d qL_law 743 [.ref x, a1, a2, a3] st h = fk_ev d qL_law 744 [.ref x, a1, a2, a3] (.ref x :: st) h) ∧
  (∀ (d : Nat) (a0 a1 a2 : Value) (x : Int32) (st : List Value) (h : fk_H), fk_ev d qL_law 744 [a0, a1, a2, .int x] st h = fk_ev d qL_law 745 [a0, a1, a2, .int x] (.int x :: st) h) ∧
  (∀ (d : Nat) (L st : List Value) (h : fk_H), fk_ev d qL_law 745 L st h = fk_ev d qL_law 746 L (.int (nI 2) :: st) h) ∧
  (∀ (d : Nat) (L : List Value) (x y : Int32) (st : List Value) (h : fk_H), fk_ev d qL_law 746 L (.int y :: .int x :: st) h = fk_ev d qL_law 747 L (.int (x + y) :: st) h) ∧
  (∀ (d : Nat) (L st : List Value) (N : Nat) (y : Nat → Nat → Int32) (l : Nat → Nat → Int64) (i : Nat), i < N → N < 2 ^ 31 → fk_ev d qL_law 747 L (.int (nI i) :: .ref 0 :: st) (fk_E N y l) = fk_ev d qL_law 748 L (.int (y 0 i) :: st) (fk_E N y l)) ∧
  (∀ (d : Nat) (a1 a2 a3 : Value) (x : Nat) (st : List Value) (h : fk_H), fk_ev d qL_law 748 [.ref x, a1, a2, a3] st h = fk_ev d qL_law 749 [.ref x, a1, a2, a3] (.ref x :: st) h) ∧
  (∀ (d : Nat) (a0 a1 a2 : Value) (x : Int32) (st : List Value) (h : fk_H), fk_ev d qL_law 749 [a0, a1, a2, .int x] st h = fk_ev d qL_law 750 [a0, a1, a2, .int x] (.int x :: st) h) ∧
  (∀ (d : Nat) (L st : List Value) (h : fk_H), fk_ev d qL_law 750 L st h = fk_ev d qL_law 751 L (.int (nI 3) :: st) h) ∧
  (∀ (d : Nat) (L : List Value) (x y : Int32) (st : List Value) (h : fk_H), fk_ev d qL_law 751 L (.int y :: .int x :: st) h = fk_ev d qL_law 752 L (.int (x + y) :: st) h) ∧
  (∀ (d : Nat) (L st : List Value) (N : Nat) (y : Nat → Nat → Int32) (l : Nat → Nat → Int64) (i : Nat), i < N → N < 2 ^ 31 → fk_ev d qL_law 752 L (.int (nI i) :: .ref 0 :: st) (fk_E N y l) = fk_ev d qL_law 753 L (.int (y 0 i) :: st) (fk_E N y l)) ∧
  (∀ (d : Nat) (a1 a2 a3 : Value) (x : Nat) (st : List Value) (h : fk_H), fk_ev d qL_law 753 [.ref x, a1, a2, a3] st h = fk_ev d qL_law 754 [.ref x, a1, a2, a3] (.ref x :: st) h) ∧
  (∀ (d : Nat) (a0 a1 a2 : Value) (x : Int32) (st : List Value) (h : fk_H), fk_ev d qL_law 754 [a0, a1, a2, .int x] st h = fk_ev d qL_law 755 [a0, a1, a2, .int x] (.int x :: st) h) ∧
  (∀ (d : Nat) (L st : List Value) (h : fk_H), fk_ev d qL_law 755 L st h = fk_ev d qL_law 756 L (.int (nI 4) :: st) h) ∧
  (∀ (d : Nat) (L : List Value) (x y : Int32) (st : List Value) (h : fk_H), fk_ev d qL_law 756 L (.int y :: .int x :: st) h = fk_ev d qL_law 757 L (.int (x + y) :: st) h) ∧
  (∀ (d : Nat) (L st : List Value) (N : Nat) (y : Nat → Nat → Int32) (l : Nat → Nat → Int64) (i : Nat), i < N → N < 2 ^ 31 → fk_ev d qL_law 757 L (.int (nI i) :: .ref 0 :: st) (fk_E N y l) = fk_ev d qL_law 758 L (.int (y 0 i) :: st) (fk_E N y l)) ∧
  (∀ (d : Nat) (L : List Value) (x0 : Int32) (x1 : Int32) (x2 : Int32) (x3 : Int32) (w0 : Value) (N : Nat) (y : Nat → Nat → Int32) (l : Nat → Nat → Int64), fk_ev (d + 1) qL_law 758 L (.int x3 :: .int x2 :: .int x1 :: .int x0 :: .ref 246 :: [w0]) (fk_E N y l) = (fk_ev d qX12_plan 0 [.ref 246, .int x0, .int x1, .int x2, .int x3, .null, .null] [] (fk_E N y l)).bind fun o => fk_ev (d + 1) qL_law 761 L (o.1.toList ++ [w0]) o.2) ∧
  (∀ (d : Nat) (L : List Value) (x y : Int32) (st : List Value) (h : fk_H), fk_ev d qL_law 761 L (.int y :: .int x :: st) h = if x = y then fk_ev d qL_law 1211 L st h else fk_ev d qL_law 764 L st h) ∧
  (∀ (d : Nat) (L st : List Value) (h : fk_H), fk_ev d qL_law 764 L st h = fk_ev d qL_law 765 L (.int (nI 0) :: st) h) ∧
  (∀ (d : Nat) (L : List Value) (h : fk_H), fk_ev d qL_law 765 L [.int (nI 0)] h = some (some (.int (nI 0)), h)) ∧
  (∀ (d : Nat) (L : List Value) (h : fk_H), fk_ev d qL_law 765 L [.int (nI 1)] h = some (some (.int (nI 1)), h)) ∧
  (∀ (d : Nat) (L : List Value) (p : Prop) [Decidable p] (h : fk_H), fk_ev d qL_law 765 L [.int (fk_b p)] h = some (some (.int (fk_b p)), h)) ∧
  (∀ (d : Nat) (L : List Value) (x : Int32) (h : fk_H), (x = nI 0 ∨ x = nI 1) → fk_ev d qL_law 765 L [.int x] h = some (some (.int x), h)) ∧
  (∀ (d : Nat) (a0 a2 a3 : Value) (x : Nat) (st : List Value) (h : fk_H), fk_ev d qL_law 766 [a0, .ref x, a2, a3] st h = fk_ev d qL_law 767 [a0, .ref x, a2, a3] (.ref x :: st) h) ∧
  (∀ (d : Nat) (a1 a2 a3 : Value) (x : Nat) (st : List Value) (h : fk_H), fk_ev d qL_law 767 [.ref x, a1, a2, a3] st h = fk_ev d qL_law 768 [.ref x, a1, a2, a3] (.ref x :: st) h) ∧
  (∀ (d : Nat) (a0 a1 a2 : Value) (x : Int32) (st : List Value) (h : fk_H), fk_ev d qL_law 768 [a0, a1, a2, .int x] st h = fk_ev d qL_law 769 [a0, a1, a2, .int x] (.int x :: st) h) ∧
  (∀ (d : Nat) (L st : List Value) (h : fk_H), fk_ev d qL_law 769 L st h = fk_ev d qL_law 770 L (.int (nI 1) :: st) h) ∧
  (∀ (d : Nat) (L : List Value) (x y : Int32) (st : List Value) (h : fk_H), fk_ev d qL_law 770 L (.int y :: .int x :: st) h = fk_ev d qL_law 771 L (.int (x + y) :: st) h) ∧
  (∀ (d : Nat) (L st : List Value) (N : Nat) (y : Nat → Nat → Int32) (l : Nat → Nat → Int64) (i : Nat), i < N → N < 2 ^ 31 → fk_ev d qL_law 771 L (.int (nI i) :: .ref 0 :: st) (fk_E N y l) = fk_ev d qL_law 772 L (.int (y 0 i) :: st) (fk_E N y l)) ∧
  (∀ (d : Nat) (a1 a2 a3 : Value) (x : Nat) (st : List Value) (h : fk_H), fk_ev d qL_law 772 [.ref x, a1, a2, a3] st h = fk_ev d qL_law 773 [.ref x, a1, a2, a3] (.ref x :: st) h) ∧
  (∀ (d : Nat) (a0 a1 a2 : Value) (x : Int32) (st : List Value) (h : fk_H), fk_ev d qL_law 773 [a0, a1, a2, .int x] st h = fk_ev d qL_law 774 [a0, a1, a2, .int x] (.int x :: st) h) ∧
  (∀ (d : Nat) (L st : List Value) (h : fk_H), fk_ev d qL_law 774 L st h = fk_ev d qL_law 775 L (.int (nI 2) :: st) h) ∧
  (∀ (d : Nat) (L : List Value) (x y : Int32) (st : List Value) (h : fk_H), fk_ev d qL_law 775 L (.int y :: .int x :: st) h = fk_ev d qL_law 776 L (.int (x + y) :: st) h) ∧
  (∀ (d : Nat) (L st : List Value) (N : Nat) (y : Nat → Nat → Int32) (l : Nat → Nat → Int64) (i : Nat), i < N → N < 2 ^ 31 → fk_ev d qL_law 776 L (.int (nI i) :: .ref 0 :: st) (fk_E N y l) = fk_ev d qL_law 777 L (.int (y 0 i) :: st) (fk_E N y l)) ∧
  (∀ (d : Nat) (L : List Value) (x0 : Int32) (x1 : Int32)  (N : Nat) (y : Nat → Nat → Int32) (l : Nat → Nat → Int64), fk_ev (d + 1) qL_law 777 L (.int x1 :: .int x0 :: .ref 1 :: []) (fk_E N y l) = (fk_ev d qX11_joined 0 [.ref 1, .int x0, .int x1, .null] [] (fk_E N y l)).bind fun o => fk_ev (d + 1) qL_law 780 L (o.1.toList ++ []) o.2) ∧
  (∀ (d : Nat) (a0 a1 a3 : Value) (x : Nat) (st : List Value) (h : fk_H), fk_ev d qL_law 780 [a0, a1, .ref x, a3] st h = fk_ev d qL_law 781 [a0, a1, .ref x, a3] (.ref x :: st) h) ∧
  (∀ (d : Nat) (a1 a2 a3 : Value) (x : Nat) (st : List Value) (h : fk_H), fk_ev d qL_law 781 [.ref x, a1, a2, a3] st h = fk_ev d qL_law 782 [.ref x, a1, a2, a3] (.ref x :: st) h) ∧
  (∀ (d : Nat) (a0 a1 a2 : Value) (x : Int32) (st : List Value) (h : fk_H), fk_ev d qL_law 782 [a0, a1, a2, .int x] st h = fk_ev d qL_law 783 [a0, a1, a2, .int x] (.int x :: st) h) ∧
  (∀ (d : Nat) (L st : List Value) (h : fk_H), fk_ev d qL_law 783 L st h = fk_ev d qL_law 784 L (.int (nI 1) :: st) h) := ⟨fun d L st N y l i hi hN => fk_h_sld dL_law_566 hi hN,
  fun d a1 a2 a3 x st h => fk_w_aloadn 0 [.ref x, a1, a2, a3] dL_law_567 rfl,
  fun d a0 a1 a2 x st h => fk_w_iloadn 3 [a0, a1, a2, .int x] dL_law_568 rfl,
  fun d L st h => fk_w_iconst dL_law_569 (by decide),
  fun d L x y st h => fk_r_iadd dL_law_570,
  fun d L st N y l i hi hN => fk_h_sld dL_law_571 hi hN,
  fun d L x0 x1 w0 N y l  => fk_g_call [.int x0, .int x1] [w0] rfl lm_13_58 dL_law_572 rfl ⟨rfl, by decide⟩ (by simp) fk_at_246,
  fun d L x y st h => fk_r_icmp_eq dL_law_575 (by decide),
  fun d L st h => fk_w_iconst dL_law_578 (by decide),
  fun d L h => fk_r_ret dL_law_579 (Or.inr (Or.inl ⟨rfl, by decide⟩)),
  fun d L h => fk_r_ret dL_law_579 (Or.inr (Or.inl ⟨rfl, by decide⟩)),
  fun d L p _ h => fk_r_ret dL_law_579 (Or.inr (Or.inl ⟨rfl, fk_b_01⟩)),
  fun d L x h hx => fk_r_ret dL_law_579 (Or.inr (Or.inl ⟨rfl, hx⟩)),
  fun d a0 a2 a3 x st h => fk_w_aloadn 1 [a0, .ref x, a2, a3] dL_law_580 rfl,
  fun d a1 a2 a3 x st h => fk_w_aloadn 0 [.ref x, a1, a2, a3] dL_law_581 rfl,
  fun d a0 a1 a2 x st h => fk_w_iloadn 3 [a0, a1, a2, .int x] dL_law_582 rfl,
  fun d L st h => fk_w_iconst dL_law_583 (by decide),
  fun d L x y st h => fk_r_iadd dL_law_584,
  fun d L st N y l i hi hN => fk_h_sld dL_law_585 hi hN,
  fun d a1 a2 a3 x st h => fk_w_aloadn 0 [.ref x, a1, a2, a3] dL_law_586 rfl,
  fun d a0 a1 a2 x st h => fk_w_iloadn 3 [a0, a1, a2, .int x] dL_law_587 rfl,
  fun d L st h => fk_w_iconst dL_law_588 (by decide),
  fun d L x y st h => fk_r_iadd dL_law_589,
  fun d L st N y l i hi hN => fk_h_sld dL_law_590 hi hN,
  fun d L x0 x1 N y l  => fk_g_call [.int x0, .int x1] [] rfl lm_13_59 dL_law_591 rfl ⟨rfl, by decide⟩ (by simp) fk_at_1,
  fun d a0 a1 a3 x st h => fk_w_aloadn 2 [a0, a1, .ref x, a3] dL_law_594 rfl,
  fun d a1 a2 a3 x st h => fk_w_aloadn 0 [.ref x, a1, a2, a3] dL_law_595 rfl,
  fun d a0 a1 a2 x st h => fk_w_iloadn 3 [a0, a1, a2, .int x] dL_law_596 rfl,
  fun d L st h => fk_w_iconst dL_law_597 (by decide),
  fun d L x y st h => fk_r_iadd dL_law_598,
  fun d L st N y l i hi hN => fk_h_sld dL_law_599 hi hN,
  fun d a1 a2 a3 x st h => fk_w_aloadn 0 [.ref x, a1, a2, a3] dL_law_600 rfl,
  fun d a0 a1 a2 x st h => fk_w_iloadn 3 [a0, a1, a2, .int x] dL_law_601 rfl,
  fun d L st h => fk_w_iconst dL_law_602 (by decide),
  fun d L x y st h => fk_r_iadd dL_law_603,
  fun d L st N y l i hi hN => fk_h_sld dL_law_604 hi hN,
  fun d L x0 x1 w0 N y l  => fk_g_call [.int x0, .int x1] [w0] rfl lm_13_62 dL_law_605 rfl ⟨rfl, by decide⟩ (by simp) fk_at_246,
  fun d L x y st h => fk_r_icmp_eq dL_law_608 (by decide),
  fun d L st h => fk_w_iconst dL_law_611 (by decide),
  fun d L h => fk_r_ret dL_law_612 (Or.inr (Or.inl ⟨rfl, by decide⟩)),
  fun d L h => fk_r_ret dL_law_612 (Or.inr (Or.inl ⟨rfl, by decide⟩)),
  fun d L p _ h => fk_r_ret dL_law_612 (Or.inr (Or.inl ⟨rfl, fk_b_01⟩)),
  fun d L x h hx => fk_r_ret dL_law_612 (Or.inr (Or.inl ⟨rfl, hx⟩)),
  fun d a0 a2 a3 x st h => fk_w_aloadn 1 [a0, .ref x, a2, a3] dL_law_613 rfl,
  fun d a1 a2 a3 x st h => fk_w_aloadn 0 [.ref x, a1, a2, a3] dL_law_614 rfl,
  fun d a0 a1 a2 x st h => fk_w_iloadn 3 [a0, a1, a2, .int x] dL_law_615 rfl,
  fun d L st h => fk_w_iconst dL_law_616 (by decide),
  fun d L x y st h => fk_r_iadd dL_law_617,
  fun d L st N y l i hi hN => fk_h_sld dL_law_618 hi hN,
  fun d a1 a2 a3 x st h => fk_w_aloadn 0 [.ref x, a1, a2, a3] dL_law_619 rfl,
  fun d a0 a1 a2 x st h => fk_w_iloadn 3 [a0, a1, a2, .int x] dL_law_620 rfl,
  fun d L st h => fk_w_iconst dL_law_621 (by decide),
  fun d L x y st h => fk_r_iadd dL_law_622,
  fun d L st N y l i hi hN => fk_h_sld dL_law_623 hi hN,
  fun d L x0 x1 N y l  => fk_g_call [.int x0, .int x1] [] rfl lm_13_63 dL_law_624 rfl ⟨rfl, by decide⟩ (by simp) fk_at_1,
  fun d a0 a1 a3 x st h => fk_w_aloadn 2 [a0, a1, .ref x, a3] dL_law_627 rfl,
  fun d a1 a2 a3 x st h => fk_w_aloadn 0 [.ref x, a1, a2, a3] dL_law_628 rfl,
  fun d a0 a1 a2 x st h => fk_w_iloadn 3 [a0, a1, a2, .int x] dL_law_629 rfl,
  fun d L st h => fk_w_iconst dL_law_630 (by decide),
  fun d L x y st h => fk_r_iadd dL_law_631,
  fun d L st N y l i hi hN => fk_h_sld dL_law_632 hi hN,
  fun d a1 a2 a3 x st h => fk_w_aloadn 0 [.ref x, a1, a2, a3] dL_law_633 rfl,
  fun d a0 a1 a2 x st h => fk_w_iloadn 3 [a0, a1, a2, .int x] dL_law_634 rfl,
  fun d L st h => fk_w_iconst dL_law_635 (by decide),
  fun d L x y st h => fk_r_iadd dL_law_636,
  fun d L st N y l i hi hN => fk_h_sld dL_law_637 hi hN,
  fun d L x0 x1 w0 N y l  => fk_g_call [.int x0, .int x1] [w0] rfl lm_13_66 dL_law_638 rfl ⟨rfl, by decide⟩ (by simp) fk_at_246,
  fun d L x y st h => fk_r_icmp_eq dL_law_641 (by decide),
  fun d L st h => fk_w_iconst dL_law_644 (by decide),
  fun d L h => fk_r_ret dL_law_645 (Or.inr (Or.inl ⟨rfl, by decide⟩)),
  fun d L h => fk_r_ret dL_law_645 (Or.inr (Or.inl ⟨rfl, by decide⟩)),
  fun d L p _ h => fk_r_ret dL_law_645 (Or.inr (Or.inl ⟨rfl, fk_b_01⟩)),
  fun d L x h hx => fk_r_ret dL_law_645 (Or.inr (Or.inl ⟨rfl, hx⟩)),
  fun d a0 a2 a3 x st h => fk_w_aloadn 1 [a0, .ref x, a2, a3] dL_law_646 rfl,
  fun d a1 a2 a3 x st h => fk_w_aloadn 0 [.ref x, a1, a2, a3] dL_law_647 rfl,
  fun d a0 a1 a2 x st h => fk_w_iloadn 3 [a0, a1, a2, .int x] dL_law_648 rfl,
  fun d L st h => fk_w_iconst dL_law_649 (by decide),
  fun d L x y st h => fk_r_iadd dL_law_650,
  fun d L st N y l i hi hN => fk_h_sld dL_law_651 hi hN,
  fun d a1 a2 a3 x st h => fk_w_aloadn 0 [.ref x, a1, a2, a3] dL_law_652 rfl,
  fun d a0 a1 a2 x st h => fk_w_iloadn 3 [a0, a1, a2, .int x] dL_law_653 rfl,
  fun d L st h => fk_w_iconst dL_law_654 (by decide),
  fun d L x y st h => fk_r_iadd dL_law_655,
  fun d L st N y l i hi hN => fk_h_sld dL_law_656 hi hN,
  fun d L x0 x1 N y l  => fk_g_call [.int x0, .int x1] [] rfl lm_13_67 dL_law_657 rfl ⟨rfl, by decide⟩ (by simp) fk_at_1,
  fun d a0 a1 a3 x st h => fk_w_aloadn 2 [a0, a1, .ref x, a3] dL_law_660 rfl,
  fun d a1 a2 a3 x st h => fk_w_aloadn 0 [.ref x, a1, a2, a3] dL_law_661 rfl,
  fun d a0 a1 a2 x st h => fk_w_iloadn 3 [a0, a1, a2, .int x] dL_law_662 rfl,
  fun d L st h => fk_w_iconst dL_law_663 (by decide),
  fun d L x y st h => fk_r_iadd dL_law_664,
  fun d L st N y l i hi hN => fk_h_sld dL_law_665 hi hN,
  fun d a1 a2 a3 x st h => fk_w_aloadn 0 [.ref x, a1, a2, a3] dL_law_666 rfl,
  fun d a0 a1 a2 x st h => fk_w_iloadn 3 [a0, a1, a2, .int x] dL_law_667 rfl,
  fun d L st h => fk_w_iconst dL_law_668 (by decide),
  fun d L x y st h => fk_r_iadd dL_law_669,
  fun d L st N y l i hi hN => fk_h_sld dL_law_670 hi hN,
  fun d L x0 x1 w0 N y l  => fk_g_call [.int x0, .int x1] [w0] rfl lm_13_70 dL_law_671 rfl ⟨rfl, by decide⟩ (by simp) fk_at_246,
  fun d L x y st h => fk_r_icmp_eq dL_law_674 (by decide),
  fun d L st h => fk_w_iconst dL_law_677 (by decide),
  fun d L h => fk_r_ret dL_law_678 (Or.inr (Or.inl ⟨rfl, by decide⟩)),
  fun d L h => fk_r_ret dL_law_678 (Or.inr (Or.inl ⟨rfl, by decide⟩)),
  fun d L p _ h => fk_r_ret dL_law_678 (Or.inr (Or.inl ⟨rfl, fk_b_01⟩)),
  fun d L x h hx => fk_r_ret dL_law_678 (Or.inr (Or.inl ⟨rfl, hx⟩)),
  fun d a0 a2 a3 x st h => fk_w_aloadn 1 [a0, .ref x, a2, a3] dL_law_679 rfl,
  fun d a1 a2 a3 x st h => fk_w_aloadn 0 [.ref x, a1, a2, a3] dL_law_680 rfl,
  fun d a0 a1 a2 x st h => fk_w_iloadn 3 [a0, a1, a2, .int x] dL_law_681 rfl,
  fun d L st h => fk_w_iconst dL_law_682 (by decide),
  fun d L x y st h => fk_r_iadd dL_law_683,
  fun d L st N y l i hi hN => fk_h_sld dL_law_684 hi hN,
  fun d a1 a2 a3 x st h => fk_w_aloadn 0 [.ref x, a1, a2, a3] dL_law_685 rfl,
  fun d a0 a1 a2 x st h => fk_w_iloadn 3 [a0, a1, a2, .int x] dL_law_686 rfl,
  fun d L st h => fk_w_iconst dL_law_687 (by decide),
  fun d L x y st h => fk_r_iadd dL_law_688,
  fun d L st N y l i hi hN => fk_h_sld dL_law_689 hi hN,
  fun d L x0 x1 N y l  => fk_g_call [.int x0, .int x1] [] rfl lm_13_71 dL_law_690 rfl ⟨rfl, by decide⟩ (by simp) fk_at_1,
  fun d a0 a1 a3 x st h => fk_w_aloadn 2 [a0, a1, .ref x, a3] dL_law_693 rfl,
  fun d a1 a2 a3 x st h => fk_w_aloadn 0 [.ref x, a1, a2, a3] dL_law_694 rfl,
  fun d a0 a1 a2 x st h => fk_w_iloadn 3 [a0, a1, a2, .int x] dL_law_695 rfl,
  fun d L st h => fk_w_iconst dL_law_696 (by decide),
  fun d L x y st h => fk_r_iadd dL_law_697,
  fun d L st N y l i hi hN => fk_h_sld dL_law_698 hi hN,
  fun d a1 a2 a3 x st h => fk_w_aloadn 0 [.ref x, a1, a2, a3] dL_law_699 rfl,
  fun d a0 a1 a2 x st h => fk_w_iloadn 3 [a0, a1, a2, .int x] dL_law_700 rfl,
  fun d L st h => fk_w_iconst dL_law_701 (by decide),
  fun d L x y st h => fk_r_iadd dL_law_702,
  fun d L st N y l i hi hN => fk_h_sld dL_law_703 hi hN,
  fun d L x0 x1 w0 N y l  => fk_g_call [.int x0, .int x1] [w0] rfl lm_13_75 dL_law_704 rfl ⟨rfl, by decide⟩ (by simp) fk_at_246,
  fun d L x y st h => fk_r_lcmp dL_law_707,
  fun d L x st h => fk_r_if_eq dL_law_708 (by decide),
  fun d L st h => fk_w_iconst dL_law_711 (by decide),
  fun d L h => fk_r_ret dL_law_712 (Or.inr (Or.inl ⟨rfl, by decide⟩)),
  fun d L h => fk_r_ret dL_law_712 (Or.inr (Or.inl ⟨rfl, by decide⟩)),
  fun d L p _ h => fk_r_ret dL_law_712 (Or.inr (Or.inl ⟨rfl, fk_b_01⟩)),
  fun d L x h hx => fk_r_ret dL_law_712 (Or.inr (Or.inl ⟨rfl, hx⟩)),
  fun d a0 a2 a3 x st h => fk_w_aloadn 1 [a0, .ref x, a2, a3] dL_law_713 rfl,
  fun d a1 a2 a3 x st h => fk_w_aloadn 0 [.ref x, a1, a2, a3] dL_law_714 rfl,
  fun d a0 a1 a2 x st h => fk_w_iloadn 3 [a0, a1, a2, .int x] dL_law_715 rfl,
  fun d L st h => fk_w_iconst dL_law_716 (by decide),
  fun d L x y st h => fk_r_iadd dL_law_717,
  fun d L st N y l i hi hN => fk_h_sld dL_law_718 hi hN,
  fun d a1 a2 a3 x st h => fk_w_aloadn 0 [.ref x, a1, a2, a3] dL_law_719 rfl,
  fun d a0 a1 a2 x st h => fk_w_iloadn 3 [a0, a1, a2, .int x] dL_law_720 rfl,
  fun d L st h => fk_w_iconst dL_law_721 (by decide),
  fun d L x y st h => fk_r_iadd dL_law_722,
  fun d L st N y l i hi hN => fk_h_sld dL_law_723 hi hN,
  fun d a1 a2 a3 x st h => fk_w_aloadn 0 [.ref x, a1, a2, a3] dL_law_724 rfl,
  fun d a0 a1 a2 x st h => fk_w_iloadn 3 [a0, a1, a2, .int x] dL_law_725 rfl,
  fun d L st h => fk_w_iconst dL_law_726 (by decide),
  fun d L x y st h => fk_r_iadd dL_law_727,
  fun d L st N y l i hi hN => fk_h_sld dL_law_728 hi hN,
  fun d a1 a2 a3 x st h => fk_w_aloadn 0 [.ref x, a1, a2, a3] dL_law_729 rfl,
  fun d a0 a1 a2 x st h => fk_w_iloadn 3 [a0, a1, a2, .int x] dL_law_730 rfl,
  fun d L st h => fk_w_iconst dL_law_731 (by decide),
  fun d L x y st h => fk_r_iadd dL_law_732,
  fun d L st N y l i hi hN => fk_h_sld dL_law_733 hi hN,
  fun d L x0 x1 x2 x3 N y l  => fk_g_call [.int x0, .int x1, .int x2, .int x3] [] rfl lm_13_76 dL_law_734 rfl ⟨rfl, by decide⟩ (by simp) fk_at_1,
  fun d a0 a1 a3 x st h => fk_w_aloadn 2 [a0, a1, .ref x, a3] dL_law_737 rfl,
  fun d a1 a2 a3 x st h => fk_w_aloadn 0 [.ref x, a1, a2, a3] dL_law_738 rfl,
  fun d a0 a1 a2 x st h => fk_w_iloadn 3 [a0, a1, a2, .int x] dL_law_739 rfl,
  fun d L st h => fk_w_iconst dL_law_740 (by decide),
  fun d L x y st h => fk_r_iadd dL_law_741,
  fun d L st N y l i hi hN => fk_h_sld dL_law_742 hi hN,
  fun d a1 a2 a3 x st h => fk_w_aloadn 0 [.ref x, a1, a2, a3] dL_law_743 rfl,
  fun d a0 a1 a2 x st h => fk_w_iloadn 3 [a0, a1, a2, .int x] dL_law_744 rfl,
  fun d L st h => fk_w_iconst dL_law_745 (by decide),
  fun d L x y st h => fk_r_iadd dL_law_746,
  fun d L st N y l i hi hN => fk_h_sld dL_law_747 hi hN,
  fun d a1 a2 a3 x st h => fk_w_aloadn 0 [.ref x, a1, a2, a3] dL_law_748 rfl,
  fun d a0 a1 a2 x st h => fk_w_iloadn 3 [a0, a1, a2, .int x] dL_law_749 rfl,
  fun d L st h => fk_w_iconst dL_law_750 (by decide),
  fun d L x y st h => fk_r_iadd dL_law_751,
  fun d L st N y l i hi hN => fk_h_sld dL_law_752 hi hN,
  fun d a1 a2 a3 x st h => fk_w_aloadn 0 [.ref x, a1, a2, a3] dL_law_753 rfl,
  fun d a0 a1 a2 x st h => fk_w_iloadn 3 [a0, a1, a2, .int x] dL_law_754 rfl,
  fun d L st h => fk_w_iconst dL_law_755 (by decide),
  fun d L x y st h => fk_r_iadd dL_law_756,
  fun d L st N y l i hi hN => fk_h_sld dL_law_757 hi hN,
  fun d L x0 x1 x2 x3 w0 N y l  => fk_g_call [.int x0, .int x1, .int x2, .int x3] [w0] rfl lm_13_80 dL_law_758 rfl ⟨rfl, by decide⟩ (by simp) fk_at_246,
  fun d L x y st h => fk_r_icmp_eq dL_law_761 (by decide),
  fun d L st h => fk_w_iconst dL_law_764 (by decide),
  fun d L h => fk_r_ret dL_law_765 (Or.inr (Or.inl ⟨rfl, by decide⟩)),
  fun d L h => fk_r_ret dL_law_765 (Or.inr (Or.inl ⟨rfl, by decide⟩)),
  fun d L p _ h => fk_r_ret dL_law_765 (Or.inr (Or.inl ⟨rfl, fk_b_01⟩)),
  fun d L x h hx => fk_r_ret dL_law_765 (Or.inr (Or.inl ⟨rfl, hx⟩)),
  fun d a0 a2 a3 x st h => fk_w_aloadn 1 [a0, .ref x, a2, a3] dL_law_766 rfl,
  fun d a1 a2 a3 x st h => fk_w_aloadn 0 [.ref x, a1, a2, a3] dL_law_767 rfl,
  fun d a0 a1 a2 x st h => fk_w_iloadn 3 [a0, a1, a2, .int x] dL_law_768 rfl,
  fun d L st h => fk_w_iconst dL_law_769 (by decide),
  fun d L x y st h => fk_r_iadd dL_law_770,
  fun d L st N y l i hi hN => fk_h_sld dL_law_771 hi hN,
  fun d a1 a2 a3 x st h => fk_w_aloadn 0 [.ref x, a1, a2, a3] dL_law_772 rfl,
  fun d a0 a1 a2 x st h => fk_w_iloadn 3 [a0, a1, a2, .int x] dL_law_773 rfl,
  fun d L st h => fk_w_iconst dL_law_774 (by decide),
  fun d L x y st h => fk_r_iadd dL_law_775,
  fun d L st N y l i hi hN => fk_h_sld dL_law_776 hi hN,
  fun d L x0 x1 N y l  => fk_g_call [.int x0, .int x1] [] rfl lm_13_81 dL_law_777 rfl ⟨rfl, by decide⟩ (by simp) fk_at_1,
  fun d a0 a1 a3 x st h => fk_w_aloadn 2 [a0, a1, .ref x, a3] dL_law_780 rfl,
  fun d a1 a2 a3 x st h => fk_w_aloadn 0 [.ref x, a1, a2, a3] dL_law_781 rfl,
  fun d a0 a1 a2 x st h => fk_w_iloadn 3 [a0, a1, a2, .int x] dL_law_782 rfl,
  fun d L st h => fk_w_iconst dL_law_783 (by decide)⟩
theorem rL_law_3 : (∀ (d : Nat) (L : List Value) (x y : Int32) (st : List Value) (h : fk_H), fk_ev d qL_law 784 L (.int y :: .int x :: st) h = fk_ev d qL_law 785 L (.int (x + y) :: st) h) ∧
  (∀ (d : Nat) (L st : List Value) (N : Nat) (y : Nat → Nat → Int32) (l : Nat → Nat → Int64) (i : Nat), i < N → N < 2 ^ 31 → fk_ev d qL_law 785 L (.int (nI i) :: .ref 0 :: st) (fk_E N y l) = fk_ev d qL_law 786 L (.int (y 0 i) :: st) (fk_E N y l)) ∧
  (∀ (d : Nat) (a1 a2 a3 : Value) (x : Nat) (st : List Value) (h : fk_H), fk_ev d qL_law 786 [.ref x, a1, a2, a3] st h = fk_ev d qL_law 787 [.ref x, a1, a2, a3] (.ref x :: st) h) ∧
  (∀ (d : Nat) (a0 a1 a2 : Value) (x : Int32) (st : List Value) (h : fk_H), fk_ev d qL_law 787 [a0, a1, a2, .int x] st h = fk_ev d qL_law 788 [a0, a1, a2, .int x] (.int x :: st) h) ∧
  (∀ (d : Nat) (L st : List Value) (h : fk_H), fk_ev d qL_law 788 L st h = fk_ev d qL_law 789 L (.int (nI 2) :: st) h) ∧
  (∀ (d : Nat) (L : List Value) (x y : Int32) (st : List Value) (h : fk_H), fk_ev d qL_law 789 L (.int y :: .int x :: st) h = fk_ev d qL_law 790 L (.int (x + y) :: st) h) ∧
  (∀ (d : Nat) (L st : List Value) (N : Nat) (y : Nat → Nat → Int32) (l : Nat → Nat → Int64) (i : Nat), i < N → N < 2 ^ 31 → fk_ev d qL_law 790 L (.int (nI i) :: .ref 0 :: st) (fk_E N y l) = fk_ev d qL_law 791 L (.int (y 0 i) :: st) (fk_E N y l)) ∧
  (∀ (d : Nat) (L : List Value) (x0 : Int32) (x1 : Int32) (w0 : Value) (N : Nat) (y : Nat → Nat → Int32) (l : Nat → Nat → Int64), fk_ev (d + 1) qL_law 791 L (.int x1 :: .int x0 :: .ref 246 :: [w0]) (fk_E N y l) = (fk_ev d qX12_joined 0 [.ref 246, .int x0, .int x1, .null, .null, .null, .null, .null] [] (fk_E N y l)).bind fun o => fk_ev (d + 1) qL_law 794 L (o.1.toList ++ [w0]) o.2) ∧
  (∀ (d : Nat) (L : List Value) (x y : Int32) (st : List Value) (h : fk_H), fk_ev d qL_law 794 L (.int y :: .int x :: st) h = if x = y then fk_ev d qL_law 1211 L st h else fk_ev d qL_law 797 L st h) ∧
  (∀ (d : Nat) (L st : List Value) (h : fk_H), fk_ev d qL_law 797 L st h = fk_ev d qL_law 798 L (.int (nI 0) :: st) h) ∧
  (∀ (d : Nat) (L : List Value) (h : fk_H), fk_ev d qL_law 798 L [.int (nI 0)] h = some (some (.int (nI 0)), h)) ∧
  (∀ (d : Nat) (L : List Value) (h : fk_H), fk_ev d qL_law 798 L [.int (nI 1)] h = some (some (.int (nI 1)), h)) ∧
  (∀ (d : Nat) (L : List Value) (p : Prop) [Decidable p] (h : fk_H), fk_ev d qL_law 798 L [.int (fk_b p)] h = some (some (.int (fk_b p)), h)) ∧
  (∀ (d : Nat) (L : List Value) (x : Int32) (h : fk_H), (x = nI 0 ∨ x = nI 1) → fk_ev d qL_law 798 L [.int x] h = some (some (.int x), h)) ∧
  (∀ (d : Nat) (a0 a2 a3 : Value) (x : Nat) (st : List Value) (h : fk_H), fk_ev d qL_law 799 [a0, .ref x, a2, a3] st h = fk_ev d qL_law 800 [a0, .ref x, a2, a3] (.ref x :: st) h) ∧
  (∀ (d : Nat) (a1 a2 a3 : Value) (x : Nat) (st : List Value) (h : fk_H), fk_ev d qL_law 800 [.ref x, a1, a2, a3] st h = fk_ev d qL_law 801 [.ref x, a1, a2, a3] (.ref x :: st) h) ∧
  (∀ (d : Nat) (a0 a1 a2 : Value) (x : Int32) (st : List Value) (h : fk_H), fk_ev d qL_law 801 [a0, a1, a2, .int x] st h = fk_ev d qL_law 802 [a0, a1, a2, .int x] (.int x :: st) h) ∧
  (∀ (d : Nat) (L st : List Value) (h : fk_H), fk_ev d qL_law 802 L st h = fk_ev d qL_law 803 L (.int (nI 1) :: st) h) ∧
  (∀ (d : Nat) (L : List Value) (x y : Int32) (st : List Value) (h : fk_H), fk_ev d qL_law 803 L (.int y :: .int x :: st) h = fk_ev d qL_law 804 L (.int (x + y) :: st) h) ∧
  (∀ (d : Nat) (L st : List Value) (N : Nat) (y : Nat → Nat → Int32) (l : Nat → Nat → Int64) (i : Nat), i < N → N < 2 ^ 31 → fk_ev d qL_law 804 L (.int (nI i) :: .ref 0 :: st) (fk_E N y l) = fk_ev d qL_law 805 L (.int (y 0 i) :: st) (fk_E N y l)) ∧
  (∀ (d : Nat) (a1 a2 a3 : Value) (x : Nat) (st : List Value) (h : fk_H), fk_ev d qL_law 805 [.ref x, a1, a2, a3] st h = fk_ev d qL_law 806 [.ref x, a1, a2, a3] (.ref x :: st) h) ∧
  (∀ (d : Nat) (a0 a1 a2 : Value) (x : Int32) (st : List Value) (h : fk_H), fk_ev d qL_law 806 [a0, a1, a2, .int x] st h = fk_ev d qL_law 807 [a0, a1, a2, .int x] (.int x :: st) h) ∧
  (∀ (d : Nat) (L st : List Value) (h : fk_H), fk_ev d qL_law 807 L st h = fk_ev d qL_law 808 L (.int (nI 2) :: st) h) ∧
  (∀ (d : Nat) (L : List Value) (x y : Int32) (st : List Value) (h : fk_H), fk_ev d qL_law 808 L (.int y :: .int x :: st) h = fk_ev d qL_law 809 L (.int (x + y) :: st) h) ∧
  (∀ (d : Nat) (L st : List Value) (N : Nat) (y : Nat → Nat → Int32) (l : Nat → Nat → Int64) (i : Nat), i < N → N < 2 ^ 31 → fk_ev d qL_law 809 L (.int (nI i) :: .ref 0 :: st) (fk_E N y l) = fk_ev d qL_law 810 L (.int (y 0 i) :: st) (fk_E N y l)) ∧
  (∀ (d : Nat) (a1 a2 a3 : Value) (x : Nat) (st : List Value) (h : fk_H), fk_ev d qL_law 810 [.ref x, a1, a2, a3] st h = fk_ev d qL_law 811 [.ref x, a1, a2, a3] (.ref x :: st) h) ∧
  (∀ (d : Nat) (a0 a1 a2 : Value) (x : Int32) (st : List Value) (h : fk_H), fk_ev d qL_law 811 [a0, a1, a2, .int x] st h = fk_ev d qL_law 812 [a0, a1, a2, .int x] (.int x :: st) h) ∧
  (∀ (d : Nat) (L st : List Value) (h : fk_H), fk_ev d qL_law 812 L st h = fk_ev d qL_law 813 L (.int (nI 3) :: st) h) ∧
  (∀ (d : Nat) (L : List Value) (x y : Int32) (st : List Value) (h : fk_H), fk_ev d qL_law 813 L (.int y :: .int x :: st) h = fk_ev d qL_law 814 L (.int (x + y) :: st) h) ∧
  (∀ (d : Nat) (L st : List Value) (N : Nat) (y : Nat → Nat → Int32) (l : Nat → Nat → Int64) (i : Nat), i < N → N < 2 ^ 31 → fk_ev d qL_law 814 L (.int (nI i) :: .ref 0 :: st) (fk_E N y l) = fk_ev d qL_law 815 L (.int (y 0 i) :: st) (fk_E N y l)) ∧
  (∀ (d : Nat) (L : List Value) (x0 : Int32) (x1 : Int32) (x2 : Int32)  (N : Nat) (y : Nat → Nat → Int32) (l : Nat → Nat → Int64), fk_ev (d + 1) qL_law 815 L (.int x2 :: .int x1 :: .int x0 :: .ref 1 :: []) (fk_E N y l) = (fk_ev d qX11_chosen 0 [.ref 1, .int x0, .int x1, .int x2, .null, .null, .null] [] (fk_E N y l)).bind fun o => fk_ev (d + 1) qL_law 818 L (o.1.toList ++ []) o.2) ∧
  (∀ (d : Nat) (a0 a1 a3 : Value) (x : Nat) (st : List Value) (h : fk_H), fk_ev d qL_law 818 [a0, a1, .ref x, a3] st h = fk_ev d qL_law 819 [a0, a1, .ref x, a3] (.ref x :: st) h) ∧
  (∀ (d : Nat) (a1 a2 a3 : Value) (x : Nat) (st : List Value) (h : fk_H), fk_ev d qL_law 819 [.ref x, a1, a2, a3] st h = fk_ev d qL_law 820 [.ref x, a1, a2, a3] (.ref x :: st) h) ∧
  (∀ (d : Nat) (a0 a1 a2 : Value) (x : Int32) (st : List Value) (h : fk_H), fk_ev d qL_law 820 [a0, a1, a2, .int x] st h = fk_ev d qL_law 821 [a0, a1, a2, .int x] (.int x :: st) h) ∧
  (∀ (d : Nat) (L st : List Value) (h : fk_H), fk_ev d qL_law 821 L st h = fk_ev d qL_law 822 L (.int (nI 1) :: st) h) ∧
  (∀ (d : Nat) (L : List Value) (x y : Int32) (st : List Value) (h : fk_H), fk_ev d qL_law 822 L (.int y :: .int x :: st) h = fk_ev d qL_law 823 L (.int (x + y) :: st) h) ∧
  (∀ (d : Nat) (L st : List Value) (N : Nat) (y : Nat → Nat → Int32) (l : Nat → Nat → Int64) (i : Nat), i < N → N < 2 ^ 31 → fk_ev d qL_law 823 L (.int (nI i) :: .ref 0 :: st) (fk_E N y l) = fk_ev d qL_law 824 L (.int (y 0 i) :: st) (fk_E N y l)) ∧
  (∀ (d : Nat) (a1 a2 a3 : Value) (x : Nat) (st : List Value) (h : fk_H), fk_ev d qL_law 824 [.ref x, a1, a2, a3] st h = fk_ev d qL_law 825 [.ref x, a1, a2, a3] (.ref x :: st) h) ∧
  (∀ (d : Nat) (a0 a1 a2 : Value) (x : Int32) (st : List Value) (h : fk_H), fk_ev d qL_law 825 [a0, a1, a2, .int x] st h = fk_ev d qL_law 826 [a0, a1, a2, .int x] (.int x :: st) h) ∧
  (∀ (d : Nat) (L st : List Value) (h : fk_H), fk_ev d qL_law 826 L st h = fk_ev d qL_law 827 L (.int (nI 2) :: st) h) ∧
  (∀ (d : Nat) (L : List Value) (x y : Int32) (st : List Value) (h : fk_H), fk_ev d qL_law 827 L (.int y :: .int x :: st) h = fk_ev d qL_law 828 L (.int (x + y) :: st) h) ∧
  (∀ (d : Nat) (L st : List Value) (N : Nat) (y : Nat → Nat → Int32) (l : Nat → Nat → Int64) (i : Nat), i < N → N < 2 ^ 31 → fk_ev d qL_law 828 L (.int (nI i) :: .ref 0 :: st) (fk_E N y l) = fk_ev d qL_law 829 L (.int (y 0 i) :: st) (fk_E N y l)) ∧
  (∀ (d : Nat) (a1 a2 a3 : Value) (x : Nat) (st : List Value) (h : fk_H), fk_ev d qL_law 829 [.ref x, a1, a2, a3] st h = fk_ev d qL_law 830 [.ref x, a1, a2, a3] (.ref x :: st) h) ∧
  (∀ (d : Nat) (a0 a1 a2 : Value) (x : Int32) (st : List Value) (h : fk_H), fk_ev d qL_law 830 [a0, a1, a2, .int x] st h = fk_ev d qL_law 831 [a0, a1, a2, .int x] (.int x :: st) h) ∧
  (∀ (d : Nat) (L st : List Value) (h : fk_H), fk_ev d qL_law 831 L st h = fk_ev d qL_law 832 L (.int (nI 3) :: st) h) ∧
  (∀ (d : Nat) (L : List Value) (x y : Int32) (st : List Value) (h : fk_H), fk_ev d qL_law 832 L (.int y :: .int x :: st) h = fk_ev d qL_law 833 L (.int (x + y) :: st) h) ∧
  (∀ (d : Nat) (L st : List Value) (N : Nat) (y : Nat → Nat → Int32) (l : Nat → Nat → Int64) (i : Nat), i < N → N < 2 ^ 31 → fk_ev d qL_law 833 L (.int (nI i) :: .ref 0 :: st) (fk_E N y l) = fk_ev d qL_law 834 L (.int (y 0 i) :: st) (fk_E N y l)) ∧
  (∀ (d : Nat) (L : List Value) (x0 : Int32) (x1 : Int32) (x2 : Int32) (w0 : Value) (N : Nat) (y : Nat → Nat → Int32) (l : Nat → Nat → Int64), fk_ev (d + 1) qL_law 834 L (.int x2 :: .int x1 :: .int x0 :: .ref 246 :: [w0]) (fk_E N y l) = (fk_ev d qX12_chosen 0 [.ref 246, .int x0, .int x1, .int x2, .null, .null, .null] [] (fk_E N y l)).bind fun o => fk_ev (d + 1) qL_law 837 L (o.1.toList ++ [w0]) o.2) ∧
  (∀ (d : Nat) (L : List Value) (x y : Int32) (st : List Value) (h : fk_H), fk_ev d qL_law 837 L (.int y :: .int x :: st) h = if x = y then fk_ev d qL_law 1211 L st h else fk_ev d qL_law 840 L st h) ∧
  (∀ (d : Nat) (L st : List Value) (h : fk_H), fk_ev d qL_law 840 L st h = fk_ev d qL_law 841 L (.int (nI 0) :: st) h) ∧
  (∀ (d : Nat) (L : List Value) (h : fk_H), fk_ev d qL_law 841 L [.int (nI 0)] h = some (some (.int (nI 0)), h)) ∧
  (∀ (d : Nat) (L : List Value) (h : fk_H), fk_ev d qL_law 841 L [.int (nI 1)] h = some (some (.int (nI 1)), h)) ∧
  (∀ (d : Nat) (L : List Value) (p : Prop) [Decidable p] (h : fk_H), fk_ev d qL_law 841 L [.int (fk_b p)] h = some (some (.int (fk_b p)), h)) ∧
  (∀ (d : Nat) (L : List Value) (x : Int32) (h : fk_H), (x = nI 0 ∨ x = nI 1) → fk_ev d qL_law 841 L [.int x] h = some (some (.int x), h)) ∧
  (∀ (d : Nat) (a0 a2 a3 : Value) (x : Nat) (st : List Value) (h : fk_H), fk_ev d qL_law 842 [a0, .ref x, a2, a3] st h = fk_ev d qL_law 843 [a0, .ref x, a2, a3] (.ref x :: st) h) ∧
  (∀ (d : Nat) (a1 a2 a3 : Value) (x : Nat) (st : List Value) (h : fk_H), fk_ev d qL_law 843 [.ref x, a1, a2, a3] st h = fk_ev d qL_law 844 [.ref x, a1, a2, a3] (.ref x :: st) h) ∧
  (∀ (d : Nat) (a0 a1 a2 : Value) (x : Int32) (st : List Value) (h : fk_H), fk_ev d qL_law 844 [a0, a1, a2, .int x] st h = fk_ev d qL_law 845 [a0, a1, a2, .int x] (.int x :: st) h) ∧
  (∀ (d : Nat) (L st : List Value) (h : fk_H), fk_ev d qL_law 845 L st h = fk_ev d qL_law 846 L (.int (nI 1) :: st) h) ∧
  (∀ (d : Nat) (L : List Value) (x y : Int32) (st : List Value) (h : fk_H), fk_ev d qL_law 846 L (.int y :: .int x :: st) h = fk_ev d qL_law 847 L (.int (x + y) :: st) h) ∧
  (∀ (d : Nat) (L st : List Value) (N : Nat) (y : Nat → Nat → Int32) (l : Nat → Nat → Int64) (i : Nat), i < N → N < 2 ^ 31 → fk_ev d qL_law 847 L (.int (nI i) :: .ref 0 :: st) (fk_E N y l) = fk_ev d qL_law 848 L (.int (y 0 i) :: st) (fk_E N y l)) ∧
  (∀ (d : Nat) (a1 a2 a3 : Value) (x : Nat) (st : List Value) (h : fk_H), fk_ev d qL_law 848 [.ref x, a1, a2, a3] st h = fk_ev d qL_law 849 [.ref x, a1, a2, a3] (.ref x :: st) h) ∧
  (∀ (d : Nat) (a0 a1 a2 : Value) (x : Int32) (st : List Value) (h : fk_H), fk_ev d qL_law 849 [a0, a1, a2, .int x] st h = fk_ev d qL_law 850 [a0, a1, a2, .int x] (.int x :: st) h) ∧
  (∀ (d : Nat) (L st : List Value) (h : fk_H), fk_ev d qL_law 850 L st h = fk_ev d qL_law 851 L (.int (nI 2) :: st) h) ∧
  (∀ (d : Nat) (L : List Value) (x y : Int32) (st : List Value) (h : fk_H), fk_ev d qL_law 851 L (.int y :: .int x :: st) h = fk_ev d qL_law 852 L (.int (x + y) :: st) h) ∧
  (∀ (d : Nat) (L st : List Value) (N : Nat) (y : Nat → Nat → Int32) (l : Nat → Nat → Int64) (i : Nat), i < N → N < 2 ^ 31 → fk_ev d qL_law 852 L (.int (nI i) :: .ref 0 :: st) (fk_E N y l) = fk_ev d qL_law 853 L (.int (y 0 i) :: st) (fk_E N y l)) ∧
  (∀ (d : Nat) (L : List Value) (x0 : Int32) (x1 : Int32)  (N : Nat) (y : Nat → Nat → Int32) (l : Nat → Nat → Int64), fk_ev (d + 1) qL_law 853 L (.int x1 :: .int x0 :: .ref 1 :: []) (fk_E N y l) = (fk_ev d qX11_whoWas 0 [.ref 1, .int x0, .int x1, .null, .null, .null, .null] [] (fk_E N y l)).bind fun o => fk_ev (d + 1) qL_law 856 L (o.1.toList ++ []) o.2) ∧
  (∀ (d : Nat) (a0 a1 a3 : Value) (x : Nat) (st : List Value) (h : fk_H), fk_ev d qL_law 856 [a0, a1, .ref x, a3] st h = fk_ev d qL_law 857 [a0, a1, .ref x, a3] (.ref x :: st) h) ∧
  (∀ (d : Nat) (a1 a2 a3 : Value) (x : Nat) (st : List Value) (h : fk_H), fk_ev d qL_law 857 [.ref x, a1, a2, a3] st h = fk_ev d qL_law 858 [.ref x, a1, a2, a3] (.ref x :: st) h) ∧
  (∀ (d : Nat) (a0 a1 a2 : Value) (x : Int32) (st : List Value) (h : fk_H), fk_ev d qL_law 858 [a0, a1, a2, .int x] st h = fk_ev d qL_law 859 [a0, a1, a2, .int x] (.int x :: st) h) ∧
  (∀ (d : Nat) (L st : List Value) (h : fk_H), fk_ev d qL_law 859 L st h = fk_ev d qL_law 860 L (.int (nI 1) :: st) h) ∧
  (∀ (d : Nat) (L : List Value) (x y : Int32) (st : List Value) (h : fk_H), fk_ev d qL_law 860 L (.int y :: .int x :: st) h = fk_ev d qL_law 861 L (.int (x + y) :: st) h) ∧
  (∀ (d : Nat) (L st : List Value) (N : Nat) (y : Nat → Nat → Int32) (l : Nat → Nat → Int64) (i : Nat), i < N → N < 2 ^ 31 → fk_ev d qL_law 861 L (.int (nI i) :: .ref 0 :: st) (fk_E N y l) = fk_ev d qL_law 862 L (.int (y 0 i) :: st) (fk_E N y l)) ∧
  (∀ (d : Nat) (a1 a2 a3 : Value) (x : Nat) (st : List Value) (h : fk_H), fk_ev d qL_law 862 [.ref x, a1, a2, a3] st h = fk_ev d qL_law 863 [.ref x, a1, a2, a3] (.ref x :: st) h) ∧
  (∀ (d : Nat) (a0 a1 a2 : Value) (x : Int32) (st : List Value) (h : fk_H), fk_ev d qL_law 863 [a0, a1, a2, .int x] st h = fk_ev d qL_law 864 [a0, a1, a2, .int x] (.int x :: st) h) ∧
  (∀ (d : Nat) (L st : List Value) (h : fk_H), fk_ev d qL_law 864 L st h = fk_ev d qL_law 865 L (.int (nI 2) :: st) h) ∧
  (∀ (d : Nat) (L : List Value) (x y : Int32) (st : List Value) (h : fk_H), fk_ev d qL_law 865 L (.int y :: .int x :: st) h = fk_ev d qL_law 866 L (.int (x + y) :: st) h) ∧
  (∀ (d : Nat) (L st : List Value) (N : Nat) (y : Nat → Nat → Int32) (l : Nat → Nat → Int64) (i : Nat), i < N → N < 2 ^ 31 → fk_ev d qL_law 866 L (.int (nI i) :: .ref 0 :: st) (fk_E N y l) = fk_ev d qL_law 867 L (.int (y 0 i) :: st) (fk_E N y l)) ∧
  (∀ (d : Nat) (L : List Value) (x0 : Int32) (x1 : Int32) (w0 : Value) (N : Nat) (y : Nat → Nat → Int32) (l : Nat → Nat → Int64), fk_ev (d + 1) qL_law 867 L (.int x1 :: .int x0 :: .ref 246 :: [w0]) (fk_E N y l) = (fk_ev d qX12_whoWas 0 [.ref 246, .int x0, .int x1, .null, .null, .null] [] (fk_E N y l)).bind fun o => fk_ev (d + 1) qL_law 870 L (o.1.toList ++ [w0]) o.2) ∧
  (∀ (d : Nat) (L : List Value) (x y : Int32) (st : List Value) (h : fk_H), fk_ev d qL_law 870 L (.int y :: .int x :: st) h = if x = y then fk_ev d qL_law 1211 L st h else fk_ev d qL_law 873 L st h) ∧
  (∀ (d : Nat) (L st : List Value) (h : fk_H), fk_ev d qL_law 873 L st h = fk_ev d qL_law 874 L (.int (nI 0) :: st) h) ∧
  (∀ (d : Nat) (L : List Value) (h : fk_H), fk_ev d qL_law 874 L [.int (nI 0)] h = some (some (.int (nI 0)), h)) ∧
  (∀ (d : Nat) (L : List Value) (h : fk_H), fk_ev d qL_law 874 L [.int (nI 1)] h = some (some (.int (nI 1)), h)) ∧
  (∀ (d : Nat) (L : List Value) (p : Prop) [Decidable p] (h : fk_H), fk_ev d qL_law 874 L [.int (fk_b p)] h = some (some (.int (fk_b p)), h)) ∧
  (∀ (d : Nat) (L : List Value) (x : Int32) (h : fk_H), (x = nI 0 ∨ x = nI 1) → fk_ev d qL_law 874 L [.int x] h = some (some (.int x), h)) ∧
  (∀ (d : Nat) (a0 a2 a3 : Value) (x : Nat) (st : List Value) (h : fk_H), fk_ev d qL_law 875 [a0, .ref x, a2, a3] st h = fk_ev d qL_law 876 [a0, .ref x, a2, a3] (.ref x :: st) h) ∧
  (∀ (d : Nat) (a1 a2 a3 : Value) (x : Nat) (st : List Value) (h : fk_H), fk_ev d qL_law 876 [.ref x, a1, a2, a3] st h = fk_ev d qL_law 877 [.ref x, a1, a2, a3] (.ref x :: st) h) ∧
  (∀ (d : Nat) (a0 a1 a2 : Value) (x : Int32) (st : List Value) (h : fk_H), fk_ev d qL_law 877 [a0, a1, a2, .int x] st h = fk_ev d qL_law 878 [a0, a1, a2, .int x] (.int x :: st) h) ∧
  (∀ (d : Nat) (L st : List Value) (h : fk_H), fk_ev d qL_law 878 L st h = fk_ev d qL_law 879 L (.int (nI 1) :: st) h) ∧
  (∀ (d : Nat) (L : List Value) (x y : Int32) (st : List Value) (h : fk_H), fk_ev d qL_law 879 L (.int y :: .int x :: st) h = fk_ev d qL_law 880 L (.int (x + y) :: st) h) ∧
  (∀ (d : Nat) (L st : List Value) (N : Nat) (y : Nat → Nat → Int32) (l : Nat → Nat → Int64) (i : Nat), i < N → N < 2 ^ 31 → fk_ev d qL_law 880 L (.int (nI i) :: .ref 0 :: st) (fk_E N y l) = fk_ev d qL_law 881 L (.int (y 0 i) :: st) (fk_E N y l)) ∧
  (∀ (d : Nat) (L : List Value) (x0 : Int32)  (N : Nat) (y : Nat → Nat → Int32) (l : Nat → Nat → Int64), fk_ev (d + 1) qL_law 881 L (.int x0 :: .ref 1 :: []) (fk_E N y l) = (fk_ev d qX11_meet 0 [.ref 1, .int x0, .null, .null, .null] [] (fk_E N y l)).bind fun o => fk_ev (d + 1) qL_law 884 L (o.1.toList ++ []) o.2) ∧
  (∀ (d : Nat) (a0 a1 a3 : Value) (x : Nat) (st : List Value) (h : fk_H), fk_ev d qL_law 884 [a0, a1, .ref x, a3] st h = fk_ev d qL_law 885 [a0, a1, .ref x, a3] (.ref x :: st) h) ∧
  (∀ (d : Nat) (a1 a2 a3 : Value) (x : Nat) (st : List Value) (h : fk_H), fk_ev d qL_law 885 [.ref x, a1, a2, a3] st h = fk_ev d qL_law 886 [.ref x, a1, a2, a3] (.ref x :: st) h) ∧
  (∀ (d : Nat) (a0 a1 a2 : Value) (x : Int32) (st : List Value) (h : fk_H), fk_ev d qL_law 886 [a0, a1, a2, .int x] st h = fk_ev d qL_law 887 [a0, a1, a2, .int x] (.int x :: st) h) ∧
  (∀ (d : Nat) (L st : List Value) (h : fk_H), fk_ev d qL_law 887 L st h = fk_ev d qL_law 888 L (.int (nI 1) :: st) h) ∧
  (∀ (d : Nat) (L : List Value) (x y : Int32) (st : List Value) (h : fk_H), fk_ev d qL_law 888 L (.int y :: .int x :: st) h = fk_ev d qL_law 889 L (.int (x + y) :: st) h) ∧
  (∀ (d : Nat) (L st : List Value) (N : Nat) (y : Nat → Nat → Int32) (l : Nat → Nat → Int64) (i : Nat), i < N → N < 2 ^ 31 → fk_ev d qL_law 889 L (.int (nI i) :: .ref 0 :: st) (fk_E N y l) = fk_ev d qL_law 890 L (.int (y 0 i) :: st) (fk_E N y l)) ∧
  (∀ (d : Nat) (L : List Value) (x0 : Int32) (w0 : Value) (N : Nat) (y : Nat → Nat → Int32) (l : Nat → Nat → Int64), fk_ev (d + 1) qL_law 890 L (.int x0 :: .ref 246 :: [w0]) (fk_E N y l) = (fk_ev d qX12_meet 0 [.ref 246, .int x0, .null, .null] [] (fk_E N y l)).bind fun o => fk_ev (d + 1) qL_law 893 L (o.1.toList ++ [w0]) o.2) ∧
  (∀ (d : Nat) (L : List Value) (x y : Int32) (st : List Value) (h : fk_H), fk_ev d qL_law 893 L (.int y :: .int x :: st) h = if x = y then fk_ev d qL_law 1211 L st h else fk_ev d qL_law 896 L st h) ∧
  (∀ (d : Nat) (L st : List Value) (h : fk_H), fk_ev d qL_law 896 L st h = fk_ev d qL_law 897 L (.int (nI 0) :: st) h) ∧
  (∀ (d : Nat) (L : List Value) (h : fk_H), fk_ev d qL_law 897 L [.int (nI 0)] h = some (some (.int (nI 0)), h)) ∧
  (∀ (d : Nat) (L : List Value) (h : fk_H), fk_ev d qL_law 897 L [.int (nI 1)] h = some (some (.int (nI 1)), h)) ∧
  (∀ (d : Nat) (L : List Value) (p : Prop) [Decidable p] (h : fk_H), fk_ev d qL_law 897 L [.int (fk_b p)] h = some (some (.int (fk_b p)), h)) ∧
  (∀ (d : Nat) (L : List Value) (x : Int32) (h : fk_H), (x = nI 0 ∨ x = nI 1) → fk_ev d qL_law 897 L [.int x] h = some (some (.int x), h)) ∧
  (∀ (d : Nat) (a0 a2 a3 : Value) (x : Nat) (st : List Value) (h : fk_H), fk_ev d qL_law 898 [a0, .ref x, a2, a3] st h = fk_ev d qL_law 899 [a0, .ref x, a2, a3] (.ref x :: st) h) ∧
  (∀ (d : Nat) (a1 a2 a3 : Value) (x : Nat) (st : List Value) (h : fk_H), fk_ev d qL_law 899 [.ref x, a1, a2, a3] st h = fk_ev d qL_law 900 [.ref x, a1, a2, a3] (.ref x :: st) h) ∧
  (∀ (d : Nat) (a0 a1 a2 : Value) (x : Int32) (st : List Value) (h : fk_H), fk_ev d qL_law 900 [a0, a1, a2, .int x] st h = fk_ev d qL_law 901 [a0, a1, a2, .int x] (.int x :: st) h) ∧
  (∀ (d : Nat) (L st : List Value) (h : fk_H), fk_ev d qL_law 901 L st h = fk_ev d qL_law 902 L (.int (nI 1) :: st) h) ∧
  (∀ (d : Nat) (L : List Value) (x y : Int32) (st : List Value) (h : fk_H), fk_ev d qL_law 902 L (.int y :: .int x :: st) h = fk_ev d qL_law 903 L (.int (x + y) :: st) h) ∧
  (∀ (d : Nat) (L st : List Value) (N : Nat) (y : Nat → Nat → Int32) (l : Nat → Nat → Int64) (i : Nat), i < N → N < 2 ^ 31 → fk_ev d qL_law 903 L (.int (nI i) :: .ref 0 :: st) (fk_E N y l) = fk_ev d qL_law 904 L (.int (y 0 i) :: st) (fk_E N y l)) ∧
  (∀ (d : Nat) (L : List Value) (x0 : Int32)  (N : Nat) (y : Nat → Nat → Int32) (l : Nat → Nat → Int64), fk_ev (d + 1) qL_law 904 L (.int x0 :: .ref 1 :: []) (fk_E N y l) = (fk_ev d qX11_built 0 [.ref 1, .int x0, .null, .null, .null, .null] [] (fk_E N y l)).bind fun o => fk_ev (d + 1) qL_law 907 L (o.1.toList ++ []) o.2) ∧
  (∀ (d : Nat) (a0 a1 a3 : Value) (x : Nat) (st : List Value) (h : fk_H), fk_ev d qL_law 907 [a0, a1, .ref x, a3] st h = fk_ev d qL_law 908 [a0, a1, .ref x, a3] (.ref x :: st) h) ∧
  (∀ (d : Nat) (a1 a2 a3 : Value) (x : Nat) (st : List Value) (h : fk_H), fk_ev d qL_law 908 [.ref x, a1, a2, a3] st h = fk_ev d qL_law 909 [.ref x, a1, a2, a3] (.ref x :: st) h) ∧
  (∀ (d : Nat) (a0 a1 a2 : Value) (x : Int32) (st : List Value) (h : fk_H), fk_ev d qL_law 909 [a0, a1, a2, .int x] st h = fk_ev d qL_law 910 [a0, a1, a2, .int x] (.int x :: st) h) ∧
  (∀ (d : Nat) (L st : List Value) (h : fk_H), fk_ev d qL_law 910 L st h = fk_ev d qL_law 911 L (.int (nI 1) :: st) h) ∧
  (∀ (d : Nat) (L : List Value) (x y : Int32) (st : List Value) (h : fk_H), fk_ev d qL_law 911 L (.int y :: .int x :: st) h = fk_ev d qL_law 912 L (.int (x + y) :: st) h) ∧
  (∀ (d : Nat) (L st : List Value) (N : Nat) (y : Nat → Nat → Int32) (l : Nat → Nat → Int64) (i : Nat), i < N → N < 2 ^ 31 → fk_ev d qL_law 912 L (.int (nI i) :: .ref 0 :: st) (fk_E N y l) = fk_ev d qL_law 913 L (.int (y 0 i) :: st) (fk_E N y l)) ∧
  (∀ (d : Nat) (L : List Value) (x0 : Int32) (w0 : Value) (N : Nat) (y : Nat → Nat → Int32) (l : Nat → Nat → Int64), fk_ev (d + 1) qL_law 913 L (.int x0 :: .ref 246 :: [w0]) (fk_E N y l) = (fk_ev d qX12_built 0 [.ref 246, .int x0, .null, .null, .null, .null, .null, .null] [] (fk_E N y l)).bind fun o => fk_ev (d + 1) qL_law 916 L (o.1.toList ++ [w0]) o.2) ∧
  (∀ (d : Nat) (L : List Value) (x y : Int32) (st : List Value) (h : fk_H), fk_ev d qL_law 916 L (.int y :: .int x :: st) h = if x = y then fk_ev d qL_law 1211 L st h else fk_ev d qL_law 919 L st h) ∧
  (∀ (d : Nat) (L st : List Value) (h : fk_H), fk_ev d qL_law 919 L st h = fk_ev d qL_law 920 L (.int (nI 0) :: st) h) ∧
  (∀ (d : Nat) (L : List Value) (h : fk_H), fk_ev d qL_law 920 L [.int (nI 0)] h = some (some (.int (nI 0)), h)) ∧
  (∀ (d : Nat) (L : List Value) (h : fk_H), fk_ev d qL_law 920 L [.int (nI 1)] h = some (some (.int (nI 1)), h)) ∧
  (∀ (d : Nat) (L : List Value) (p : Prop) [Decidable p] (h : fk_H), fk_ev d qL_law 920 L [.int (fk_b p)] h = some (some (.int (fk_b p)), h)) ∧
  (∀ (d : Nat) (L : List Value) (x : Int32) (h : fk_H), (x = nI 0 ∨ x = nI 1) → fk_ev d qL_law 920 L [.int x] h = some (some (.int x), h)) ∧
  (∀ (d : Nat) (a0 a2 a3 : Value) (x : Nat) (st : List Value) (h : fk_H), fk_ev d qL_law 921 [a0, .ref x, a2, a3] st h = fk_ev d qL_law 922 [a0, .ref x, a2, a3] (.ref x :: st) h) ∧
  (∀ (d : Nat) (a1 a2 a3 : Value) (x : Nat) (st : List Value) (h : fk_H), fk_ev d qL_law 922 [.ref x, a1, a2, a3] st h = fk_ev d qL_law 923 [.ref x, a1, a2, a3] (.ref x :: st) h) ∧
  (∀ (d : Nat) (a0 a1 a2 : Value) (x : Int32) (st : List Value) (h : fk_H), fk_ev d qL_law 923 [a0, a1, a2, .int x] st h = fk_ev d qL_law 924 [a0, a1, a2, .int x] (.int x :: st) h) ∧
  (∀ (d : Nat) (L st : List Value) (h : fk_H), fk_ev d qL_law 924 L st h = fk_ev d qL_law 925 L (.int (nI 1) :: st) h) ∧
  (∀ (d : Nat) (L : List Value) (x y : Int32) (st : List Value) (h : fk_H), fk_ev d qL_law 925 L (.int y :: .int x :: st) h = fk_ev d qL_law 926 L (.int (x + y) :: st) h) ∧
  (∀ (d : Nat) (L st : List Value) (N : Nat) (y : Nat → Nat → Int32) (l : Nat → Nat → Int64) (i : Nat), i < N → N < 2 ^ 31 → fk_ev d qL_law 926 L (.int (nI i) :: .ref 0 :: st) (fk_E N y l) = fk_ev d qL_law 927 L (.int (y 0 i) :: st) (fk_E N y l)) ∧
  (∀ (d : Nat) (a1 a2 a3 : Value) (x : Nat) (st : List Value) (h : fk_H), fk_ev d qL_law 927 [.ref x, a1, a2, a3] st h = fk_ev d qL_law 928 [.ref x, a1, a2, a3] (.ref x :: st) h) ∧
  (∀ (d : Nat) (a0 a1 a2 : Value) (x : Int32) (st : List Value) (h : fk_H), fk_ev d qL_law 928 [a0, a1, a2, .int x] st h = fk_ev d qL_law 929 [a0, a1, a2, .int x] (.int x :: st) h) ∧
  (∀ (d : Nat) (L st : List Value) (h : fk_H), fk_ev d qL_law 929 L st h = fk_ev d qL_law 930 L (.int (nI 2) :: st) h) ∧
  (∀ (d : Nat) (L : List Value) (x y : Int32) (st : List Value) (h : fk_H), fk_ev d qL_law 930 L (.int y :: .int x :: st) h = fk_ev d qL_law 931 L (.int (x + y) :: st) h) ∧
  (∀ (d : Nat) (L st : List Value) (N : Nat) (y : Nat → Nat → Int32) (l : Nat → Nat → Int64) (i : Nat), i < N → N < 2 ^ 31 → fk_ev d qL_law 931 L (.int (nI i) :: .ref 0 :: st) (fk_E N y l) = fk_ev d qL_law 932 L (.int (y 0 i) :: st) (fk_E N y l)) ∧
  (∀ (d : Nat) (a1 a2 a3 : Value) (x : Nat) (st : List Value) (h : fk_H), fk_ev d qL_law 932 [.ref x, a1, a2, a3] st h = fk_ev d qL_law 933 [.ref x, a1, a2, a3] (.ref x :: st) h) ∧
  (∀ (d : Nat) (a0 a1 a2 : Value) (x : Int32) (st : List Value) (h : fk_H), fk_ev d qL_law 933 [a0, a1, a2, .int x] st h = fk_ev d qL_law 934 [a0, a1, a2, .int x] (.int x :: st) h) ∧
  (∀ (d : Nat) (L st : List Value) (h : fk_H), fk_ev d qL_law 934 L st h = fk_ev d qL_law 935 L (.int (nI 3) :: st) h) ∧
  (∀ (d : Nat) (L : List Value) (x y : Int32) (st : List Value) (h : fk_H), fk_ev d qL_law 935 L (.int y :: .int x :: st) h = fk_ev d qL_law 936 L (.int (x + y) :: st) h) ∧
  (∀ (d : Nat) (L st : List Value) (N : Nat) (y : Nat → Nat → Int32) (l : Nat → Nat → Int64) (i : Nat), i < N → N < 2 ^ 31 → fk_ev d qL_law 936 L (.int (nI i) :: .ref 0 :: st) (fk_E N y l) = fk_ev d qL_law 937 L (.int (y 0 i) :: st) (fk_E N y l)) ∧
  (∀ (d : Nat) (L : List Value) (x0 : Int32) (x1 : Int32) (x2 : Int32)  (N : Nat) (y : Nat → Nat → Int32) (l : Nat → Nat → Int64), fk_ev (d + 1) qL_law 937 L (.int x2 :: .int x1 :: .int x0 :: .ref 1 :: []) (fk_E N y l) = (fk_ev d qX11_closed 0 [.ref 1, .int x0, .int x1, .int x2, .null] [] (fk_E N y l)).bind fun o => fk_ev (d + 1) qL_law 940 L (o.1.toList ++ []) o.2) ∧
  (∀ (d : Nat) (a0 a1 a3 : Value) (x : Nat) (st : List Value) (h : fk_H), fk_ev d qL_law 940 [a0, a1, .ref x, a3] st h = fk_ev d qL_law 941 [a0, a1, .ref x, a3] (.ref x :: st) h) ∧
  (∀ (d : Nat) (a1 a2 a3 : Value) (x : Nat) (st : List Value) (h : fk_H), fk_ev d qL_law 941 [.ref x, a1, a2, a3] st h = fk_ev d qL_law 942 [.ref x, a1, a2, a3] (.ref x :: st) h) ∧
  (∀ (d : Nat) (a0 a1 a2 : Value) (x : Int32) (st : List Value) (h : fk_H), fk_ev d qL_law 942 [a0, a1, a2, .int x] st h = fk_ev d qL_law 943 [a0, a1, a2, .int x] (.int x :: st) h) ∧
  (∀ (d : Nat) (L st : List Value) (h : fk_H), fk_ev d qL_law 943 L st h = fk_ev d qL_law 944 L (.int (nI 1) :: st) h) ∧
  (∀ (d : Nat) (L : List Value) (x y : Int32) (st : List Value) (h : fk_H), fk_ev d qL_law 944 L (.int y :: .int x :: st) h = fk_ev d qL_law 945 L (.int (x + y) :: st) h) ∧
  (∀ (d : Nat) (L st : List Value) (N : Nat) (y : Nat → Nat → Int32) (l : Nat → Nat → Int64) (i : Nat), i < N → N < 2 ^ 31 → fk_ev d qL_law 945 L (.int (nI i) :: .ref 0 :: st) (fk_E N y l) = fk_ev d qL_law 946 L (.int (y 0 i) :: st) (fk_E N y l)) ∧
  (∀ (d : Nat) (a1 a2 a3 : Value) (x : Nat) (st : List Value) (h : fk_H), fk_ev d qL_law 946 [.ref x, a1, a2, a3] st h = fk_ev d qL_law 947 [.ref x, a1, a2, a3] (.ref x :: st) h) ∧
  (∀ (d : Nat) (a0 a1 a2 : Value) (x : Int32) (st : List Value) (h : fk_H), fk_ev d qL_law 947 [a0, a1, a2, .int x] st h = fk_ev d qL_law 948 [a0, a1, a2, .int x] (.int x :: st) h) ∧
  (∀ (d : Nat) (L st : List Value) (h : fk_H), fk_ev d qL_law 948 L st h = fk_ev d qL_law 949 L (.int (nI 2) :: st) h) ∧
  (∀ (d : Nat) (L : List Value) (x y : Int32) (st : List Value) (h : fk_H), fk_ev d qL_law 949 L (.int y :: .int x :: st) h = fk_ev d qL_law 950 L (.int (x + y) :: st) h) ∧
  (∀ (d : Nat) (L st : List Value) (N : Nat) (y : Nat → Nat → Int32) (l : Nat → Nat → Int64) (i : Nat), i < N → N < 2 ^ 31 → fk_ev d qL_law 950 L (.int (nI i) :: .ref 0 :: st) (fk_E N y l) = fk_ev d qL_law 951 L (.int (y 0 i) :: st) (fk_E N y l)) ∧
  (∀ (d : Nat) (a1 a2 a3 : Value) (x : Nat) (st : List Value) (h : fk_H), fk_ev d qL_law 951 [.ref x, a1, a2, a3] st h = fk_ev d qL_law 952 [.ref x, a1, a2, a3] (.ref x :: st) h) ∧
  (∀ (d : Nat) (a0 a1 a2 : Value) (x : Int32) (st : List Value) (h : fk_H), fk_ev d qL_law 952 [a0, a1, a2, .int x] st h = fk_ev d qL_law 953 [a0, a1, a2, .int x] (.int x :: st) h) ∧
  (∀ (d : Nat) (L st : List Value) (h : fk_H), fk_ev d qL_law 953 L st h = fk_ev d qL_law 954 L (.int (nI 3) :: st) h) ∧
  (∀ (d : Nat) (L : List Value) (x y : Int32) (st : List Value) (h : fk_H), fk_ev d qL_law 954 L (.int y :: .int x :: st) h = fk_ev d qL_law 955 L (.int (x + y) :: st) h) ∧
  (∀ (d : Nat) (L st : List Value) (N : Nat) (y : Nat → Nat → Int32) (l : Nat → Nat → Int64) (i : Nat), i < N → N < 2 ^ 31 → fk_ev d qL_law 955 L (.int (nI i) :: .ref 0 :: st) (fk_E N y l) = fk_ev d qL_law 956 L (.int (y 0 i) :: st) (fk_E N y l)) ∧
  (∀ (d : Nat) (L : List Value) (x0 : Int32) (x1 : Int32) (x2 : Int32) (w0 : Value) (N : Nat) (y : Nat → Nat → Int32) (l : Nat → Nat → Int64), fk_ev (d + 1) qL_law 956 L (.int x2 :: .int x1 :: .int x0 :: .ref 246 :: [w0]) (fk_E N y l) = (fk_ev d qX12_closed 0 [.ref 246, .int x0, .int x1, .int x2, .null, .null, .null] [] (fk_E N y l)).bind fun o => fk_ev (d + 1) qL_law 959 L (o.1.toList ++ [w0]) o.2) ∧
  (∀ (d : Nat) (L : List Value) (x y : Int32) (st : List Value) (h : fk_H), fk_ev d qL_law 959 L (.int y :: .int x :: st) h = if x = y then fk_ev d qL_law 1211 L st h else fk_ev d qL_law 962 L st h) ∧
  (∀ (d : Nat) (L st : List Value) (h : fk_H), fk_ev d qL_law 962 L st h = fk_ev d qL_law 963 L (.int (nI 0) :: st) h) ∧
  (∀ (d : Nat) (L : List Value) (h : fk_H), fk_ev d qL_law 963 L [.int (nI 0)] h = some (some (.int (nI 0)), h)) ∧
  (∀ (d : Nat) (L : List Value) (h : fk_H), fk_ev d qL_law 963 L [.int (nI 1)] h = some (some (.int (nI 1)), h)) ∧
  (∀ (d : Nat) (L : List Value) (p : Prop) [Decidable p] (h : fk_H), fk_ev d qL_law 963 L [.int (fk_b p)] h = some (some (.int (fk_b p)), h)) ∧
  (∀ (d : Nat) (L : List Value) (x : Int32) (h : fk_H), (x = nI 0 ∨ x = nI 1) → fk_ev d qL_law 963 L [.int x] h = some (some (.int x), h)) ∧
  (∀ (d : Nat) (a0 a2 a3 : Value) (x : Nat) (st : List Value) (h : fk_H), fk_ev d qL_law 964 [a0, .ref x, a2, a3] st h = fk_ev d qL_law 965 [a0, .ref x, a2, a3] (.ref x :: st) h) ∧
  (∀ (d : Nat) (a1 a2 a3 : Value) (x : Nat) (st : List Value) (h : fk_H), fk_ev d qL_law 965 [.ref x, a1, a2, a3] st h = fk_ev d qL_law 966 [.ref x, a1, a2, a3] (.ref x :: st) h) ∧
  (∀ (d : Nat) (a0 a1 a2 : Value) (x : Int32) (st : List Value) (h : fk_H), fk_ev d qL_law 966 [a0, a1, a2, .int x] st h = fk_ev d qL_law 967 [a0, a1, a2, .int x] (.int x :: st) h) ∧
  (∀ (d : Nat) (L st : List Value) (h : fk_H), fk_ev d qL_law 967 L st h = fk_ev d qL_law 968 L (.int (nI 1) :: st) h) ∧
  (∀ (d : Nat) (L : List Value) (x y : Int32) (st : List Value) (h : fk_H), fk_ev d qL_law 968 L (.int y :: .int x :: st) h = fk_ev d qL_law 969 L (.int (x + y) :: st) h) ∧
  (∀ (d : Nat) (L st : List Value) (N : Nat) (y : Nat → Nat → Int32) (l : Nat → Nat → Int64) (i : Nat), i < N → N < 2 ^ 31 → fk_ev d qL_law 969 L (.int (nI i) :: .ref 0 :: st) (fk_E N y l) = fk_ev d qL_law 970 L (.int (y 0 i) :: st) (fk_E N y l)) ∧
  (∀ (d : Nat) (a1 a2 a3 : Value) (x : Nat) (st : List Value) (h : fk_H), fk_ev d qL_law 970 [.ref x, a1, a2, a3] st h = fk_ev d qL_law 971 [.ref x, a1, a2, a3] (.ref x :: st) h) ∧
  (∀ (d : Nat) (a0 a1 a2 : Value) (x : Int32) (st : List Value) (h : fk_H), fk_ev d qL_law 971 [a0, a1, a2, .int x] st h = fk_ev d qL_law 972 [a0, a1, a2, .int x] (.int x :: st) h) ∧
  (∀ (d : Nat) (L st : List Value) (h : fk_H), fk_ev d qL_law 972 L st h = fk_ev d qL_law 973 L (.int (nI 2) :: st) h) ∧
  (∀ (d : Nat) (L : List Value) (x y : Int32) (st : List Value) (h : fk_H), fk_ev d qL_law 973 L (.int y :: .int x :: st) h = fk_ev d qL_law 974 L (.int (x + y) :: st) h) ∧
  (∀ (d : Nat) (L st : List Value) (N : Nat) (y : Nat → Nat → Int32) (l : Nat → Nat → Int64) (i : Nat), i < N → N < 2 ^ 31 → fk_ev d qL_law 974 L (.int (nI i) :: .ref 0 :: st) (fk_E N y l) = fk_ev d qL_law 975 L (.int (y 0 i) :: st) (fk_E N y l)) ∧
  (∀ (d : Nat) (L : List Value) (x0 : Int32) (x1 : Int32)  (N : Nat) (y : Nat → Nat → Int32) (l : Nat → Nat → Int64), fk_ev (d + 1) qL_law 975 L (.int x1 :: .int x0 :: .ref 1 :: []) (fk_E N y l) = (fk_ev d qX11_history 0 [.ref 1, .int x0, .int x1, .null, .null] [] (fk_E N y l)).bind fun o => fk_ev (d + 1) qL_law 978 L (o.1.toList ++ []) o.2) ∧
  (∀ (d : Nat) (a0 a1 a3 : Value) (x : Nat) (st : List Value) (h : fk_H), fk_ev d qL_law 978 [a0, a1, .ref x, a3] st h = fk_ev d qL_law 979 [a0, a1, .ref x, a3] (.ref x :: st) h) ∧
  (∀ (d : Nat) (a1 a2 a3 : Value) (x : Nat) (st : List Value) (h : fk_H), fk_ev d qL_law 979 [.ref x, a1, a2, a3] st h = fk_ev d qL_law 980 [.ref x, a1, a2, a3] (.ref x :: st) h) ∧
  (∀ (d : Nat) (a0 a1 a2 : Value) (x : Int32) (st : List Value) (h : fk_H), fk_ev d qL_law 980 [a0, a1, a2, .int x] st h = fk_ev d qL_law 981 [a0, a1, a2, .int x] (.int x :: st) h) ∧
  (∀ (d : Nat) (L st : List Value) (h : fk_H), fk_ev d qL_law 981 L st h = fk_ev d qL_law 982 L (.int (nI 1) :: st) h) ∧
  (∀ (d : Nat) (L : List Value) (x y : Int32) (st : List Value) (h : fk_H), fk_ev d qL_law 982 L (.int y :: .int x :: st) h = fk_ev d qL_law 983 L (.int (x + y) :: st) h) ∧
  (∀ (d : Nat) (L st : List Value) (N : Nat) (y : Nat → Nat → Int32) (l : Nat → Nat → Int64) (i : Nat), i < N → N < 2 ^ 31 → fk_ev d qL_law 983 L (.int (nI i) :: .ref 0 :: st) (fk_E N y l) = fk_ev d qL_law 984 L (.int (y 0 i) :: st) (fk_E N y l)) ∧
  (∀ (d : Nat) (a1 a2 a3 : Value) (x : Nat) (st : List Value) (h : fk_H), fk_ev d qL_law 984 [.ref x, a1, a2, a3] st h = fk_ev d qL_law 985 [.ref x, a1, a2, a3] (.ref x :: st) h) ∧
  (∀ (d : Nat) (a0 a1 a2 : Value) (x : Int32) (st : List Value) (h : fk_H), fk_ev d qL_law 985 [a0, a1, a2, .int x] st h = fk_ev d qL_law 986 [a0, a1, a2, .int x] (.int x :: st) h) ∧
  (∀ (d : Nat) (L st : List Value) (h : fk_H), fk_ev d qL_law 986 L st h = fk_ev d qL_law 987 L (.int (nI 2) :: st) h) ∧
  (∀ (d : Nat) (L : List Value) (x y : Int32) (st : List Value) (h : fk_H), fk_ev d qL_law 987 L (.int y :: .int x :: st) h = fk_ev d qL_law 988 L (.int (x + y) :: st) h) ∧
  (∀ (d : Nat) (L st : List Value) (N : Nat) (y : Nat → Nat → Int32) (l : Nat → Nat → Int64) (i : Nat), i < N → N < 2 ^ 31 → fk_ev d qL_law 988 L (.int (nI i) :: .ref 0 :: st) (fk_E N y l) = fk_ev d qL_law 989 L (.int (y 0 i) :: st) (fk_E N y l)) ∧
  (∀ (d : Nat) (L : List Value) (x0 : Int32) (x1 : Int32) (w0 : Value) (N : Nat) (y : Nat → Nat → Int32) (l : Nat → Nat → Int64), fk_ev (d + 1) qL_law 989 L (.int x1 :: .int x0 :: .ref 246 :: [w0]) (fk_E N y l) = (fk_ev d qX12_history 0 [.ref 246, .int x0, .int x1, .null, .null] [] (fk_E N y l)).bind fun o => fk_ev (d + 1) qL_law 992 L (o.1.toList ++ [w0]) o.2) ∧
  (∀ (d : Nat) (L : List Value) (x y : Int32) (st : List Value) (h : fk_H), fk_ev d qL_law 992 L (.int y :: .int x :: st) h = if x = y then fk_ev d qL_law 1211 L st h else fk_ev d qL_law 995 L st h) ∧
  (∀ (d : Nat) (L st : List Value) (h : fk_H), fk_ev d qL_law 995 L st h = fk_ev d qL_law 996 L (.int (nI 0) :: st) h) ∧
  (∀ (d : Nat) (L : List Value) (h : fk_H), fk_ev d qL_law 996 L [.int (nI 0)] h = some (some (.int (nI 0)), h)) ∧
  (∀ (d : Nat) (L : List Value) (h : fk_H), fk_ev d qL_law 996 L [.int (nI 1)] h = some (some (.int (nI 1)), h)) ∧
  (∀ (d : Nat) (L : List Value) (p : Prop) [Decidable p] (h : fk_H), fk_ev d qL_law 996 L [.int (fk_b p)] h = some (some (.int (fk_b p)), h)) ∧
  (∀ (d : Nat) (L : List Value) (x : Int32) (h : fk_H), (x = nI 0 ∨ x = nI 1) → fk_ev d qL_law 996 L [.int x] h = some (some (.int x), h)) ∧
  (∀ (d : Nat) (a0 a2 a3 : Value) (x : Nat) (st : List Value) (h : fk_H), fk_ev d qL_law 997 [a0, .ref x, a2, a3] st h = fk_ev d qL_law 998 [a0, .ref x, a2, a3] (.ref x :: st) h) ∧
  (∀ (d : Nat) (a1 a2 a3 : Value) (x : Nat) (st : List Value) (h : fk_H), fk_ev d qL_law 998 [.ref x, a1, a2, a3] st h = fk_ev d qL_law 999 [.ref x, a1, a2, a3] (.ref x :: st) h) ∧
  (∀ (d : Nat) (a0 a1 a2 : Value) (x : Int32) (st : List Value) (h : fk_H), fk_ev d qL_law 999 [a0, a1, a2, .int x] st h = fk_ev d qL_law 1000 [a0, a1, a2, .int x] (.int x :: st) h) ∧
  (∀ (d : Nat) (L st : List Value) (h : fk_H), fk_ev d qL_law 1000 L st h = fk_ev d qL_law 1001 L (.int (nI 1) :: st) h) ∧
  (∀ (d : Nat) (L : List Value) (x y : Int32) (st : List Value) (h : fk_H), fk_ev d qL_law 1001 L (.int y :: .int x :: st) h = fk_ev d qL_law 1002 L (.int (x + y) :: st) h) ∧
  (∀ (d : Nat) (L st : List Value) (N : Nat) (y : Nat → Nat → Int32) (l : Nat → Nat → Int64) (i : Nat), i < N → N < 2 ^ 31 → fk_ev d qL_law 1002 L (.int (nI i) :: .ref 0 :: st) (fk_E N y l) = fk_ev d qL_law 1003 L (.int (y 0 i) :: st) (fk_E N y l)) := ⟨fun d L x y st h => fk_r_iadd dL_law_784,
  fun d L st N y l i hi hN => fk_h_sld dL_law_785 hi hN,
  fun d a1 a2 a3 x st h => fk_w_aloadn 0 [.ref x, a1, a2, a3] dL_law_786 rfl,
  fun d a0 a1 a2 x st h => fk_w_iloadn 3 [a0, a1, a2, .int x] dL_law_787 rfl,
  fun d L st h => fk_w_iconst dL_law_788 (by decide),
  fun d L x y st h => fk_r_iadd dL_law_789,
  fun d L st N y l i hi hN => fk_h_sld dL_law_790 hi hN,
  fun d L x0 x1 w0 N y l  => fk_g_call [.int x0, .int x1] [w0] rfl lm_13_84 dL_law_791 rfl ⟨rfl, by decide⟩ (by simp) fk_at_246,
  fun d L x y st h => fk_r_icmp_eq dL_law_794 (by decide),
  fun d L st h => fk_w_iconst dL_law_797 (by decide),
  fun d L h => fk_r_ret dL_law_798 (Or.inr (Or.inl ⟨rfl, by decide⟩)),
  fun d L h => fk_r_ret dL_law_798 (Or.inr (Or.inl ⟨rfl, by decide⟩)),
  fun d L p _ h => fk_r_ret dL_law_798 (Or.inr (Or.inl ⟨rfl, fk_b_01⟩)),
  fun d L x h hx => fk_r_ret dL_law_798 (Or.inr (Or.inl ⟨rfl, hx⟩)),
  fun d a0 a2 a3 x st h => fk_w_aloadn 1 [a0, .ref x, a2, a3] dL_law_799 rfl,
  fun d a1 a2 a3 x st h => fk_w_aloadn 0 [.ref x, a1, a2, a3] dL_law_800 rfl,
  fun d a0 a1 a2 x st h => fk_w_iloadn 3 [a0, a1, a2, .int x] dL_law_801 rfl,
  fun d L st h => fk_w_iconst dL_law_802 (by decide),
  fun d L x y st h => fk_r_iadd dL_law_803,
  fun d L st N y l i hi hN => fk_h_sld dL_law_804 hi hN,
  fun d a1 a2 a3 x st h => fk_w_aloadn 0 [.ref x, a1, a2, a3] dL_law_805 rfl,
  fun d a0 a1 a2 x st h => fk_w_iloadn 3 [a0, a1, a2, .int x] dL_law_806 rfl,
  fun d L st h => fk_w_iconst dL_law_807 (by decide),
  fun d L x y st h => fk_r_iadd dL_law_808,
  fun d L st N y l i hi hN => fk_h_sld dL_law_809 hi hN,
  fun d a1 a2 a3 x st h => fk_w_aloadn 0 [.ref x, a1, a2, a3] dL_law_810 rfl,
  fun d a0 a1 a2 x st h => fk_w_iloadn 3 [a0, a1, a2, .int x] dL_law_811 rfl,
  fun d L st h => fk_w_iconst dL_law_812 (by decide),
  fun d L x y st h => fk_r_iadd dL_law_813,
  fun d L st N y l i hi hN => fk_h_sld dL_law_814 hi hN,
  fun d L x0 x1 x2 N y l  => fk_g_call [.int x0, .int x1, .int x2] [] rfl lm_13_85 dL_law_815 rfl ⟨rfl, by decide⟩ (by simp) fk_at_1,
  fun d a0 a1 a3 x st h => fk_w_aloadn 2 [a0, a1, .ref x, a3] dL_law_818 rfl,
  fun d a1 a2 a3 x st h => fk_w_aloadn 0 [.ref x, a1, a2, a3] dL_law_819 rfl,
  fun d a0 a1 a2 x st h => fk_w_iloadn 3 [a0, a1, a2, .int x] dL_law_820 rfl,
  fun d L st h => fk_w_iconst dL_law_821 (by decide),
  fun d L x y st h => fk_r_iadd dL_law_822,
  fun d L st N y l i hi hN => fk_h_sld dL_law_823 hi hN,
  fun d a1 a2 a3 x st h => fk_w_aloadn 0 [.ref x, a1, a2, a3] dL_law_824 rfl,
  fun d a0 a1 a2 x st h => fk_w_iloadn 3 [a0, a1, a2, .int x] dL_law_825 rfl,
  fun d L st h => fk_w_iconst dL_law_826 (by decide),
  fun d L x y st h => fk_r_iadd dL_law_827,
  fun d L st N y l i hi hN => fk_h_sld dL_law_828 hi hN,
  fun d a1 a2 a3 x st h => fk_w_aloadn 0 [.ref x, a1, a2, a3] dL_law_829 rfl,
  fun d a0 a1 a2 x st h => fk_w_iloadn 3 [a0, a1, a2, .int x] dL_law_830 rfl,
  fun d L st h => fk_w_iconst dL_law_831 (by decide),
  fun d L x y st h => fk_r_iadd dL_law_832,
  fun d L st N y l i hi hN => fk_h_sld dL_law_833 hi hN,
  fun d L x0 x1 x2 w0 N y l  => fk_g_call [.int x0, .int x1, .int x2] [w0] rfl lm_13_89 dL_law_834 rfl ⟨rfl, by decide⟩ (by simp) fk_at_246,
  fun d L x y st h => fk_r_icmp_eq dL_law_837 (by decide),
  fun d L st h => fk_w_iconst dL_law_840 (by decide),
  fun d L h => fk_r_ret dL_law_841 (Or.inr (Or.inl ⟨rfl, by decide⟩)),
  fun d L h => fk_r_ret dL_law_841 (Or.inr (Or.inl ⟨rfl, by decide⟩)),
  fun d L p _ h => fk_r_ret dL_law_841 (Or.inr (Or.inl ⟨rfl, fk_b_01⟩)),
  fun d L x h hx => fk_r_ret dL_law_841 (Or.inr (Or.inl ⟨rfl, hx⟩)),
  fun d a0 a2 a3 x st h => fk_w_aloadn 1 [a0, .ref x, a2, a3] dL_law_842 rfl,
  fun d a1 a2 a3 x st h => fk_w_aloadn 0 [.ref x, a1, a2, a3] dL_law_843 rfl,
  fun d a0 a1 a2 x st h => fk_w_iloadn 3 [a0, a1, a2, .int x] dL_law_844 rfl,
  fun d L st h => fk_w_iconst dL_law_845 (by decide),
  fun d L x y st h => fk_r_iadd dL_law_846,
  fun d L st N y l i hi hN => fk_h_sld dL_law_847 hi hN,
  fun d a1 a2 a3 x st h => fk_w_aloadn 0 [.ref x, a1, a2, a3] dL_law_848 rfl,
  fun d a0 a1 a2 x st h => fk_w_iloadn 3 [a0, a1, a2, .int x] dL_law_849 rfl,
  fun d L st h => fk_w_iconst dL_law_850 (by decide),
  fun d L x y st h => fk_r_iadd dL_law_851,
  fun d L st N y l i hi hN => fk_h_sld dL_law_852 hi hN,
  fun d L x0 x1 N y l  => fk_g_call [.int x0, .int x1] [] rfl lm_13_90 dL_law_853 rfl ⟨rfl, by decide⟩ (by simp) fk_at_1,
  fun d a0 a1 a3 x st h => fk_w_aloadn 2 [a0, a1, .ref x, a3] dL_law_856 rfl,
  fun d a1 a2 a3 x st h => fk_w_aloadn 0 [.ref x, a1, a2, a3] dL_law_857 rfl,
  fun d a0 a1 a2 x st h => fk_w_iloadn 3 [a0, a1, a2, .int x] dL_law_858 rfl,
  fun d L st h => fk_w_iconst dL_law_859 (by decide),
  fun d L x y st h => fk_r_iadd dL_law_860,
  fun d L st N y l i hi hN => fk_h_sld dL_law_861 hi hN,
  fun d a1 a2 a3 x st h => fk_w_aloadn 0 [.ref x, a1, a2, a3] dL_law_862 rfl,
  fun d a0 a1 a2 x st h => fk_w_iloadn 3 [a0, a1, a2, .int x] dL_law_863 rfl,
  fun d L st h => fk_w_iconst dL_law_864 (by decide),
  fun d L x y st h => fk_r_iadd dL_law_865,
  fun d L st N y l i hi hN => fk_h_sld dL_law_866 hi hN,
  fun d L x0 x1 w0 N y l  => fk_g_call [.int x0, .int x1] [w0] rfl lm_13_93 dL_law_867 rfl ⟨rfl, by decide⟩ (by simp) fk_at_246,
  fun d L x y st h => fk_r_icmp_eq dL_law_870 (by decide),
  fun d L st h => fk_w_iconst dL_law_873 (by decide),
  fun d L h => fk_r_ret dL_law_874 (Or.inr (Or.inl ⟨rfl, by decide⟩)),
  fun d L h => fk_r_ret dL_law_874 (Or.inr (Or.inl ⟨rfl, by decide⟩)),
  fun d L p _ h => fk_r_ret dL_law_874 (Or.inr (Or.inl ⟨rfl, fk_b_01⟩)),
  fun d L x h hx => fk_r_ret dL_law_874 (Or.inr (Or.inl ⟨rfl, hx⟩)),
  fun d a0 a2 a3 x st h => fk_w_aloadn 1 [a0, .ref x, a2, a3] dL_law_875 rfl,
  fun d a1 a2 a3 x st h => fk_w_aloadn 0 [.ref x, a1, a2, a3] dL_law_876 rfl,
  fun d a0 a1 a2 x st h => fk_w_iloadn 3 [a0, a1, a2, .int x] dL_law_877 rfl,
  fun d L st h => fk_w_iconst dL_law_878 (by decide),
  fun d L x y st h => fk_r_iadd dL_law_879,
  fun d L st N y l i hi hN => fk_h_sld dL_law_880 hi hN,
  fun d L x0 N y l  => fk_g_call [.int x0] [] rfl lm_13_94 dL_law_881 rfl ⟨rfl, by decide⟩ (by simp) fk_at_1,
  fun d a0 a1 a3 x st h => fk_w_aloadn 2 [a0, a1, .ref x, a3] dL_law_884 rfl,
  fun d a1 a2 a3 x st h => fk_w_aloadn 0 [.ref x, a1, a2, a3] dL_law_885 rfl,
  fun d a0 a1 a2 x st h => fk_w_iloadn 3 [a0, a1, a2, .int x] dL_law_886 rfl,
  fun d L st h => fk_w_iconst dL_law_887 (by decide),
  fun d L x y st h => fk_r_iadd dL_law_888,
  fun d L st N y l i hi hN => fk_h_sld dL_law_889 hi hN,
  fun d L x0 w0 N y l  => fk_g_call [.int x0] [w0] rfl lm_13_97 dL_law_890 rfl ⟨rfl, by decide⟩ (by simp) fk_at_246,
  fun d L x y st h => fk_r_icmp_eq dL_law_893 (by decide),
  fun d L st h => fk_w_iconst dL_law_896 (by decide),
  fun d L h => fk_r_ret dL_law_897 (Or.inr (Or.inl ⟨rfl, by decide⟩)),
  fun d L h => fk_r_ret dL_law_897 (Or.inr (Or.inl ⟨rfl, by decide⟩)),
  fun d L p _ h => fk_r_ret dL_law_897 (Or.inr (Or.inl ⟨rfl, fk_b_01⟩)),
  fun d L x h hx => fk_r_ret dL_law_897 (Or.inr (Or.inl ⟨rfl, hx⟩)),
  fun d a0 a2 a3 x st h => fk_w_aloadn 1 [a0, .ref x, a2, a3] dL_law_898 rfl,
  fun d a1 a2 a3 x st h => fk_w_aloadn 0 [.ref x, a1, a2, a3] dL_law_899 rfl,
  fun d a0 a1 a2 x st h => fk_w_iloadn 3 [a0, a1, a2, .int x] dL_law_900 rfl,
  fun d L st h => fk_w_iconst dL_law_901 (by decide),
  fun d L x y st h => fk_r_iadd dL_law_902,
  fun d L st N y l i hi hN => fk_h_sld dL_law_903 hi hN,
  fun d L x0 N y l  => fk_g_call [.int x0] [] rfl lm_13_98 dL_law_904 rfl ⟨rfl, by decide⟩ (by simp) fk_at_1,
  fun d a0 a1 a3 x st h => fk_w_aloadn 2 [a0, a1, .ref x, a3] dL_law_907 rfl,
  fun d a1 a2 a3 x st h => fk_w_aloadn 0 [.ref x, a1, a2, a3] dL_law_908 rfl,
  fun d a0 a1 a2 x st h => fk_w_iloadn 3 [a0, a1, a2, .int x] dL_law_909 rfl,
  fun d L st h => fk_w_iconst dL_law_910 (by decide),
  fun d L x y st h => fk_r_iadd dL_law_911,
  fun d L st N y l i hi hN => fk_h_sld dL_law_912 hi hN,
  fun d L x0 w0 N y l  => fk_g_call [.int x0] [w0] rfl lm_13_101 dL_law_913 rfl ⟨rfl, by decide⟩ (by simp) fk_at_246,
  fun d L x y st h => fk_r_icmp_eq dL_law_916 (by decide),
  fun d L st h => fk_w_iconst dL_law_919 (by decide),
  fun d L h => fk_r_ret dL_law_920 (Or.inr (Or.inl ⟨rfl, by decide⟩)),
  fun d L h => fk_r_ret dL_law_920 (Or.inr (Or.inl ⟨rfl, by decide⟩)),
  fun d L p _ h => fk_r_ret dL_law_920 (Or.inr (Or.inl ⟨rfl, fk_b_01⟩)),
  fun d L x h hx => fk_r_ret dL_law_920 (Or.inr (Or.inl ⟨rfl, hx⟩)),
  fun d a0 a2 a3 x st h => fk_w_aloadn 1 [a0, .ref x, a2, a3] dL_law_921 rfl,
  fun d a1 a2 a3 x st h => fk_w_aloadn 0 [.ref x, a1, a2, a3] dL_law_922 rfl,
  fun d a0 a1 a2 x st h => fk_w_iloadn 3 [a0, a1, a2, .int x] dL_law_923 rfl,
  fun d L st h => fk_w_iconst dL_law_924 (by decide),
  fun d L x y st h => fk_r_iadd dL_law_925,
  fun d L st N y l i hi hN => fk_h_sld dL_law_926 hi hN,
  fun d a1 a2 a3 x st h => fk_w_aloadn 0 [.ref x, a1, a2, a3] dL_law_927 rfl,
  fun d a0 a1 a2 x st h => fk_w_iloadn 3 [a0, a1, a2, .int x] dL_law_928 rfl,
  fun d L st h => fk_w_iconst dL_law_929 (by decide),
  fun d L x y st h => fk_r_iadd dL_law_930,
  fun d L st N y l i hi hN => fk_h_sld dL_law_931 hi hN,
  fun d a1 a2 a3 x st h => fk_w_aloadn 0 [.ref x, a1, a2, a3] dL_law_932 rfl,
  fun d a0 a1 a2 x st h => fk_w_iloadn 3 [a0, a1, a2, .int x] dL_law_933 rfl,
  fun d L st h => fk_w_iconst dL_law_934 (by decide),
  fun d L x y st h => fk_r_iadd dL_law_935,
  fun d L st N y l i hi hN => fk_h_sld dL_law_936 hi hN,
  fun d L x0 x1 x2 N y l  => fk_g_call [.int x0, .int x1, .int x2] [] rfl lm_13_102 dL_law_937 rfl ⟨rfl, by decide⟩ (by simp) fk_at_1,
  fun d a0 a1 a3 x st h => fk_w_aloadn 2 [a0, a1, .ref x, a3] dL_law_940 rfl,
  fun d a1 a2 a3 x st h => fk_w_aloadn 0 [.ref x, a1, a2, a3] dL_law_941 rfl,
  fun d a0 a1 a2 x st h => fk_w_iloadn 3 [a0, a1, a2, .int x] dL_law_942 rfl,
  fun d L st h => fk_w_iconst dL_law_943 (by decide),
  fun d L x y st h => fk_r_iadd dL_law_944,
  fun d L st N y l i hi hN => fk_h_sld dL_law_945 hi hN,
  fun d a1 a2 a3 x st h => fk_w_aloadn 0 [.ref x, a1, a2, a3] dL_law_946 rfl,
  fun d a0 a1 a2 x st h => fk_w_iloadn 3 [a0, a1, a2, .int x] dL_law_947 rfl,
  fun d L st h => fk_w_iconst dL_law_948 (by decide),
  fun d L x y st h => fk_r_iadd dL_law_949,
  fun d L st N y l i hi hN => fk_h_sld dL_law_950 hi hN,
  fun d a1 a2 a3 x st h => fk_w_aloadn 0 [.ref x, a1, a2, a3] dL_law_951 rfl,
  fun d a0 a1 a2 x st h => fk_w_iloadn 3 [a0, a1, a2, .int x] dL_law_952 rfl,
  fun d L st h => fk_w_iconst dL_law_953 (by decide),
  fun d L x y st h => fk_r_iadd dL_law_954,
  fun d L st N y l i hi hN => fk_h_sld dL_law_955 hi hN,
  fun d L x0 x1 x2 w0 N y l  => fk_g_call [.int x0, .int x1, .int x2] [w0] rfl lm_13_105 dL_law_956 rfl ⟨rfl, by decide⟩ (by simp) fk_at_246,
  fun d L x y st h => fk_r_icmp_eq dL_law_959 (by decide),
  fun d L st h => fk_w_iconst dL_law_962 (by decide),
  fun d L h => fk_r_ret dL_law_963 (Or.inr (Or.inl ⟨rfl, by decide⟩)),
  fun d L h => fk_r_ret dL_law_963 (Or.inr (Or.inl ⟨rfl, by decide⟩)),
  fun d L p _ h => fk_r_ret dL_law_963 (Or.inr (Or.inl ⟨rfl, fk_b_01⟩)),
  fun d L x h hx => fk_r_ret dL_law_963 (Or.inr (Or.inl ⟨rfl, hx⟩)),
  fun d a0 a2 a3 x st h => fk_w_aloadn 1 [a0, .ref x, a2, a3] dL_law_964 rfl,
  fun d a1 a2 a3 x st h => fk_w_aloadn 0 [.ref x, a1, a2, a3] dL_law_965 rfl,
  fun d a0 a1 a2 x st h => fk_w_iloadn 3 [a0, a1, a2, .int x] dL_law_966 rfl,
  fun d L st h => fk_w_iconst dL_law_967 (by decide),
  fun d L x y st h => fk_r_iadd dL_law_968,
  fun d L st N y l i hi hN => fk_h_sld dL_law_969 hi hN,
  fun d a1 a2 a3 x st h => fk_w_aloadn 0 [.ref x, a1, a2, a3] dL_law_970 rfl,
  fun d a0 a1 a2 x st h => fk_w_iloadn 3 [a0, a1, a2, .int x] dL_law_971 rfl,
  fun d L st h => fk_w_iconst dL_law_972 (by decide),
  fun d L x y st h => fk_r_iadd dL_law_973,
  fun d L st N y l i hi hN => fk_h_sld dL_law_974 hi hN,
  fun d L x0 x1 N y l  => fk_g_call [.int x0, .int x1] [] rfl lm_13_106 dL_law_975 rfl ⟨rfl, by decide⟩ (by simp) fk_at_1,
  fun d a0 a1 a3 x st h => fk_w_aloadn 2 [a0, a1, .ref x, a3] dL_law_978 rfl,
  fun d a1 a2 a3 x st h => fk_w_aloadn 0 [.ref x, a1, a2, a3] dL_law_979 rfl,
  fun d a0 a1 a2 x st h => fk_w_iloadn 3 [a0, a1, a2, .int x] dL_law_980 rfl,
  fun d L st h => fk_w_iconst dL_law_981 (by decide),
  fun d L x y st h => fk_r_iadd dL_law_982,
  fun d L st N y l i hi hN => fk_h_sld dL_law_983 hi hN,
  fun d a1 a2 a3 x st h => fk_w_aloadn 0 [.ref x, a1, a2, a3] dL_law_984 rfl,
  fun d a0 a1 a2 x st h => fk_w_iloadn 3 [a0, a1, a2, .int x] dL_law_985 rfl,
  fun d L st h => fk_w_iconst dL_law_986 (by decide),
  fun d L x y st h => fk_r_iadd dL_law_987,
  fun d L st N y l i hi hN => fk_h_sld dL_law_988 hi hN,
  fun d L x0 x1 w0 N y l  => fk_g_call [.int x0, .int x1] [w0] rfl lm_13_109 dL_law_989 rfl ⟨rfl, by decide⟩ (by simp) fk_at_246,
  fun d L x y st h => fk_r_icmp_eq dL_law_992 (by decide),
  fun d L st h => fk_w_iconst dL_law_995 (by decide),
  fun d L h => fk_r_ret dL_law_996 (Or.inr (Or.inl ⟨rfl, by decide⟩)),
  fun d L h => fk_r_ret dL_law_996 (Or.inr (Or.inl ⟨rfl, by decide⟩)),
  fun d L p _ h => fk_r_ret dL_law_996 (Or.inr (Or.inl ⟨rfl, fk_b_01⟩)),
  fun d L x h hx => fk_r_ret dL_law_996 (Or.inr (Or.inl ⟨rfl, hx⟩)),
  fun d a0 a2 a3 x st h => fk_w_aloadn 1 [a0, .ref x, a2, a3] dL_law_997 rfl,
  fun d a1 a2 a3 x st h => fk_w_aloadn 0 [.ref x, a1, a2, a3] dL_law_998 rfl,
  fun d a0 a1 a2 x st h => fk_w_iloadn 3 [a0, a1, a2, .int x] dL_law_999 rfl,
  fun d L st h => fk_w_iconst dL_law_1000 (by decide),
  fun d L x y st h => fk_r_iadd dL_law_1001,
  fun d L st N y l i hi hN => fk_h_sld dL_law_1002 hi hN⟩
theorem rL_law_4 : (∀ (d : Nat) (a1 a2 a3 : Value) (x : Nat) (st : List Value) (h : fk_H), fk_ev d qL_law 1003 [.ref x, a1, a2, a3] st h = fk_ev d qL_law 1004 [.ref x, a1, a2, a3] (.ref x :: st) h) ∧
  (∀ (d : Nat) (a0 a1 a2 : Value) (x : Int32) (st : List Value) (h : fk_H), fk_ev d qL_law 1004 [a0, a1, a2, .int x] st h = fk_ev d qL_law 1005 [a0, a1, a2, .int x] (.int x :: st) h) ∧
  (∀ (d : Nat) (L st : List Value) (h : fk_H), fk_ev d qL_law 1005 L st h = fk_ev d qL_law 1006 L (.int (nI 2) :: st) h) ∧
  (∀ (d : Nat) (L : List Value) (x y : Int32) (st : List Value) (h : fk_H), fk_ev d qL_law 1006 L (.int y :: .int x :: st) h = fk_ev d qL_law 1007 L (.int (x + y) :: st) h) ∧
  (∀ (d : Nat) (L st : List Value) (N : Nat) (y : Nat → Nat → Int32) (l : Nat → Nat → Int64) (i : Nat), i < N → N < 2 ^ 31 → fk_ev d qL_law 1007 L (.int (nI i) :: .ref 0 :: st) (fk_E N y l) = fk_ev d qL_law 1008 L (.int (y 0 i) :: st) (fk_E N y l)) ∧
  (∀ (d : Nat) (a1 a2 a3 : Value) (x : Nat) (st : List Value) (h : fk_H), fk_ev d qL_law 1008 [.ref x, a1, a2, a3] st h = fk_ev d qL_law 1009 [.ref x, a1, a2, a3] (.ref x :: st) h) ∧
  (∀ (d : Nat) (a0 a1 a2 : Value) (x : Int32) (st : List Value) (h : fk_H), fk_ev d qL_law 1009 [a0, a1, a2, .int x] st h = fk_ev d qL_law 1010 [a0, a1, a2, .int x] (.int x :: st) h) ∧
  (∀ (d : Nat) (L st : List Value) (h : fk_H), fk_ev d qL_law 1010 L st h = fk_ev d qL_law 1011 L (.int (nI 3) :: st) h) ∧
  (∀ (d : Nat) (L : List Value) (x y : Int32) (st : List Value) (h : fk_H), fk_ev d qL_law 1011 L (.int y :: .int x :: st) h = fk_ev d qL_law 1012 L (.int (x + y) :: st) h) ∧
  (∀ (d : Nat) (L st : List Value) (N : Nat) (y : Nat → Nat → Int32) (l : Nat → Nat → Int64) (i : Nat), i < N → N < 2 ^ 31 → fk_ev d qL_law 1012 L (.int (nI i) :: .ref 0 :: st) (fk_E N y l) = fk_ev d qL_law 1013 L (.int (y 0 i) :: st) (fk_E N y l)) ∧
  (∀ (d : Nat) (L : List Value) (x0 : Int32) (x1 : Int32) (x2 : Int32)  (N : Nat) (y : Nat → Nat → Int32) (l : Nat → Nat → Int64), fk_ev (d + 1) qL_law 1013 L (.int x2 :: .int x1 :: .int x0 :: .ref 1 :: []) (fk_E N y l) = (fk_ev d qX11_kin 0 [.ref 1, .int x0, .int x1, .int x2, .null, .null, .null] [] (fk_E N y l)).bind fun o => fk_ev (d + 1) qL_law 1016 L (o.1.toList ++ []) o.2) ∧
  (∀ (d : Nat) (a0 a1 a3 : Value) (x : Nat) (st : List Value) (h : fk_H), fk_ev d qL_law 1016 [a0, a1, .ref x, a3] st h = fk_ev d qL_law 1017 [a0, a1, .ref x, a3] (.ref x :: st) h) ∧
  (∀ (d : Nat) (a1 a2 a3 : Value) (x : Nat) (st : List Value) (h : fk_H), fk_ev d qL_law 1017 [.ref x, a1, a2, a3] st h = fk_ev d qL_law 1018 [.ref x, a1, a2, a3] (.ref x :: st) h) ∧
  (∀ (d : Nat) (a0 a1 a2 : Value) (x : Int32) (st : List Value) (h : fk_H), fk_ev d qL_law 1018 [a0, a1, a2, .int x] st h = fk_ev d qL_law 1019 [a0, a1, a2, .int x] (.int x :: st) h) ∧
  (∀ (d : Nat) (L st : List Value) (h : fk_H), fk_ev d qL_law 1019 L st h = fk_ev d qL_law 1020 L (.int (nI 1) :: st) h) ∧
  (∀ (d : Nat) (L : List Value) (x y : Int32) (st : List Value) (h : fk_H), fk_ev d qL_law 1020 L (.int y :: .int x :: st) h = fk_ev d qL_law 1021 L (.int (x + y) :: st) h) ∧
  (∀ (d : Nat) (L st : List Value) (N : Nat) (y : Nat → Nat → Int32) (l : Nat → Nat → Int64) (i : Nat), i < N → N < 2 ^ 31 → fk_ev d qL_law 1021 L (.int (nI i) :: .ref 0 :: st) (fk_E N y l) = fk_ev d qL_law 1022 L (.int (y 0 i) :: st) (fk_E N y l)) ∧
  (∀ (d : Nat) (a1 a2 a3 : Value) (x : Nat) (st : List Value) (h : fk_H), fk_ev d qL_law 1022 [.ref x, a1, a2, a3] st h = fk_ev d qL_law 1023 [.ref x, a1, a2, a3] (.ref x :: st) h) ∧
  (∀ (d : Nat) (a0 a1 a2 : Value) (x : Int32) (st : List Value) (h : fk_H), fk_ev d qL_law 1023 [a0, a1, a2, .int x] st h = fk_ev d qL_law 1024 [a0, a1, a2, .int x] (.int x :: st) h) ∧
  (∀ (d : Nat) (L st : List Value) (h : fk_H), fk_ev d qL_law 1024 L st h = fk_ev d qL_law 1025 L (.int (nI 2) :: st) h) ∧
  (∀ (d : Nat) (L : List Value) (x y : Int32) (st : List Value) (h : fk_H), fk_ev d qL_law 1025 L (.int y :: .int x :: st) h = fk_ev d qL_law 1026 L (.int (x + y) :: st) h) ∧
  (∀ (d : Nat) (L st : List Value) (N : Nat) (y : Nat → Nat → Int32) (l : Nat → Nat → Int64) (i : Nat), i < N → N < 2 ^ 31 → fk_ev d qL_law 1026 L (.int (nI i) :: .ref 0 :: st) (fk_E N y l) = fk_ev d qL_law 1027 L (.int (y 0 i) :: st) (fk_E N y l)) ∧
  (∀ (d : Nat) (a1 a2 a3 : Value) (x : Nat) (st : List Value) (h : fk_H), fk_ev d qL_law 1027 [.ref x, a1, a2, a3] st h = fk_ev d qL_law 1028 [.ref x, a1, a2, a3] (.ref x :: st) h) ∧
  (∀ (d : Nat) (a0 a1 a2 : Value) (x : Int32) (st : List Value) (h : fk_H), fk_ev d qL_law 1028 [a0, a1, a2, .int x] st h = fk_ev d qL_law 1029 [a0, a1, a2, .int x] (.int x :: st) h) ∧
  (∀ (d : Nat) (L st : List Value) (h : fk_H), fk_ev d qL_law 1029 L st h = fk_ev d qL_law 1030 L (.int (nI 3) :: st) h) ∧
  (∀ (d : Nat) (L : List Value) (x y : Int32) (st : List Value) (h : fk_H), fk_ev d qL_law 1030 L (.int y :: .int x :: st) h = fk_ev d qL_law 1031 L (.int (x + y) :: st) h) ∧
  (∀ (d : Nat) (L st : List Value) (N : Nat) (y : Nat → Nat → Int32) (l : Nat → Nat → Int64) (i : Nat), i < N → N < 2 ^ 31 → fk_ev d qL_law 1031 L (.int (nI i) :: .ref 0 :: st) (fk_E N y l) = fk_ev d qL_law 1032 L (.int (y 0 i) :: st) (fk_E N y l)) ∧
  (∀ (d : Nat) (L : List Value) (x0 : Int32) (x1 : Int32) (x2 : Int32) (w0 : Value) (N : Nat) (y : Nat → Nat → Int32) (l : Nat → Nat → Int64), fk_ev (d + 1) qL_law 1032 L (.int x2 :: .int x1 :: .int x0 :: .ref 246 :: [w0]) (fk_E N y l) = (fk_ev d qX12_kin 0 [.ref 246, .int x0, .int x1, .int x2, .null, .null, .null] [] (fk_E N y l)).bind fun o => fk_ev (d + 1) qL_law 1035 L (o.1.toList ++ [w0]) o.2) ∧
  (∀ (d : Nat) (L : List Value) (x y : Int32) (st : List Value) (h : fk_H), fk_ev d qL_law 1035 L (.int y :: .int x :: st) h = if x = y then fk_ev d qL_law 1211 L st h else fk_ev d qL_law 1038 L st h) ∧
  (∀ (d : Nat) (L st : List Value) (h : fk_H), fk_ev d qL_law 1038 L st h = fk_ev d qL_law 1039 L (.int (nI 0) :: st) h) ∧
  (∀ (d : Nat) (L : List Value) (h : fk_H), fk_ev d qL_law 1039 L [.int (nI 0)] h = some (some (.int (nI 0)), h)) ∧
  (∀ (d : Nat) (L : List Value) (h : fk_H), fk_ev d qL_law 1039 L [.int (nI 1)] h = some (some (.int (nI 1)), h)) ∧
  (∀ (d : Nat) (L : List Value) (p : Prop) [Decidable p] (h : fk_H), fk_ev d qL_law 1039 L [.int (fk_b p)] h = some (some (.int (fk_b p)), h)) ∧
  (∀ (d : Nat) (L : List Value) (x : Int32) (h : fk_H), (x = nI 0 ∨ x = nI 1) → fk_ev d qL_law 1039 L [.int x] h = some (some (.int x), h)) ∧
  (∀ (d : Nat) (a0 a2 a3 : Value) (x : Nat) (st : List Value) (h : fk_H), fk_ev d qL_law 1040 [a0, .ref x, a2, a3] st h = fk_ev d qL_law 1041 [a0, .ref x, a2, a3] (.ref x :: st) h) ∧
  (∀ (d : Nat) (a1 a2 a3 : Value) (x : Nat) (st : List Value) (h : fk_H), fk_ev d qL_law 1041 [.ref x, a1, a2, a3] st h = fk_ev d qL_law 1042 [.ref x, a1, a2, a3] (.ref x :: st) h) ∧
  (∀ (d : Nat) (a0 a1 a2 : Value) (x : Int32) (st : List Value) (h : fk_H), fk_ev d qL_law 1042 [a0, a1, a2, .int x] st h = fk_ev d qL_law 1043 [a0, a1, a2, .int x] (.int x :: st) h) ∧
  (∀ (d : Nat) (L st : List Value) (h : fk_H), fk_ev d qL_law 1043 L st h = fk_ev d qL_law 1044 L (.int (nI 1) :: st) h) ∧
  (∀ (d : Nat) (L : List Value) (x y : Int32) (st : List Value) (h : fk_H), fk_ev d qL_law 1044 L (.int y :: .int x :: st) h = fk_ev d qL_law 1045 L (.int (x + y) :: st) h) ∧
  (∀ (d : Nat) (L st : List Value) (N : Nat) (y : Nat → Nat → Int32) (l : Nat → Nat → Int64) (i : Nat), i < N → N < 2 ^ 31 → fk_ev d qL_law 1045 L (.int (nI i) :: .ref 0 :: st) (fk_E N y l) = fk_ev d qL_law 1046 L (.int (y 0 i) :: st) (fk_E N y l)) ∧
  (∀ (d : Nat) (a1 a2 a3 : Value) (x : Nat) (st : List Value) (h : fk_H), fk_ev d qL_law 1046 [.ref x, a1, a2, a3] st h = fk_ev d qL_law 1047 [.ref x, a1, a2, a3] (.ref x :: st) h) ∧
  (∀ (d : Nat) (a0 a1 a2 : Value) (x : Int32) (st : List Value) (h : fk_H), fk_ev d qL_law 1047 [a0, a1, a2, .int x] st h = fk_ev d qL_law 1048 [a0, a1, a2, .int x] (.int x :: st) h) ∧
  (∀ (d : Nat) (L st : List Value) (h : fk_H), fk_ev d qL_law 1048 L st h = fk_ev d qL_law 1049 L (.int (nI 2) :: st) h) ∧
  (∀ (d : Nat) (L : List Value) (x y : Int32) (st : List Value) (h : fk_H), fk_ev d qL_law 1049 L (.int y :: .int x :: st) h = fk_ev d qL_law 1050 L (.int (x + y) :: st) h) ∧
  (∀ (d : Nat) (L st : List Value) (N : Nat) (y : Nat → Nat → Int32) (l : Nat → Nat → Int64) (i : Nat), i < N → N < 2 ^ 31 → fk_ev d qL_law 1050 L (.int (nI i) :: .ref 0 :: st) (fk_E N y l) = fk_ev d qL_law 1051 L (.int (y 0 i) :: st) (fk_E N y l)) ∧
  (∀ (d : Nat) (L : List Value) (x0 : Int32) (x1 : Int32)  (N : Nat) (y : Nat → Nat → Int32) (l : Nat → Nat → Int64), fk_ev (d + 1) qL_law 1051 L (.int x1 :: .int x0 :: .ref 1 :: []) (fk_E N y l) = (fk_ev d qX11_bread 0 [.ref 1, .int x0, .int x1] [] (fk_E N y l)).bind fun o => fk_ev (d + 1) qL_law 1054 L (o.1.toList ++ []) o.2) ∧
  (∀ (d : Nat) (a0 a1 a3 : Value) (x : Nat) (st : List Value) (h : fk_H), fk_ev d qL_law 1054 [a0, a1, .ref x, a3] st h = fk_ev d qL_law 1055 [a0, a1, .ref x, a3] (.ref x :: st) h) ∧
  (∀ (d : Nat) (a1 a2 a3 : Value) (x : Nat) (st : List Value) (h : fk_H), fk_ev d qL_law 1055 [.ref x, a1, a2, a3] st h = fk_ev d qL_law 1056 [.ref x, a1, a2, a3] (.ref x :: st) h) ∧
  (∀ (d : Nat) (a0 a1 a2 : Value) (x : Int32) (st : List Value) (h : fk_H), fk_ev d qL_law 1056 [a0, a1, a2, .int x] st h = fk_ev d qL_law 1057 [a0, a1, a2, .int x] (.int x :: st) h) ∧
  (∀ (d : Nat) (L st : List Value) (h : fk_H), fk_ev d qL_law 1057 L st h = fk_ev d qL_law 1058 L (.int (nI 1) :: st) h) ∧
  (∀ (d : Nat) (L : List Value) (x y : Int32) (st : List Value) (h : fk_H), fk_ev d qL_law 1058 L (.int y :: .int x :: st) h = fk_ev d qL_law 1059 L (.int (x + y) :: st) h) ∧
  (∀ (d : Nat) (L st : List Value) (N : Nat) (y : Nat → Nat → Int32) (l : Nat → Nat → Int64) (i : Nat), i < N → N < 2 ^ 31 → fk_ev d qL_law 1059 L (.int (nI i) :: .ref 0 :: st) (fk_E N y l) = fk_ev d qL_law 1060 L (.int (y 0 i) :: st) (fk_E N y l)) ∧
  (∀ (d : Nat) (a1 a2 a3 : Value) (x : Nat) (st : List Value) (h : fk_H), fk_ev d qL_law 1060 [.ref x, a1, a2, a3] st h = fk_ev d qL_law 1061 [.ref x, a1, a2, a3] (.ref x :: st) h) ∧
  (∀ (d : Nat) (a0 a1 a2 : Value) (x : Int32) (st : List Value) (h : fk_H), fk_ev d qL_law 1061 [a0, a1, a2, .int x] st h = fk_ev d qL_law 1062 [a0, a1, a2, .int x] (.int x :: st) h) ∧
  (∀ (d : Nat) (L st : List Value) (h : fk_H), fk_ev d qL_law 1062 L st h = fk_ev d qL_law 1063 L (.int (nI 2) :: st) h) ∧
  (∀ (d : Nat) (L : List Value) (x y : Int32) (st : List Value) (h : fk_H), fk_ev d qL_law 1063 L (.int y :: .int x :: st) h = fk_ev d qL_law 1064 L (.int (x + y) :: st) h) ∧
  (∀ (d : Nat) (L st : List Value) (N : Nat) (y : Nat → Nat → Int32) (l : Nat → Nat → Int64) (i : Nat), i < N → N < 2 ^ 31 → fk_ev d qL_law 1064 L (.int (nI i) :: .ref 0 :: st) (fk_E N y l) = fk_ev d qL_law 1065 L (.int (y 0 i) :: st) (fk_E N y l)) ∧
  (∀ (d : Nat) (L : List Value) (x0 : Int32) (x1 : Int32) (w0 : Value) (N : Nat) (y : Nat → Nat → Int32) (l : Nat → Nat → Int64), fk_ev (d + 1) qL_law 1065 L (.int x1 :: .int x0 :: .ref 246 :: [w0]) (fk_E N y l) = (fk_ev d qX12_bread 0 [.ref 246, .int x0, .int x1, .null, .null, .null, .null, .null, .null, .null] [] (fk_E N y l)).bind fun o => fk_ev (d + 1) qL_law 1068 L (o.1.toList ++ [w0]) o.2) ∧
  (∀ (d : Nat) (L : List Value) (x y : Int32) (st : List Value) (h : fk_H), fk_ev d qL_law 1068 L (.int y :: .int x :: st) h = if x = y then fk_ev d qL_law 1211 L st h else fk_ev d qL_law 1071 L st h) ∧
  (∀ (d : Nat) (L st : List Value) (h : fk_H), fk_ev d qL_law 1071 L st h = fk_ev d qL_law 1072 L (.int (nI 0) :: st) h) ∧
  (∀ (d : Nat) (L : List Value) (h : fk_H), fk_ev d qL_law 1072 L [.int (nI 0)] h = some (some (.int (nI 0)), h)) ∧
  (∀ (d : Nat) (L : List Value) (h : fk_H), fk_ev d qL_law 1072 L [.int (nI 1)] h = some (some (.int (nI 1)), h)) ∧
  (∀ (d : Nat) (L : List Value) (p : Prop) [Decidable p] (h : fk_H), fk_ev d qL_law 1072 L [.int (fk_b p)] h = some (some (.int (fk_b p)), h)) ∧
  (∀ (d : Nat) (L : List Value) (x : Int32) (h : fk_H), (x = nI 0 ∨ x = nI 1) → fk_ev d qL_law 1072 L [.int x] h = some (some (.int x), h)) ∧
  (∀ (d : Nat) (a0 a2 a3 : Value) (x : Nat) (st : List Value) (h : fk_H), fk_ev d qL_law 1073 [a0, .ref x, a2, a3] st h = fk_ev d qL_law 1074 [a0, .ref x, a2, a3] (.ref x :: st) h) ∧
  (∀ (d : Nat) (a1 a2 a3 : Value) (x : Nat) (st : List Value) (h : fk_H), fk_ev d qL_law 1074 [.ref x, a1, a2, a3] st h = fk_ev d qL_law 1075 [.ref x, a1, a2, a3] (.ref x :: st) h) ∧
  (∀ (d : Nat) (a0 a1 a2 : Value) (x : Int32) (st : List Value) (h : fk_H), fk_ev d qL_law 1075 [a0, a1, a2, .int x] st h = fk_ev d qL_law 1076 [a0, a1, a2, .int x] (.int x :: st) h) ∧
  (∀ (d : Nat) (L st : List Value) (h : fk_H), fk_ev d qL_law 1076 L st h = fk_ev d qL_law 1077 L (.int (nI 1) :: st) h) ∧
  (∀ (d : Nat) (L : List Value) (x y : Int32) (st : List Value) (h : fk_H), fk_ev d qL_law 1077 L (.int y :: .int x :: st) h = fk_ev d qL_law 1078 L (.int (x + y) :: st) h) ∧
  (∀ (d : Nat) (L st : List Value) (N : Nat) (y : Nat → Nat → Int32) (l : Nat → Nat → Int64) (i : Nat), i < N → N < 2 ^ 31 → fk_ev d qL_law 1078 L (.int (nI i) :: .ref 0 :: st) (fk_E N y l) = fk_ev d qL_law 1079 L (.int (y 0 i) :: st) (fk_E N y l)) ∧
  (∀ (d : Nat) (a1 a2 a3 : Value) (x : Nat) (st : List Value) (h : fk_H), fk_ev d qL_law 1079 [.ref x, a1, a2, a3] st h = fk_ev d qL_law 1080 [.ref x, a1, a2, a3] (.ref x :: st) h) ∧
  (∀ (d : Nat) (a0 a1 a2 : Value) (x : Int32) (st : List Value) (h : fk_H), fk_ev d qL_law 1080 [a0, a1, a2, .int x] st h = fk_ev d qL_law 1081 [a0, a1, a2, .int x] (.int x :: st) h) ∧
  (∀ (d : Nat) (L st : List Value) (h : fk_H), fk_ev d qL_law 1081 L st h = fk_ev d qL_law 1082 L (.int (nI 2) :: st) h) ∧
  (∀ (d : Nat) (L : List Value) (x y : Int32) (st : List Value) (h : fk_H), fk_ev d qL_law 1082 L (.int y :: .int x :: st) h = fk_ev d qL_law 1083 L (.int (x + y) :: st) h) ∧
  (∀ (d : Nat) (L st : List Value) (N : Nat) (y : Nat → Nat → Int32) (l : Nat → Nat → Int64) (i : Nat), i < N → N < 2 ^ 31 → fk_ev d qL_law 1083 L (.int (nI i) :: .ref 0 :: st) (fk_E N y l) = fk_ev d qL_law 1084 L (.int (y 0 i) :: st) (fk_E N y l)) ∧
  (∀ (d : Nat) (a1 a2 a3 : Value) (x : Nat) (st : List Value) (h : fk_H), fk_ev d qL_law 1084 [.ref x, a1, a2, a3] st h = fk_ev d qL_law 1085 [.ref x, a1, a2, a3] (.ref x :: st) h) ∧
  (∀ (d : Nat) (a0 a1 a2 : Value) (x : Int32) (st : List Value) (h : fk_H), fk_ev d qL_law 1085 [a0, a1, a2, .int x] st h = fk_ev d qL_law 1086 [a0, a1, a2, .int x] (.int x :: st) h) ∧
  (∀ (d : Nat) (L st : List Value) (h : fk_H), fk_ev d qL_law 1086 L st h = fk_ev d qL_law 1087 L (.int (nI 3) :: st) h) ∧
  (∀ (d : Nat) (L : List Value) (x y : Int32) (st : List Value) (h : fk_H), fk_ev d qL_law 1087 L (.int y :: .int x :: st) h = fk_ev d qL_law 1088 L (.int (x + y) :: st) h) ∧
  (∀ (d : Nat) (L st : List Value) (N : Nat) (y : Nat → Nat → Int32) (l : Nat → Nat → Int64) (i : Nat), i < N → N < 2 ^ 31 → fk_ev d qL_law 1088 L (.int (nI i) :: .ref 0 :: st) (fk_E N y l) = fk_ev d qL_law 1089 L (.int (y 0 i) :: st) (fk_E N y l)) ∧
  (∀ (d : Nat) (L : List Value) (x0 : Int32) (x1 : Int32) (x2 : Int32)  (N : Nat) (y : Nat → Nat → Int32) (l : Nat → Nat → Int64), fk_ev (d + 1) qL_law 1089 L (.int x2 :: .int x1 :: .int x0 :: .ref 1 :: []) (fk_E N y l) = (fk_ev d qX11_vote 0 [.ref 1, .int x0, .int x1, .int x2, .null, .null] [] (fk_E N y l)).bind fun o => fk_ev (d + 1) qL_law 1092 L (o.1.toList ++ []) o.2) ∧
  (∀ (d : Nat) (a0 a1 a3 : Value) (x : Nat) (st : List Value) (h : fk_H), fk_ev d qL_law 1092 [a0, a1, .ref x, a3] st h = fk_ev d qL_law 1093 [a0, a1, .ref x, a3] (.ref x :: st) h) ∧
  (∀ (d : Nat) (a1 a2 a3 : Value) (x : Nat) (st : List Value) (h : fk_H), fk_ev d qL_law 1093 [.ref x, a1, a2, a3] st h = fk_ev d qL_law 1094 [.ref x, a1, a2, a3] (.ref x :: st) h) ∧
  (∀ (d : Nat) (a0 a1 a2 : Value) (x : Int32) (st : List Value) (h : fk_H), fk_ev d qL_law 1094 [a0, a1, a2, .int x] st h = fk_ev d qL_law 1095 [a0, a1, a2, .int x] (.int x :: st) h) ∧
  (∀ (d : Nat) (L st : List Value) (h : fk_H), fk_ev d qL_law 1095 L st h = fk_ev d qL_law 1096 L (.int (nI 1) :: st) h) ∧
  (∀ (d : Nat) (L : List Value) (x y : Int32) (st : List Value) (h : fk_H), fk_ev d qL_law 1096 L (.int y :: .int x :: st) h = fk_ev d qL_law 1097 L (.int (x + y) :: st) h) ∧
  (∀ (d : Nat) (L st : List Value) (N : Nat) (y : Nat → Nat → Int32) (l : Nat → Nat → Int64) (i : Nat), i < N → N < 2 ^ 31 → fk_ev d qL_law 1097 L (.int (nI i) :: .ref 0 :: st) (fk_E N y l) = fk_ev d qL_law 1098 L (.int (y 0 i) :: st) (fk_E N y l)) ∧
  (∀ (d : Nat) (a1 a2 a3 : Value) (x : Nat) (st : List Value) (h : fk_H), fk_ev d qL_law 1098 [.ref x, a1, a2, a3] st h = fk_ev d qL_law 1099 [.ref x, a1, a2, a3] (.ref x :: st) h) ∧
  (∀ (d : Nat) (a0 a1 a2 : Value) (x : Int32) (st : List Value) (h : fk_H), fk_ev d qL_law 1099 [a0, a1, a2, .int x] st h = fk_ev d qL_law 1100 [a0, a1, a2, .int x] (.int x :: st) h) ∧
  (∀ (d : Nat) (L st : List Value) (h : fk_H), fk_ev d qL_law 1100 L st h = fk_ev d qL_law 1101 L (.int (nI 2) :: st) h) ∧
  (∀ (d : Nat) (L : List Value) (x y : Int32) (st : List Value) (h : fk_H), fk_ev d qL_law 1101 L (.int y :: .int x :: st) h = fk_ev d qL_law 1102 L (.int (x + y) :: st) h) ∧
  (∀ (d : Nat) (L st : List Value) (N : Nat) (y : Nat → Nat → Int32) (l : Nat → Nat → Int64) (i : Nat), i < N → N < 2 ^ 31 → fk_ev d qL_law 1102 L (.int (nI i) :: .ref 0 :: st) (fk_E N y l) = fk_ev d qL_law 1103 L (.int (y 0 i) :: st) (fk_E N y l)) ∧
  (∀ (d : Nat) (a1 a2 a3 : Value) (x : Nat) (st : List Value) (h : fk_H), fk_ev d qL_law 1103 [.ref x, a1, a2, a3] st h = fk_ev d qL_law 1104 [.ref x, a1, a2, a3] (.ref x :: st) h) ∧
  (∀ (d : Nat) (a0 a1 a2 : Value) (x : Int32) (st : List Value) (h : fk_H), fk_ev d qL_law 1104 [a0, a1, a2, .int x] st h = fk_ev d qL_law 1105 [a0, a1, a2, .int x] (.int x :: st) h) ∧
  (∀ (d : Nat) (L st : List Value) (h : fk_H), fk_ev d qL_law 1105 L st h = fk_ev d qL_law 1106 L (.int (nI 3) :: st) h) ∧
  (∀ (d : Nat) (L : List Value) (x y : Int32) (st : List Value) (h : fk_H), fk_ev d qL_law 1106 L (.int y :: .int x :: st) h = fk_ev d qL_law 1107 L (.int (x + y) :: st) h) ∧
  (∀ (d : Nat) (L st : List Value) (N : Nat) (y : Nat → Nat → Int32) (l : Nat → Nat → Int64) (i : Nat), i < N → N < 2 ^ 31 → fk_ev d qL_law 1107 L (.int (nI i) :: .ref 0 :: st) (fk_E N y l) = fk_ev d qL_law 1108 L (.int (y 0 i) :: st) (fk_E N y l)) ∧
  (∀ (d : Nat) (L : List Value) (x0 : Int32) (x1 : Int32) (x2 : Int32) (w0 : Value) (N : Nat) (y : Nat → Nat → Int32) (l : Nat → Nat → Int64), fk_ev (d + 1) qL_law 1108 L (.int x2 :: .int x1 :: .int x0 :: .ref 246 :: [w0]) (fk_E N y l) = (fk_ev d qX12_vote 0 [.ref 246, .int x0, .int x1, .int x2, .null, .null] [] (fk_E N y l)).bind fun o => fk_ev (d + 1) qL_law 1111 L (o.1.toList ++ [w0]) o.2) ∧
  (∀ (d : Nat) (L : List Value) (x y : Int32) (st : List Value) (h : fk_H), fk_ev d qL_law 1111 L (.int y :: .int x :: st) h = if x = y then fk_ev d qL_law 1211 L st h else fk_ev d qL_law 1114 L st h) ∧
  (∀ (d : Nat) (L st : List Value) (h : fk_H), fk_ev d qL_law 1114 L st h = fk_ev d qL_law 1115 L (.int (nI 0) :: st) h) ∧
  (∀ (d : Nat) (L : List Value) (h : fk_H), fk_ev d qL_law 1115 L [.int (nI 0)] h = some (some (.int (nI 0)), h)) ∧
  (∀ (d : Nat) (L : List Value) (h : fk_H), fk_ev d qL_law 1115 L [.int (nI 1)] h = some (some (.int (nI 1)), h)) ∧
  (∀ (d : Nat) (L : List Value) (p : Prop) [Decidable p] (h : fk_H), fk_ev d qL_law 1115 L [.int (fk_b p)] h = some (some (.int (fk_b p)), h)) ∧
  (∀ (d : Nat) (L : List Value) (x : Int32) (h : fk_H), (x = nI 0 ∨ x = nI 1) → fk_ev d qL_law 1115 L [.int x] h = some (some (.int x), h)) ∧
  (∀ (d : Nat) (a0 a2 a3 : Value) (x : Nat) (st : List Value) (h : fk_H), fk_ev d qL_law 1116 [a0, .ref x, a2, a3] st h = fk_ev d qL_law 1117 [a0, .ref x, a2, a3] (.ref x :: st) h) ∧
  (∀ (d : Nat) (a1 a2 a3 : Value) (x : Nat) (st : List Value) (h : fk_H), fk_ev d qL_law 1117 [.ref x, a1, a2, a3] st h = fk_ev d qL_law 1118 [.ref x, a1, a2, a3] (.ref x :: st) h) ∧
  (∀ (d : Nat) (a0 a1 a2 : Value) (x : Int32) (st : List Value) (h : fk_H), fk_ev d qL_law 1118 [a0, a1, a2, .int x] st h = fk_ev d qL_law 1119 [a0, a1, a2, .int x] (.int x :: st) h) ∧
  (∀ (d : Nat) (L st : List Value) (h : fk_H), fk_ev d qL_law 1119 L st h = fk_ev d qL_law 1120 L (.int (nI 1) :: st) h) ∧
  (∀ (d : Nat) (L : List Value) (x y : Int32) (st : List Value) (h : fk_H), fk_ev d qL_law 1120 L (.int y :: .int x :: st) h = fk_ev d qL_law 1121 L (.int (x + y) :: st) h) ∧
  (∀ (d : Nat) (L st : List Value) (N : Nat) (y : Nat → Nat → Int32) (l : Nat → Nat → Int64) (i : Nat), i < N → N < 2 ^ 31 → fk_ev d qL_law 1121 L (.int (nI i) :: .ref 0 :: st) (fk_E N y l) = fk_ev d qL_law 1122 L (.int (y 0 i) :: st) (fk_E N y l)) ∧
  (∀ (d : Nat) (L : List Value) (x0 : Int32)  (N : Nat) (y : Nat → Nat → Int32) (l : Nat → Nat → Int64), fk_ev (d + 1) qL_law 1122 L (.int x0 :: .ref 1 :: []) (fk_E N y l) = (fk_ev d qX11_seed 0 [.ref 1, .int x0] [] (fk_E N y l)).bind fun o => fk_ev (d + 1) qL_law 1125 L (o.1.toList ++ []) o.2) ∧
  (∀ (d : Nat) (a0 a1 a3 : Value) (x : Nat) (st : List Value) (h : fk_H), fk_ev d qL_law 1125 [a0, a1, .ref x, a3] st h = fk_ev d qL_law 1126 [a0, a1, .ref x, a3] (.ref x :: st) h) ∧
  (∀ (d : Nat) (a1 a2 a3 : Value) (x : Nat) (st : List Value) (h : fk_H), fk_ev d qL_law 1126 [.ref x, a1, a2, a3] st h = fk_ev d qL_law 1127 [.ref x, a1, a2, a3] (.ref x :: st) h) ∧
  (∀ (d : Nat) (a0 a1 a2 : Value) (x : Int32) (st : List Value) (h : fk_H), fk_ev d qL_law 1127 [a0, a1, a2, .int x] st h = fk_ev d qL_law 1128 [a0, a1, a2, .int x] (.int x :: st) h) ∧
  (∀ (d : Nat) (L st : List Value) (h : fk_H), fk_ev d qL_law 1128 L st h = fk_ev d qL_law 1129 L (.int (nI 1) :: st) h) ∧
  (∀ (d : Nat) (L : List Value) (x y : Int32) (st : List Value) (h : fk_H), fk_ev d qL_law 1129 L (.int y :: .int x :: st) h = fk_ev d qL_law 1130 L (.int (x + y) :: st) h) ∧
  (∀ (d : Nat) (L st : List Value) (N : Nat) (y : Nat → Nat → Int32) (l : Nat → Nat → Int64) (i : Nat), i < N → N < 2 ^ 31 → fk_ev d qL_law 1130 L (.int (nI i) :: .ref 0 :: st) (fk_E N y l) = fk_ev d qL_law 1131 L (.int (y 0 i) :: st) (fk_E N y l)) ∧
  (∀ (d : Nat) (L : List Value) (x0 : Int32) (w0 : Value) (N : Nat) (y : Nat → Nat → Int32) (l : Nat → Nat → Int64), fk_ev (d + 1) qL_law 1131 L (.int x0 :: .ref 246 :: [w0]) (fk_E N y l) = (fk_ev d qX12_seed 0 [.ref 246, .int x0] [] (fk_E N y l)).bind fun o => fk_ev (d + 1) qL_law 1134 L (o.1.toList ++ [w0]) o.2) ∧
  (∀ (d : Nat) (L : List Value) (x y : Int32) (st : List Value) (h : fk_H), fk_ev d qL_law 1134 L (.int y :: .int x :: st) h = if x = y then fk_ev d qL_law 1211 L st h else fk_ev d qL_law 1137 L st h) ∧
  (∀ (d : Nat) (L st : List Value) (h : fk_H), fk_ev d qL_law 1137 L st h = fk_ev d qL_law 1138 L (.int (nI 0) :: st) h) ∧
  (∀ (d : Nat) (L : List Value) (h : fk_H), fk_ev d qL_law 1138 L [.int (nI 0)] h = some (some (.int (nI 0)), h)) ∧
  (∀ (d : Nat) (L : List Value) (h : fk_H), fk_ev d qL_law 1138 L [.int (nI 1)] h = some (some (.int (nI 1)), h)) ∧
  (∀ (d : Nat) (L : List Value) (p : Prop) [Decidable p] (h : fk_H), fk_ev d qL_law 1138 L [.int (fk_b p)] h = some (some (.int (fk_b p)), h)) ∧
  (∀ (d : Nat) (L : List Value) (x : Int32) (h : fk_H), (x = nI 0 ∨ x = nI 1) → fk_ev d qL_law 1138 L [.int x] h = some (some (.int x), h)) ∧
  (∀ (d : Nat) (a0 a2 a3 : Value) (x : Nat) (st : List Value) (h : fk_H), fk_ev d qL_law 1139 [a0, .ref x, a2, a3] st h = fk_ev d qL_law 1140 [a0, .ref x, a2, a3] (.ref x :: st) h) ∧
  (∀ (d : Nat) (L : List Value)   (N : Nat) (y : Nat → Nat → Int32) (l : Nat → Nat → Int64), fk_ev (d + 1) qL_law 1140 L (.ref 1 :: []) (fk_E N y l) = (fk_ev d qX11_keep 0 [.ref 1] [] (fk_E N y l)).bind fun o => fk_ev (d + 1) qL_law 1143 L (o.1.toList ++ []) o.2) ∧
  (∀ (d : Nat) (a0 a1 a3 : Value) (x : Nat) (st : List Value) (h : fk_H), fk_ev d qL_law 1143 [a0, a1, .ref x, a3] st h = fk_ev d qL_law 1144 [a0, a1, .ref x, a3] (.ref x :: st) h) ∧
  (∀ (d : Nat) (L : List Value)  (w0 : Value) (N : Nat) (y : Nat → Nat → Int32) (l : Nat → Nat → Int64), fk_ev (d + 1) qL_law 1144 L (.ref 246 :: [w0]) (fk_E N y l) = (fk_ev d qX12_keep 0 [.ref 246] [] (fk_E N y l)).bind fun o => fk_ev (d + 1) qL_law 1147 L (o.1.toList ++ [w0]) o.2) ∧
  (∀ (d : Nat) (L : List Value) (x y : Int32) (st : List Value) (h : fk_H), fk_ev d qL_law 1147 L (.int y :: .int x :: st) h = if x = y then fk_ev d qL_law 1211 L st h else fk_ev d qL_law 1150 L st h) ∧
  (∀ (d : Nat) (L st : List Value) (h : fk_H), fk_ev d qL_law 1150 L st h = fk_ev d qL_law 1151 L (.int (nI 0) :: st) h) ∧
  (∀ (d : Nat) (L : List Value) (h : fk_H), fk_ev d qL_law 1151 L [.int (nI 0)] h = some (some (.int (nI 0)), h)) ∧
  (∀ (d : Nat) (L : List Value) (h : fk_H), fk_ev d qL_law 1151 L [.int (nI 1)] h = some (some (.int (nI 1)), h)) ∧
  (∀ (d : Nat) (L : List Value) (p : Prop) [Decidable p] (h : fk_H), fk_ev d qL_law 1151 L [.int (fk_b p)] h = some (some (.int (fk_b p)), h)) ∧
  (∀ (d : Nat) (L : List Value) (x : Int32) (h : fk_H), (x = nI 0 ∨ x = nI 1) → fk_ev d qL_law 1151 L [.int x] h = some (some (.int x), h)) ∧
  (∀ (d : Nat) (a0 a2 a3 : Value) (x : Nat) (st : List Value) (h : fk_H), fk_ev d qL_law 1152 [a0, .ref x, a2, a3] st h = fk_ev d qL_law 1153 [a0, .ref x, a2, a3] (.ref x :: st) h) ∧
  (∀ (d : Nat) (L : List Value)   (N : Nat) (y : Nat → Nat → Int32) (l : Nat → Nat → Int64), fk_ev (d + 1) qL_law 1153 L (.ref 1 :: []) (fk_E N y l) = (fk_ev d qX11_undo 0 [.ref 1] [] (fk_E N y l)).bind fun o => fk_ev (d + 1) qL_law 1156 L (o.1.toList ++ []) o.2) ∧
  (∀ (d : Nat) (a0 a1 a3 : Value) (x : Nat) (st : List Value) (h : fk_H), fk_ev d qL_law 1156 [a0, a1, .ref x, a3] st h = fk_ev d qL_law 1157 [a0, a1, .ref x, a3] (.ref x :: st) h) ∧
  (∀ (d : Nat) (L : List Value)  (w0 : Value) (N : Nat) (y : Nat → Nat → Int32) (l : Nat → Nat → Int64), fk_ev (d + 1) qL_law 1157 L (.ref 246 :: [w0]) (fk_E N y l) = (fk_ev d qX12_undo 0 [.ref 246] [] (fk_E N y l)).bind fun o => fk_ev (d + 1) qL_law 1160 L (o.1.toList ++ [w0]) o.2) ∧
  (∀ (d : Nat) (L : List Value) (x y : Int32) (st : List Value) (h : fk_H), fk_ev d qL_law 1160 L (.int y :: .int x :: st) h = if x = y then fk_ev d qL_law 1211 L st h else fk_ev d qL_law 1163 L st h) ∧
  (∀ (d : Nat) (L st : List Value) (h : fk_H), fk_ev d qL_law 1163 L st h = fk_ev d qL_law 1164 L (.int (nI 0) :: st) h) ∧
  (∀ (d : Nat) (L : List Value) (h : fk_H), fk_ev d qL_law 1164 L [.int (nI 0)] h = some (some (.int (nI 0)), h)) ∧
  (∀ (d : Nat) (L : List Value) (h : fk_H), fk_ev d qL_law 1164 L [.int (nI 1)] h = some (some (.int (nI 1)), h)) ∧
  (∀ (d : Nat) (L : List Value) (p : Prop) [Decidable p] (h : fk_H), fk_ev d qL_law 1164 L [.int (fk_b p)] h = some (some (.int (fk_b p)), h)) ∧
  (∀ (d : Nat) (L : List Value) (x : Int32) (h : fk_H), (x = nI 0 ∨ x = nI 1) → fk_ev d qL_law 1164 L [.int x] h = some (some (.int x), h)) ∧
  (∀ (d : Nat) (a0 a2 a3 : Value) (x : Nat) (st : List Value) (h : fk_H), fk_ev d qL_law 1165 [a0, .ref x, a2, a3] st h = fk_ev d qL_law 1166 [a0, .ref x, a2, a3] (.ref x :: st) h) ∧
  (∀ (d : Nat) (a1 a2 a3 : Value) (x : Nat) (st : List Value) (h : fk_H), fk_ev d qL_law 1166 [.ref x, a1, a2, a3] st h = fk_ev d qL_law 1167 [.ref x, a1, a2, a3] (.ref x :: st) h) ∧
  (∀ (d : Nat) (a0 a1 a2 : Value) (x : Int32) (st : List Value) (h : fk_H), fk_ev d qL_law 1167 [a0, a1, a2, .int x] st h = fk_ev d qL_law 1168 [a0, a1, a2, .int x] (.int x :: st) h) ∧
  (∀ (d : Nat) (L st : List Value) (h : fk_H), fk_ev d qL_law 1168 L st h = fk_ev d qL_law 1169 L (.int (nI 1) :: st) h) ∧
  (∀ (d : Nat) (L : List Value) (x y : Int32) (st : List Value) (h : fk_H), fk_ev d qL_law 1169 L (.int y :: .int x :: st) h = fk_ev d qL_law 1170 L (.int (x + y) :: st) h) ∧
  (∀ (d : Nat) (L st : List Value) (N : Nat) (y : Nat → Nat → Int32) (l : Nat → Nat → Int64) (i : Nat), i < N → N < 2 ^ 31 → fk_ev d qL_law 1170 L (.int (nI i) :: .ref 0 :: st) (fk_E N y l) = fk_ev d qL_law 1171 L (.int (y 0 i) :: st) (fk_E N y l)) ∧
  (∀ (d : Nat) (L : List Value) (x0 : Int32)  (N : Nat) (y : Nat → Nat → Int32) (l : Nat → Nat → Int64), fk_ev (d + 1) qL_law 1171 L (.int x0 :: .ref 1 :: []) (fk_E N y l) = (fk_ev d qX11_check 0 [.ref 1, .int x0, .null, .null, .null] [] (fk_E N y l)).bind fun o => fk_ev (d + 1) qL_law 1174 L (o.1.toList ++ []) o.2) ∧
  (∀ (d : Nat) (a0 a1 a3 : Value) (x : Nat) (st : List Value) (h : fk_H), fk_ev d qL_law 1174 [a0, a1, .ref x, a3] st h = fk_ev d qL_law 1175 [a0, a1, .ref x, a3] (.ref x :: st) h) ∧
  (∀ (d : Nat) (a1 a2 a3 : Value) (x : Nat) (st : List Value) (h : fk_H), fk_ev d qL_law 1175 [.ref x, a1, a2, a3] st h = fk_ev d qL_law 1176 [.ref x, a1, a2, a3] (.ref x :: st) h) ∧
  (∀ (d : Nat) (a0 a1 a2 : Value) (x : Int32) (st : List Value) (h : fk_H), fk_ev d qL_law 1176 [a0, a1, a2, .int x] st h = fk_ev d qL_law 1177 [a0, a1, a2, .int x] (.int x :: st) h) ∧
  (∀ (d : Nat) (L st : List Value) (h : fk_H), fk_ev d qL_law 1177 L st h = fk_ev d qL_law 1178 L (.int (nI 1) :: st) h) ∧
  (∀ (d : Nat) (L : List Value) (x y : Int32) (st : List Value) (h : fk_H), fk_ev d qL_law 1178 L (.int y :: .int x :: st) h = fk_ev d qL_law 1179 L (.int (x + y) :: st) h) ∧
  (∀ (d : Nat) (L st : List Value) (N : Nat) (y : Nat → Nat → Int32) (l : Nat → Nat → Int64) (i : Nat), i < N → N < 2 ^ 31 → fk_ev d qL_law 1179 L (.int (nI i) :: .ref 0 :: st) (fk_E N y l) = fk_ev d qL_law 1180 L (.int (y 0 i) :: st) (fk_E N y l)) ∧
  (∀ (d : Nat) (L : List Value) (x0 : Int32) (w0 : Value) (N : Nat) (y : Nat → Nat → Int32) (l : Nat → Nat → Int64), fk_ev (d + 1) qL_law 1180 L (.int x0 :: .ref 246 :: [w0]) (fk_E N y l) = (fk_ev d qX12_check 0 [.ref 246, .int x0, .null] [] (fk_E N y l)).bind fun o => fk_ev (d + 1) qL_law 1183 L (o.1.toList ++ [w0]) o.2) ∧
  (∀ (d : Nat) (L : List Value) (x y : Int32) (st : List Value) (h : fk_H), fk_ev d qL_law 1183 L (.int y :: .int x :: st) h = if x = y then fk_ev d qL_law 1211 L st h else fk_ev d qL_law 1186 L st h) ∧
  (∀ (d : Nat) (L st : List Value) (h : fk_H), fk_ev d qL_law 1186 L st h = fk_ev d qL_law 1187 L (.int (nI 0) :: st) h) ∧
  (∀ (d : Nat) (L : List Value) (h : fk_H), fk_ev d qL_law 1187 L [.int (nI 0)] h = some (some (.int (nI 0)), h)) ∧
  (∀ (d : Nat) (L : List Value) (h : fk_H), fk_ev d qL_law 1187 L [.int (nI 1)] h = some (some (.int (nI 1)), h)) ∧
  (∀ (d : Nat) (L : List Value) (p : Prop) [Decidable p] (h : fk_H), fk_ev d qL_law 1187 L [.int (fk_b p)] h = some (some (.int (fk_b p)), h)) ∧
  (∀ (d : Nat) (L : List Value) (x : Int32) (h : fk_H), (x = nI 0 ∨ x = nI 1) → fk_ev d qL_law 1187 L [.int x] h = some (some (.int x), h)) ∧
  (∀ (d : Nat) (a0 a2 a3 : Value) (x : Nat) (st : List Value) (h : fk_H), fk_ev d qL_law 1188 [a0, .ref x, a2, a3] st h = fk_ev d qL_law 1189 [a0, .ref x, a2, a3] (.ref x :: st) h) ∧
  (∀ (d : Nat) (a1 a2 a3 : Value) (x : Nat) (st : List Value) (h : fk_H), fk_ev d qL_law 1189 [.ref x, a1, a2, a3] st h = fk_ev d qL_law 1190 [.ref x, a1, a2, a3] (.ref x :: st) h) ∧
  (∀ (d : Nat) (a0 a1 a2 : Value) (x : Int32) (st : List Value) (h : fk_H), fk_ev d qL_law 1190 [a0, a1, a2, .int x] st h = fk_ev d qL_law 1191 [a0, a1, a2, .int x] (.int x :: st) h) ∧
  (∀ (d : Nat) (L st : List Value) (h : fk_H), fk_ev d qL_law 1191 L st h = fk_ev d qL_law 1192 L (.int (nI 1) :: st) h) ∧
  (∀ (d : Nat) (L : List Value) (x y : Int32) (st : List Value) (h : fk_H), fk_ev d qL_law 1192 L (.int y :: .int x :: st) h = fk_ev d qL_law 1193 L (.int (x + y) :: st) h) ∧
  (∀ (d : Nat) (L st : List Value) (N : Nat) (y : Nat → Nat → Int32) (l : Nat → Nat → Int64) (i : Nat), i < N → N < 2 ^ 31 → fk_ev d qL_law 1193 L (.int (nI i) :: .ref 0 :: st) (fk_E N y l) = fk_ev d qL_law 1194 L (.int (y 0 i) :: st) (fk_E N y l)) ∧
  (∀ (d : Nat) (L : List Value) (x0 : Int32)  (N : Nat) (y : Nat → Nat → Int32) (l : Nat → Nat → Int64), fk_ev (d + 1) qL_law 1194 L (.int x0 :: .ref 1 :: []) (fk_E N y l) = (fk_ev d qX11_count 0 [.ref 1, .int x0] [] (fk_E N y l)).bind fun o => fk_ev (d + 1) qL_law 1197 L (o.1.toList ++ []) o.2) ∧
  (∀ (d : Nat) (a0 a1 a3 : Value) (x : Nat) (st : List Value) (h : fk_H), fk_ev d qL_law 1197 [a0, a1, .ref x, a3] st h = fk_ev d qL_law 1198 [a0, a1, .ref x, a3] (.ref x :: st) h) ∧
  (∀ (d : Nat) (a1 a2 a3 : Value) (x : Nat) (st : List Value) (h : fk_H), fk_ev d qL_law 1198 [.ref x, a1, a2, a3] st h = fk_ev d qL_law 1199 [.ref x, a1, a2, a3] (.ref x :: st) h) ∧
  (∀ (d : Nat) (a0 a1 a2 : Value) (x : Int32) (st : List Value) (h : fk_H), fk_ev d qL_law 1199 [a0, a1, a2, .int x] st h = fk_ev d qL_law 1200 [a0, a1, a2, .int x] (.int x :: st) h) ∧
  (∀ (d : Nat) (L st : List Value) (h : fk_H), fk_ev d qL_law 1200 L st h = fk_ev d qL_law 1201 L (.int (nI 1) :: st) h) ∧
  (∀ (d : Nat) (L : List Value) (x y : Int32) (st : List Value) (h : fk_H), fk_ev d qL_law 1201 L (.int y :: .int x :: st) h = fk_ev d qL_law 1202 L (.int (x + y) :: st) h) ∧
  (∀ (d : Nat) (L st : List Value) (N : Nat) (y : Nat → Nat → Int32) (l : Nat → Nat → Int64) (i : Nat), i < N → N < 2 ^ 31 → fk_ev d qL_law 1202 L (.int (nI i) :: .ref 0 :: st) (fk_E N y l) = fk_ev d qL_law 1203 L (.int (y 0 i) :: st) (fk_E N y l)) ∧
  (∀ (d : Nat) (L : List Value) (x0 : Int32) (w0 : Value) (N : Nat) (y : Nat → Nat → Int32) (l : Nat → Nat → Int64), fk_ev (d + 1) qL_law 1203 L (.int x0 :: .ref 246 :: [w0]) (fk_E N y l) = (fk_ev d qX12_count 0 [.ref 246, .int x0] [] (fk_E N y l)).bind fun o => fk_ev (d + 1) qL_law 1206 L (o.1.toList ++ [w0]) o.2) ∧
  (∀ (d : Nat) (L : List Value) (x y : Int32) (st : List Value) (h : fk_H), fk_ev d qL_law 1206 L (.int y :: .int x :: st) h = if x = y then fk_ev d qL_law 1211 L st h else fk_ev d qL_law 1209 L st h) ∧
  (∀ (d : Nat) (L st : List Value) (h : fk_H), fk_ev d qL_law 1209 L st h = fk_ev d qL_law 1210 L (.int (nI 0) :: st) h) ∧
  (∀ (d : Nat) (L : List Value) (h : fk_H), fk_ev d qL_law 1210 L [.int (nI 0)] h = some (some (.int (nI 0)), h)) ∧
  (∀ (d : Nat) (L : List Value) (h : fk_H), fk_ev d qL_law 1210 L [.int (nI 1)] h = some (some (.int (nI 1)), h)) ∧
  (∀ (d : Nat) (L : List Value) (p : Prop) [Decidable p] (h : fk_H), fk_ev d qL_law 1210 L [.int (fk_b p)] h = some (some (.int (fk_b p)), h)) ∧
  (∀ (d : Nat) (L : List Value) (x : Int32) (h : fk_H), (x = nI 0 ∨ x = nI 1) → fk_ev d qL_law 1210 L [.int x] h = some (some (.int x), h)) ∧
  (∀ (d : Nat) (a0 a1 a2 : Value) (x : Int32) (st : List Value) (h : fk_H), fk_ev d qL_law 1211 [a0, a1, a2, .int x] st h = fk_ev d qL_law 1214 [a0, a1, a2, .int (x + nI 6)] st h) ∧
  (∀ (d : Nat) (L st : List Value) (h : fk_H), fk_ev d qL_law 1214 L st h = fk_ev d qL_law 18 L st h) ∧
  (∀ (d : Nat) (L st : List Value) (h : fk_H), fk_ev d qL_law 1217 L st h = fk_ev d qL_law 1218 L (.int (nI 1) :: st) h) ∧
  (∀ (d : Nat) (L : List Value) (h : fk_H), fk_ev d qL_law 1218 L [.int (nI 0)] h = some (some (.int (nI 0)), h)) ∧
  (∀ (d : Nat) (L : List Value) (h : fk_H), fk_ev d qL_law 1218 L [.int (nI 1)] h = some (some (.int (nI 1)), h)) ∧
  (∀ (d : Nat) (L : List Value) (p : Prop) [Decidable p] (h : fk_H), fk_ev d qL_law 1218 L [.int (fk_b p)] h = some (some (.int (fk_b p)), h)) ∧
  (∀ (d : Nat) (L : List Value) (x : Int32) (h : fk_H), (x = nI 0 ∨ x = nI 1) → fk_ev d qL_law 1218 L [.int x] h = some (some (.int x), h)) := ⟨fun d a1 a2 a3 x st h => fk_w_aloadn 0 [.ref x, a1, a2, a3] dL_law_1003 rfl,
  fun d a0 a1 a2 x st h => fk_w_iloadn 3 [a0, a1, a2, .int x] dL_law_1004 rfl,
  fun d L st h => fk_w_iconst dL_law_1005 (by decide),
  fun d L x y st h => fk_r_iadd dL_law_1006,
  fun d L st N y l i hi hN => fk_h_sld dL_law_1007 hi hN,
  fun d a1 a2 a3 x st h => fk_w_aloadn 0 [.ref x, a1, a2, a3] dL_law_1008 rfl,
  fun d a0 a1 a2 x st h => fk_w_iloadn 3 [a0, a1, a2, .int x] dL_law_1009 rfl,
  fun d L st h => fk_w_iconst dL_law_1010 (by decide),
  fun d L x y st h => fk_r_iadd dL_law_1011,
  fun d L st N y l i hi hN => fk_h_sld dL_law_1012 hi hN,
  fun d L x0 x1 x2 N y l  => fk_g_call [.int x0, .int x1, .int x2] [] rfl lm_13_110 dL_law_1013 rfl ⟨rfl, by decide⟩ (by simp) fk_at_1,
  fun d a0 a1 a3 x st h => fk_w_aloadn 2 [a0, a1, .ref x, a3] dL_law_1016 rfl,
  fun d a1 a2 a3 x st h => fk_w_aloadn 0 [.ref x, a1, a2, a3] dL_law_1017 rfl,
  fun d a0 a1 a2 x st h => fk_w_iloadn 3 [a0, a1, a2, .int x] dL_law_1018 rfl,
  fun d L st h => fk_w_iconst dL_law_1019 (by decide),
  fun d L x y st h => fk_r_iadd dL_law_1020,
  fun d L st N y l i hi hN => fk_h_sld dL_law_1021 hi hN,
  fun d a1 a2 a3 x st h => fk_w_aloadn 0 [.ref x, a1, a2, a3] dL_law_1022 rfl,
  fun d a0 a1 a2 x st h => fk_w_iloadn 3 [a0, a1, a2, .int x] dL_law_1023 rfl,
  fun d L st h => fk_w_iconst dL_law_1024 (by decide),
  fun d L x y st h => fk_r_iadd dL_law_1025,
  fun d L st N y l i hi hN => fk_h_sld dL_law_1026 hi hN,
  fun d a1 a2 a3 x st h => fk_w_aloadn 0 [.ref x, a1, a2, a3] dL_law_1027 rfl,
  fun d a0 a1 a2 x st h => fk_w_iloadn 3 [a0, a1, a2, .int x] dL_law_1028 rfl,
  fun d L st h => fk_w_iconst dL_law_1029 (by decide),
  fun d L x y st h => fk_r_iadd dL_law_1030,
  fun d L st N y l i hi hN => fk_h_sld dL_law_1031 hi hN,
  fun d L x0 x1 x2 w0 N y l  => fk_g_call [.int x0, .int x1, .int x2] [w0] rfl lm_13_113 dL_law_1032 rfl ⟨rfl, by decide⟩ (by simp) fk_at_246,
  fun d L x y st h => fk_r_icmp_eq dL_law_1035 (by decide),
  fun d L st h => fk_w_iconst dL_law_1038 (by decide),
  fun d L h => fk_r_ret dL_law_1039 (Or.inr (Or.inl ⟨rfl, by decide⟩)),
  fun d L h => fk_r_ret dL_law_1039 (Or.inr (Or.inl ⟨rfl, by decide⟩)),
  fun d L p _ h => fk_r_ret dL_law_1039 (Or.inr (Or.inl ⟨rfl, fk_b_01⟩)),
  fun d L x h hx => fk_r_ret dL_law_1039 (Or.inr (Or.inl ⟨rfl, hx⟩)),
  fun d a0 a2 a3 x st h => fk_w_aloadn 1 [a0, .ref x, a2, a3] dL_law_1040 rfl,
  fun d a1 a2 a3 x st h => fk_w_aloadn 0 [.ref x, a1, a2, a3] dL_law_1041 rfl,
  fun d a0 a1 a2 x st h => fk_w_iloadn 3 [a0, a1, a2, .int x] dL_law_1042 rfl,
  fun d L st h => fk_w_iconst dL_law_1043 (by decide),
  fun d L x y st h => fk_r_iadd dL_law_1044,
  fun d L st N y l i hi hN => fk_h_sld dL_law_1045 hi hN,
  fun d a1 a2 a3 x st h => fk_w_aloadn 0 [.ref x, a1, a2, a3] dL_law_1046 rfl,
  fun d a0 a1 a2 x st h => fk_w_iloadn 3 [a0, a1, a2, .int x] dL_law_1047 rfl,
  fun d L st h => fk_w_iconst dL_law_1048 (by decide),
  fun d L x y st h => fk_r_iadd dL_law_1049,
  fun d L st N y l i hi hN => fk_h_sld dL_law_1050 hi hN,
  fun d L x0 x1 N y l  => fk_g_call [.int x0, .int x1] [] rfl lm_13_114 dL_law_1051 rfl ⟨rfl, by decide⟩ (by simp) fk_at_1,
  fun d a0 a1 a3 x st h => fk_w_aloadn 2 [a0, a1, .ref x, a3] dL_law_1054 rfl,
  fun d a1 a2 a3 x st h => fk_w_aloadn 0 [.ref x, a1, a2, a3] dL_law_1055 rfl,
  fun d a0 a1 a2 x st h => fk_w_iloadn 3 [a0, a1, a2, .int x] dL_law_1056 rfl,
  fun d L st h => fk_w_iconst dL_law_1057 (by decide),
  fun d L x y st h => fk_r_iadd dL_law_1058,
  fun d L st N y l i hi hN => fk_h_sld dL_law_1059 hi hN,
  fun d a1 a2 a3 x st h => fk_w_aloadn 0 [.ref x, a1, a2, a3] dL_law_1060 rfl,
  fun d a0 a1 a2 x st h => fk_w_iloadn 3 [a0, a1, a2, .int x] dL_law_1061 rfl,
  fun d L st h => fk_w_iconst dL_law_1062 (by decide),
  fun d L x y st h => fk_r_iadd dL_law_1063,
  fun d L st N y l i hi hN => fk_h_sld dL_law_1064 hi hN,
  fun d L x0 x1 w0 N y l  => fk_g_call [.int x0, .int x1] [w0] rfl lm_13_117 dL_law_1065 rfl ⟨rfl, by decide⟩ (by simp) fk_at_246,
  fun d L x y st h => fk_r_icmp_eq dL_law_1068 (by decide),
  fun d L st h => fk_w_iconst dL_law_1071 (by decide),
  fun d L h => fk_r_ret dL_law_1072 (Or.inr (Or.inl ⟨rfl, by decide⟩)),
  fun d L h => fk_r_ret dL_law_1072 (Or.inr (Or.inl ⟨rfl, by decide⟩)),
  fun d L p _ h => fk_r_ret dL_law_1072 (Or.inr (Or.inl ⟨rfl, fk_b_01⟩)),
  fun d L x h hx => fk_r_ret dL_law_1072 (Or.inr (Or.inl ⟨rfl, hx⟩)),
  fun d a0 a2 a3 x st h => fk_w_aloadn 1 [a0, .ref x, a2, a3] dL_law_1073 rfl,
  fun d a1 a2 a3 x st h => fk_w_aloadn 0 [.ref x, a1, a2, a3] dL_law_1074 rfl,
  fun d a0 a1 a2 x st h => fk_w_iloadn 3 [a0, a1, a2, .int x] dL_law_1075 rfl,
  fun d L st h => fk_w_iconst dL_law_1076 (by decide),
  fun d L x y st h => fk_r_iadd dL_law_1077,
  fun d L st N y l i hi hN => fk_h_sld dL_law_1078 hi hN,
  fun d a1 a2 a3 x st h => fk_w_aloadn 0 [.ref x, a1, a2, a3] dL_law_1079 rfl,
  fun d a0 a1 a2 x st h => fk_w_iloadn 3 [a0, a1, a2, .int x] dL_law_1080 rfl,
  fun d L st h => fk_w_iconst dL_law_1081 (by decide),
  fun d L x y st h => fk_r_iadd dL_law_1082,
  fun d L st N y l i hi hN => fk_h_sld dL_law_1083 hi hN,
  fun d a1 a2 a3 x st h => fk_w_aloadn 0 [.ref x, a1, a2, a3] dL_law_1084 rfl,
  fun d a0 a1 a2 x st h => fk_w_iloadn 3 [a0, a1, a2, .int x] dL_law_1085 rfl,
  fun d L st h => fk_w_iconst dL_law_1086 (by decide),
  fun d L x y st h => fk_r_iadd dL_law_1087,
  fun d L st N y l i hi hN => fk_h_sld dL_law_1088 hi hN,
  fun d L x0 x1 x2 N y l  => fk_g_call [.int x0, .int x1, .int x2] [] rfl lm_13_118 dL_law_1089 rfl ⟨rfl, by decide⟩ (by simp) fk_at_1,
  fun d a0 a1 a3 x st h => fk_w_aloadn 2 [a0, a1, .ref x, a3] dL_law_1092 rfl,
  fun d a1 a2 a3 x st h => fk_w_aloadn 0 [.ref x, a1, a2, a3] dL_law_1093 rfl,
  fun d a0 a1 a2 x st h => fk_w_iloadn 3 [a0, a1, a2, .int x] dL_law_1094 rfl,
  fun d L st h => fk_w_iconst dL_law_1095 (by decide),
  fun d L x y st h => fk_r_iadd dL_law_1096,
  fun d L st N y l i hi hN => fk_h_sld dL_law_1097 hi hN,
  fun d a1 a2 a3 x st h => fk_w_aloadn 0 [.ref x, a1, a2, a3] dL_law_1098 rfl,
  fun d a0 a1 a2 x st h => fk_w_iloadn 3 [a0, a1, a2, .int x] dL_law_1099 rfl,
  fun d L st h => fk_w_iconst dL_law_1100 (by decide),
  fun d L x y st h => fk_r_iadd dL_law_1101,
  fun d L st N y l i hi hN => fk_h_sld dL_law_1102 hi hN,
  fun d a1 a2 a3 x st h => fk_w_aloadn 0 [.ref x, a1, a2, a3] dL_law_1103 rfl,
  fun d a0 a1 a2 x st h => fk_w_iloadn 3 [a0, a1, a2, .int x] dL_law_1104 rfl,
  fun d L st h => fk_w_iconst dL_law_1105 (by decide),
  fun d L x y st h => fk_r_iadd dL_law_1106,
  fun d L st N y l i hi hN => fk_h_sld dL_law_1107 hi hN,
  fun d L x0 x1 x2 w0 N y l  => fk_g_call [.int x0, .int x1, .int x2] [w0] rfl lm_13_121 dL_law_1108 rfl ⟨rfl, by decide⟩ (by simp) fk_at_246,
  fun d L x y st h => fk_r_icmp_eq dL_law_1111 (by decide),
  fun d L st h => fk_w_iconst dL_law_1114 (by decide),
  fun d L h => fk_r_ret dL_law_1115 (Or.inr (Or.inl ⟨rfl, by decide⟩)),
  fun d L h => fk_r_ret dL_law_1115 (Or.inr (Or.inl ⟨rfl, by decide⟩)),
  fun d L p _ h => fk_r_ret dL_law_1115 (Or.inr (Or.inl ⟨rfl, fk_b_01⟩)),
  fun d L x h hx => fk_r_ret dL_law_1115 (Or.inr (Or.inl ⟨rfl, hx⟩)),
  fun d a0 a2 a3 x st h => fk_w_aloadn 1 [a0, .ref x, a2, a3] dL_law_1116 rfl,
  fun d a1 a2 a3 x st h => fk_w_aloadn 0 [.ref x, a1, a2, a3] dL_law_1117 rfl,
  fun d a0 a1 a2 x st h => fk_w_iloadn 3 [a0, a1, a2, .int x] dL_law_1118 rfl,
  fun d L st h => fk_w_iconst dL_law_1119 (by decide),
  fun d L x y st h => fk_r_iadd dL_law_1120,
  fun d L st N y l i hi hN => fk_h_sld dL_law_1121 hi hN,
  fun d L x0 N y l  => fk_g_call [.int x0] [] rfl lm_13_122 dL_law_1122 rfl ⟨rfl, by decide⟩ (by simp) fk_at_1,
  fun d a0 a1 a3 x st h => fk_w_aloadn 2 [a0, a1, .ref x, a3] dL_law_1125 rfl,
  fun d a1 a2 a3 x st h => fk_w_aloadn 0 [.ref x, a1, a2, a3] dL_law_1126 rfl,
  fun d a0 a1 a2 x st h => fk_w_iloadn 3 [a0, a1, a2, .int x] dL_law_1127 rfl,
  fun d L st h => fk_w_iconst dL_law_1128 (by decide),
  fun d L x y st h => fk_r_iadd dL_law_1129,
  fun d L st N y l i hi hN => fk_h_sld dL_law_1130 hi hN,
  fun d L x0 w0 N y l  => fk_g_call [.int x0] [w0] rfl lm_13_126 dL_law_1131 rfl ⟨rfl, by decide⟩ (by simp) fk_at_246,
  fun d L x y st h => fk_r_icmp_eq dL_law_1134 (by decide),
  fun d L st h => fk_w_iconst dL_law_1137 (by decide),
  fun d L h => fk_r_ret dL_law_1138 (Or.inr (Or.inl ⟨rfl, by decide⟩)),
  fun d L h => fk_r_ret dL_law_1138 (Or.inr (Or.inl ⟨rfl, by decide⟩)),
  fun d L p _ h => fk_r_ret dL_law_1138 (Or.inr (Or.inl ⟨rfl, fk_b_01⟩)),
  fun d L x h hx => fk_r_ret dL_law_1138 (Or.inr (Or.inl ⟨rfl, hx⟩)),
  fun d a0 a2 a3 x st h => fk_w_aloadn 1 [a0, .ref x, a2, a3] dL_law_1139 rfl,
  fun d L  N y l  => fk_g_call [] [] rfl lm_13_127 dL_law_1140 rfl ⟨rfl, by decide⟩ (by simp) fk_at_1,
  fun d a0 a1 a3 x st h => fk_w_aloadn 2 [a0, a1, .ref x, a3] dL_law_1143 rfl,
  fun d L w0 N y l  => fk_g_call [] [w0] rfl lm_13_131 dL_law_1144 rfl ⟨rfl, by decide⟩ (by simp) fk_at_246,
  fun d L x y st h => fk_r_icmp_eq dL_law_1147 (by decide),
  fun d L st h => fk_w_iconst dL_law_1150 (by decide),
  fun d L h => fk_r_ret dL_law_1151 (Or.inr (Or.inl ⟨rfl, by decide⟩)),
  fun d L h => fk_r_ret dL_law_1151 (Or.inr (Or.inl ⟨rfl, by decide⟩)),
  fun d L p _ h => fk_r_ret dL_law_1151 (Or.inr (Or.inl ⟨rfl, fk_b_01⟩)),
  fun d L x h hx => fk_r_ret dL_law_1151 (Or.inr (Or.inl ⟨rfl, hx⟩)),
  fun d a0 a2 a3 x st h => fk_w_aloadn 1 [a0, .ref x, a2, a3] dL_law_1152 rfl,
  fun d L  N y l  => fk_g_call [] [] rfl lm_13_132 dL_law_1153 rfl ⟨rfl, by decide⟩ (by simp) fk_at_1,
  fun d a0 a1 a3 x st h => fk_w_aloadn 2 [a0, a1, .ref x, a3] dL_law_1156 rfl,
  fun d L w0 N y l  => fk_g_call [] [w0] rfl lm_13_136 dL_law_1157 rfl ⟨rfl, by decide⟩ (by simp) fk_at_246,
  fun d L x y st h => fk_r_icmp_eq dL_law_1160 (by decide),
  fun d L st h => fk_w_iconst dL_law_1163 (by decide),
  fun d L h => fk_r_ret dL_law_1164 (Or.inr (Or.inl ⟨rfl, by decide⟩)),
  fun d L h => fk_r_ret dL_law_1164 (Or.inr (Or.inl ⟨rfl, by decide⟩)),
  fun d L p _ h => fk_r_ret dL_law_1164 (Or.inr (Or.inl ⟨rfl, fk_b_01⟩)),
  fun d L x h hx => fk_r_ret dL_law_1164 (Or.inr (Or.inl ⟨rfl, hx⟩)),
  fun d a0 a2 a3 x st h => fk_w_aloadn 1 [a0, .ref x, a2, a3] dL_law_1165 rfl,
  fun d a1 a2 a3 x st h => fk_w_aloadn 0 [.ref x, a1, a2, a3] dL_law_1166 rfl,
  fun d a0 a1 a2 x st h => fk_w_iloadn 3 [a0, a1, a2, .int x] dL_law_1167 rfl,
  fun d L st h => fk_w_iconst dL_law_1168 (by decide),
  fun d L x y st h => fk_r_iadd dL_law_1169,
  fun d L st N y l i hi hN => fk_h_sld dL_law_1170 hi hN,
  fun d L x0 N y l  => fk_g_call [.int x0] [] rfl lm_13_137 dL_law_1171 rfl ⟨rfl, by decide⟩ (by simp) fk_at_1,
  fun d a0 a1 a3 x st h => fk_w_aloadn 2 [a0, a1, .ref x, a3] dL_law_1174 rfl,
  fun d a1 a2 a3 x st h => fk_w_aloadn 0 [.ref x, a1, a2, a3] dL_law_1175 rfl,
  fun d a0 a1 a2 x st h => fk_w_iloadn 3 [a0, a1, a2, .int x] dL_law_1176 rfl,
  fun d L st h => fk_w_iconst dL_law_1177 (by decide),
  fun d L x y st h => fk_r_iadd dL_law_1178,
  fun d L st N y l i hi hN => fk_h_sld dL_law_1179 hi hN,
  fun d L x0 w0 N y l  => fk_g_call [.int x0] [w0] rfl lm_13_140 dL_law_1180 rfl ⟨rfl, by decide⟩ (by simp) fk_at_246,
  fun d L x y st h => fk_r_icmp_eq dL_law_1183 (by decide),
  fun d L st h => fk_w_iconst dL_law_1186 (by decide),
  fun d L h => fk_r_ret dL_law_1187 (Or.inr (Or.inl ⟨rfl, by decide⟩)),
  fun d L h => fk_r_ret dL_law_1187 (Or.inr (Or.inl ⟨rfl, by decide⟩)),
  fun d L p _ h => fk_r_ret dL_law_1187 (Or.inr (Or.inl ⟨rfl, fk_b_01⟩)),
  fun d L x h hx => fk_r_ret dL_law_1187 (Or.inr (Or.inl ⟨rfl, hx⟩)),
  fun d a0 a2 a3 x st h => fk_w_aloadn 1 [a0, .ref x, a2, a3] dL_law_1188 rfl,
  fun d a1 a2 a3 x st h => fk_w_aloadn 0 [.ref x, a1, a2, a3] dL_law_1189 rfl,
  fun d a0 a1 a2 x st h => fk_w_iloadn 3 [a0, a1, a2, .int x] dL_law_1190 rfl,
  fun d L st h => fk_w_iconst dL_law_1191 (by decide),
  fun d L x y st h => fk_r_iadd dL_law_1192,
  fun d L st N y l i hi hN => fk_h_sld dL_law_1193 hi hN,
  fun d L x0 N y l  => fk_g_call [.int x0] [] rfl lm_13_141 dL_law_1194 rfl ⟨rfl, by decide⟩ (by simp) fk_at_1,
  fun d a0 a1 a3 x st h => fk_w_aloadn 2 [a0, a1, .ref x, a3] dL_law_1197 rfl,
  fun d a1 a2 a3 x st h => fk_w_aloadn 0 [.ref x, a1, a2, a3] dL_law_1198 rfl,
  fun d a0 a1 a2 x st h => fk_w_iloadn 3 [a0, a1, a2, .int x] dL_law_1199 rfl,
  fun d L st h => fk_w_iconst dL_law_1200 (by decide),
  fun d L x y st h => fk_r_iadd dL_law_1201,
  fun d L st N y l i hi hN => fk_h_sld dL_law_1202 hi hN,
  fun d L x0 w0 N y l  => fk_g_call [.int x0] [w0] rfl lm_13_144 dL_law_1203 rfl ⟨rfl, by decide⟩ (by simp) fk_at_246,
  fun d L x y st h => fk_r_icmp_eq dL_law_1206 (by decide),
  fun d L st h => fk_w_iconst dL_law_1209 (by decide),
  fun d L h => fk_r_ret dL_law_1210 (Or.inr (Or.inl ⟨rfl, by decide⟩)),
  fun d L h => fk_r_ret dL_law_1210 (Or.inr (Or.inl ⟨rfl, by decide⟩)),
  fun d L p _ h => fk_r_ret dL_law_1210 (Or.inr (Or.inl ⟨rfl, fk_b_01⟩)),
  fun d L x h hx => fk_r_ret dL_law_1210 (Or.inr (Or.inl ⟨rfl, hx⟩)),
  fun d a0 a1 a2 x st h => fk_w_iinc 3 4 (6) [] [a0, a1, a2, .int x] [a0, a1, a2, .int (x + nI 6)] dL_law_1211 rfl rfl rfl (by decide) rfl,
  fun d L st h => fk_r_goto dL_law_1214 (by decide),
  fun d L st h => fk_w_iconst dL_law_1217 (by decide),
  fun d L h => fk_r_ret dL_law_1218 (Or.inr (Or.inl ⟨rfl, by decide⟩)),
  fun d L h => fk_r_ret dL_law_1218 (Or.inr (Or.inl ⟨rfl, by decide⟩)),
  fun d L p _ h => fk_r_ret dL_law_1218 (Or.inr (Or.inl ⟨rfl, fk_b_01⟩)),
  fun d L x h hx => fk_r_ret dL_law_1218 (Or.inr (Or.inl ⟨rfl, hx⟩))⟩
theorem hL_law_18 : ∀ (d : Nat) (a0 a1 a2 : Value) (x : Int32) (st : List Value) (h : fk_H), fk_ev d qL_law 18 [a0, a1, a2, .int x] st h = fk_ev d qL_law 19 [a0, a1, a2, .int x] (.int x :: st) h := fun d a0 a1 a2 x st h => fk_w_iloadn 3 [a0, a1, a2, .int x] dL_law_18 rfl
