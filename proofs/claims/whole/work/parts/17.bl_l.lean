theorem dL_law_0 : decode cL_law 0 = .ok (.new 7, 3) := by decide +kernel
theorem dL_law_3 : decode cL_law 3 = .ok (.dup, 1) := by decide +kernel
theorem dL_law_4 : decode cL_law 4 = .ok (.invokespecial 9, 3) := by decide +kernel
theorem dL_law_7 : decode cL_law 7 = .ok (.astore_n 1, 1) := by decide +kernel
theorem dL_law_8 : decode cL_law 8 = .ok (.new 10, 3) := by decide +kernel
theorem dL_law_11 : decode cL_law 11 = .ok (.dup, 1) := by decide +kernel
theorem dL_law_12 : decode cL_law 12 = .ok (.invokespecial 12, 3) := by decide +kernel
theorem dL_law_15 : decode cL_law 15 = .ok (.astore_n 2, 1) := by decide +kernel
theorem dL_law_16 : decode cL_law 16 = .ok (.iconst 0, 1) := by decide +kernel
theorem dL_law_17 : decode cL_law 17 = .ok (.istore_n 3, 1) := by decide +kernel
theorem dL_law_18 : decode cL_law 18 = .ok (.iload_n 3, 1) := by decide +kernel
theorem dL_law_19 : decode cL_law 19 = .ok (.aload_n 0, 1) := by decide +kernel
theorem dL_law_20 : decode cL_law 20 = .ok (.arraylength, 1) := by decide +kernel
theorem dL_law_21 : decode cL_law 21 = .ok (.bipush 7, 2) := by decide +kernel
theorem dL_law_23 : decode cL_law 23 = .ok (.isub, 1) := by decide +kernel
theorem dL_law_24 : decode cL_law 24 = .ok (.if_icmp .gt 970, 3) := by decide +kernel
theorem dL_law_27 : decode cL_law 27 = .ok (.aload_n 0, 1) := by decide +kernel
theorem dL_law_28 : decode cL_law 28 = .ok (.iload_n 3, 1) := by decide +kernel
theorem dL_law_29 : decode cL_law 29 = .ok (.iaload, 1) := by decide +kernel
theorem dL_law_30 : decode cL_law 30 = .ok (.bipush 31, 2) := by decide +kernel
theorem dL_law_32 : decode cL_law 32 = .ok (.iand, 1) := by decide +kernel
theorem dL_law_33 : decode cL_law 33 = .ok (.tableswitch 955 0 23 #[111, 134, 147, 160, 173, 248, 271, 324, 357, 410, 433, 446, 469, 492, 525, 568, 601, 644, 687, 730, 793, 836, 869, 932], 111) := by decide +kernel
theorem dL_law_144 : decode cL_law 144 = .ok (.aload_n 1, 1) := by decide +kernel
theorem dL_law_145 : decode cL_law 145 = .ok (.aload_n 0, 1) := by decide +kernel
theorem dL_law_146 : decode cL_law 146 = .ok (.iload_n 3, 1) := by decide +kernel
theorem dL_law_147 : decode cL_law 147 = .ok (.iconst 1, 1) := by decide +kernel
theorem dL_law_148 : decode cL_law 148 = .ok (.iadd, 1) := by decide +kernel
theorem dL_law_149 : decode cL_law 149 = .ok (.iaload, 1) := by decide +kernel
theorem dL_law_150 : decode cL_law 150 = .ok (.invokevirtual 13, 3) := by decide +kernel
theorem dL_law_153 : decode cL_law 153 = .ok (.aload_n 2, 1) := by decide +kernel
theorem dL_law_154 : decode cL_law 154 = .ok (.aload_n 0, 1) := by decide +kernel
theorem dL_law_155 : decode cL_law 155 = .ok (.iload_n 3, 1) := by decide +kernel
theorem dL_law_156 : decode cL_law 156 = .ok (.iconst 1, 1) := by decide +kernel
theorem dL_law_157 : decode cL_law 157 = .ok (.iadd, 1) := by decide +kernel
theorem dL_law_158 : decode cL_law 158 = .ok (.iaload, 1) := by decide +kernel
theorem dL_law_159 : decode cL_law 159 = .ok (.invokevirtual 17, 3) := by decide +kernel
theorem dL_law_162 : decode cL_law 162 = .ok (.if_icmp .eq 826, 3) := by decide +kernel
theorem dL_law_165 : decode cL_law 165 = .ok (.iconst 0, 1) := by decide +kernel
theorem dL_law_166 : decode cL_law 166 = .ok (.ireturn, 1) := by decide +kernel
theorem dL_law_167 : decode cL_law 167 = .ok (.aload_n 1, 1) := by decide +kernel
theorem dL_law_168 : decode cL_law 168 = .ok (.invokevirtual 18, 3) := by decide +kernel
theorem dL_law_171 : decode cL_law 171 = .ok (.aload_n 2, 1) := by decide +kernel
theorem dL_law_172 : decode cL_law 172 = .ok (.invokevirtual 22, 3) := by decide +kernel
theorem dL_law_175 : decode cL_law 175 = .ok (.if_icmp .eq 813, 3) := by decide +kernel
theorem dL_law_178 : decode cL_law 178 = .ok (.iconst 0, 1) := by decide +kernel
theorem dL_law_179 : decode cL_law 179 = .ok (.ireturn, 1) := by decide +kernel
theorem dL_law_180 : decode cL_law 180 = .ok (.aload_n 1, 1) := by decide +kernel
theorem dL_law_181 : decode cL_law 181 = .ok (.invokevirtual 23, 3) := by decide +kernel
theorem dL_law_184 : decode cL_law 184 = .ok (.aload_n 2, 1) := by decide +kernel
theorem dL_law_185 : decode cL_law 185 = .ok (.invokevirtual 26, 3) := by decide +kernel
theorem dL_law_188 : decode cL_law 188 = .ok (.if_icmp .eq 800, 3) := by decide +kernel
theorem dL_law_191 : decode cL_law 191 = .ok (.iconst 0, 1) := by decide +kernel
theorem dL_law_192 : decode cL_law 192 = .ok (.ireturn, 1) := by decide +kernel
theorem dL_law_193 : decode cL_law 193 = .ok (.aload_n 1, 1) := by decide +kernel
theorem dL_law_194 : decode cL_law 194 = .ok (.invokevirtual 27, 3) := by decide +kernel
theorem dL_law_197 : decode cL_law 197 = .ok (.aload_n 2, 1) := by decide +kernel
theorem dL_law_198 : decode cL_law 198 = .ok (.invokevirtual 30, 3) := by decide +kernel
theorem dL_law_201 : decode cL_law 201 = .ok (.if_icmp .eq 787, 3) := by decide +kernel
theorem dL_law_204 : decode cL_law 204 = .ok (.iconst 0, 1) := by decide +kernel
theorem dL_law_205 : decode cL_law 205 = .ok (.ireturn, 1) := by decide +kernel
theorem dL_law_206 : decode cL_law 206 = .ok (.aload_n 1, 1) := by decide +kernel
theorem dL_law_207 : decode cL_law 207 = .ok (.aload_n 0, 1) := by decide +kernel
theorem dL_law_208 : decode cL_law 208 = .ok (.iload_n 3, 1) := by decide +kernel
theorem dL_law_209 : decode cL_law 209 = .ok (.iconst 1, 1) := by decide +kernel
theorem dL_law_210 : decode cL_law 210 = .ok (.iadd, 1) := by decide +kernel
theorem dL_law_211 : decode cL_law 211 = .ok (.iaload, 1) := by decide +kernel
theorem dL_law_212 : decode cL_law 212 = .ok (.aload_n 0, 1) := by decide +kernel
theorem dL_law_213 : decode cL_law 213 = .ok (.iload_n 3, 1) := by decide +kernel
theorem dL_law_214 : decode cL_law 214 = .ok (.iconst 2, 1) := by decide +kernel
theorem dL_law_215 : decode cL_law 215 = .ok (.iadd, 1) := by decide +kernel
theorem dL_law_216 : decode cL_law 216 = .ok (.iaload, 1) := by decide +kernel
theorem dL_law_217 : decode cL_law 217 = .ok (.aload_n 0, 1) := by decide +kernel
theorem dL_law_218 : decode cL_law 218 = .ok (.iload_n 3, 1) := by decide +kernel
theorem dL_law_219 : decode cL_law 219 = .ok (.iconst 3, 1) := by decide +kernel
theorem dL_law_220 : decode cL_law 220 = .ok (.iadd, 1) := by decide +kernel
theorem dL_law_221 : decode cL_law 221 = .ok (.iaload, 1) := by decide +kernel
theorem dL_law_222 : decode cL_law 222 = .ok (.aload_n 0, 1) := by decide +kernel
theorem dL_law_223 : decode cL_law 223 = .ok (.iload_n 3, 1) := by decide +kernel
theorem dL_law_224 : decode cL_law 224 = .ok (.iconst 4, 1) := by decide +kernel
theorem dL_law_225 : decode cL_law 225 = .ok (.iadd, 1) := by decide +kernel
theorem dL_law_226 : decode cL_law 226 = .ok (.iaload, 1) := by decide +kernel
theorem dL_law_227 : decode cL_law 227 = .ok (.aload_n 0, 1) := by decide +kernel
theorem dL_law_228 : decode cL_law 228 = .ok (.iload_n 3, 1) := by decide +kernel
theorem dL_law_229 : decode cL_law 229 = .ok (.iconst 5, 1) := by decide +kernel
theorem dL_law_230 : decode cL_law 230 = .ok (.iadd, 1) := by decide +kernel
theorem dL_law_231 : decode cL_law 231 = .ok (.iaload, 1) := by decide +kernel
theorem dL_law_232 : decode cL_law 232 = .ok (.aload_n 0, 1) := by decide +kernel
theorem dL_law_233 : decode cL_law 233 = .ok (.iload_n 3, 1) := by decide +kernel
theorem dL_law_234 : decode cL_law 234 = .ok (.bipush 6, 2) := by decide +kernel
theorem dL_law_236 : decode cL_law 236 = .ok (.iadd, 1) := by decide +kernel
theorem dL_law_237 : decode cL_law 237 = .ok (.iaload, 1) := by decide +kernel
theorem dL_law_238 : decode cL_law 238 = .ok (.invokevirtual 31, 3) := by decide +kernel
theorem dL_law_241 : decode cL_law 241 = .ok (.aload_n 2, 1) := by decide +kernel
theorem dL_law_242 : decode cL_law 242 = .ok (.aload_n 0, 1) := by decide +kernel
theorem dL_law_243 : decode cL_law 243 = .ok (.iload_n 3, 1) := by decide +kernel
theorem dL_law_244 : decode cL_law 244 = .ok (.iconst 1, 1) := by decide +kernel
theorem dL_law_245 : decode cL_law 245 = .ok (.iadd, 1) := by decide +kernel
theorem dL_law_246 : decode cL_law 246 = .ok (.iaload, 1) := by decide +kernel
theorem dL_law_247 : decode cL_law 247 = .ok (.aload_n 0, 1) := by decide +kernel
theorem dL_law_248 : decode cL_law 248 = .ok (.iload_n 3, 1) := by decide +kernel
theorem dL_law_249 : decode cL_law 249 = .ok (.iconst 2, 1) := by decide +kernel
theorem dL_law_250 : decode cL_law 250 = .ok (.iadd, 1) := by decide +kernel
theorem dL_law_251 : decode cL_law 251 = .ok (.iaload, 1) := by decide +kernel
theorem dL_law_252 : decode cL_law 252 = .ok (.aload_n 0, 1) := by decide +kernel
theorem dL_law_253 : decode cL_law 253 = .ok (.iload_n 3, 1) := by decide +kernel
theorem dL_law_254 : decode cL_law 254 = .ok (.iconst 3, 1) := by decide +kernel
theorem dL_law_255 : decode cL_law 255 = .ok (.iadd, 1) := by decide +kernel
theorem dL_law_256 : decode cL_law 256 = .ok (.iaload, 1) := by decide +kernel
theorem dL_law_257 : decode cL_law 257 = .ok (.aload_n 0, 1) := by decide +kernel
theorem dL_law_258 : decode cL_law 258 = .ok (.iload_n 3, 1) := by decide +kernel
theorem dL_law_259 : decode cL_law 259 = .ok (.iconst 4, 1) := by decide +kernel
theorem dL_law_260 : decode cL_law 260 = .ok (.iadd, 1) := by decide +kernel
theorem dL_law_261 : decode cL_law 261 = .ok (.iaload, 1) := by decide +kernel
theorem dL_law_262 : decode cL_law 262 = .ok (.aload_n 0, 1) := by decide +kernel
theorem dL_law_263 : decode cL_law 263 = .ok (.iload_n 3, 1) := by decide +kernel
theorem dL_law_264 : decode cL_law 264 = .ok (.iconst 5, 1) := by decide +kernel
theorem dL_law_265 : decode cL_law 265 = .ok (.iadd, 1) := by decide +kernel
theorem dL_law_266 : decode cL_law 266 = .ok (.iaload, 1) := by decide +kernel
theorem dL_law_267 : decode cL_law 267 = .ok (.aload_n 0, 1) := by decide +kernel
theorem dL_law_268 : decode cL_law 268 = .ok (.iload_n 3, 1) := by decide +kernel
theorem dL_law_269 : decode cL_law 269 = .ok (.bipush 6, 2) := by decide +kernel
theorem dL_law_271 : decode cL_law 271 = .ok (.iadd, 1) := by decide +kernel
theorem dL_law_272 : decode cL_law 272 = .ok (.iaload, 1) := by decide +kernel
theorem dL_law_273 : decode cL_law 273 = .ok (.invokevirtual 35, 3) := by decide +kernel
theorem dL_law_276 : decode cL_law 276 = .ok (.if_icmp .eq 712, 3) := by decide +kernel
theorem dL_law_279 : decode cL_law 279 = .ok (.iconst 0, 1) := by decide +kernel
theorem dL_law_280 : decode cL_law 280 = .ok (.ireturn, 1) := by decide +kernel
theorem dL_law_281 : decode cL_law 281 = .ok (.aload_n 1, 1) := by decide +kernel
theorem dL_law_282 : decode cL_law 282 = .ok (.aload_n 0, 1) := by decide +kernel
theorem dL_law_283 : decode cL_law 283 = .ok (.iload_n 3, 1) := by decide +kernel
theorem dL_law_284 : decode cL_law 284 = .ok (.iconst 1, 1) := by decide +kernel
theorem dL_law_285 : decode cL_law 285 = .ok (.iadd, 1) := by decide +kernel
theorem dL_law_286 : decode cL_law 286 = .ok (.iaload, 1) := by decide +kernel
theorem dL_law_287 : decode cL_law 287 = .ok (.invokevirtual 36, 3) := by decide +kernel
theorem dL_law_290 : decode cL_law 290 = .ok (.aload_n 2, 1) := by decide +kernel
theorem dL_law_291 : decode cL_law 291 = .ok (.aload_n 0, 1) := by decide +kernel
theorem dL_law_292 : decode cL_law 292 = .ok (.iload_n 3, 1) := by decide +kernel
theorem dL_law_293 : decode cL_law 293 = .ok (.iconst 1, 1) := by decide +kernel
theorem dL_law_294 : decode cL_law 294 = .ok (.iadd, 1) := by decide +kernel
theorem dL_law_295 : decode cL_law 295 = .ok (.iaload, 1) := by decide +kernel
theorem dL_law_296 : decode cL_law 296 = .ok (.invokevirtual 39, 3) := by decide +kernel
theorem dL_law_299 : decode cL_law 299 = .ok (.if_icmp .eq 689, 3) := by decide +kernel
theorem dL_law_302 : decode cL_law 302 = .ok (.iconst 0, 1) := by decide +kernel
theorem dL_law_303 : decode cL_law 303 = .ok (.ireturn, 1) := by decide +kernel
theorem dL_law_304 : decode cL_law 304 = .ok (.aload_n 1, 1) := by decide +kernel
theorem dL_law_305 : decode cL_law 305 = .ok (.aload_n 0, 1) := by decide +kernel
theorem dL_law_306 : decode cL_law 306 = .ok (.iload_n 3, 1) := by decide +kernel
theorem dL_law_307 : decode cL_law 307 = .ok (.iconst 1, 1) := by decide +kernel
theorem dL_law_308 : decode cL_law 308 = .ok (.iadd, 1) := by decide +kernel
theorem dL_law_309 : decode cL_law 309 = .ok (.iaload, 1) := by decide +kernel
theorem dL_law_310 : decode cL_law 310 = .ok (.aload_n 0, 1) := by decide +kernel
theorem dL_law_311 : decode cL_law 311 = .ok (.iload_n 3, 1) := by decide +kernel
theorem dL_law_312 : decode cL_law 312 = .ok (.iconst 2, 1) := by decide +kernel
theorem dL_law_313 : decode cL_law 313 = .ok (.iadd, 1) := by decide +kernel
theorem dL_law_314 : decode cL_law 314 = .ok (.iaload, 1) := by decide +kernel
theorem dL_law_315 : decode cL_law 315 = .ok (.aload_n 0, 1) := by decide +kernel
theorem dL_law_316 : decode cL_law 316 = .ok (.iload_n 3, 1) := by decide +kernel
theorem dL_law_317 : decode cL_law 317 = .ok (.iconst 3, 1) := by decide +kernel
theorem dL_law_318 : decode cL_law 318 = .ok (.iadd, 1) := by decide +kernel
theorem dL_law_319 : decode cL_law 319 = .ok (.iaload, 1) := by decide +kernel
theorem dL_law_320 : decode cL_law 320 = .ok (.aload_n 0, 1) := by decide +kernel
theorem dL_law_321 : decode cL_law 321 = .ok (.iload_n 3, 1) := by decide +kernel
theorem dL_law_322 : decode cL_law 322 = .ok (.iconst 4, 1) := by decide +kernel
theorem dL_law_323 : decode cL_law 323 = .ok (.iadd, 1) := by decide +kernel
theorem dL_law_324 : decode cL_law 324 = .ok (.iaload, 1) := by decide +kernel
theorem dL_law_325 : decode cL_law 325 = .ok (.invokevirtual 40, 3) := by decide +kernel
theorem dL_law_328 : decode cL_law 328 = .ok (.aload_n 2, 1) := by decide +kernel
theorem dL_law_329 : decode cL_law 329 = .ok (.aload_n 0, 1) := by decide +kernel
theorem dL_law_330 : decode cL_law 330 = .ok (.iload_n 3, 1) := by decide +kernel
theorem dL_law_331 : decode cL_law 331 = .ok (.iconst 1, 1) := by decide +kernel
theorem dL_law_332 : decode cL_law 332 = .ok (.iadd, 1) := by decide +kernel
theorem dL_law_333 : decode cL_law 333 = .ok (.iaload, 1) := by decide +kernel
theorem dL_law_334 : decode cL_law 334 = .ok (.aload_n 0, 1) := by decide +kernel
theorem dL_law_335 : decode cL_law 335 = .ok (.iload_n 3, 1) := by decide +kernel
theorem dL_law_336 : decode cL_law 336 = .ok (.iconst 2, 1) := by decide +kernel
theorem dL_law_337 : decode cL_law 337 = .ok (.iadd, 1) := by decide +kernel
theorem dL_law_338 : decode cL_law 338 = .ok (.iaload, 1) := by decide +kernel
theorem dL_law_339 : decode cL_law 339 = .ok (.aload_n 0, 1) := by decide +kernel
theorem dL_law_340 : decode cL_law 340 = .ok (.iload_n 3, 1) := by decide +kernel
theorem dL_law_341 : decode cL_law 341 = .ok (.iconst 3, 1) := by decide +kernel
theorem dL_law_342 : decode cL_law 342 = .ok (.iadd, 1) := by decide +kernel
theorem dL_law_343 : decode cL_law 343 = .ok (.iaload, 1) := by decide +kernel
theorem dL_law_344 : decode cL_law 344 = .ok (.aload_n 0, 1) := by decide +kernel
theorem dL_law_345 : decode cL_law 345 = .ok (.iload_n 3, 1) := by decide +kernel
theorem dL_law_346 : decode cL_law 346 = .ok (.iconst 4, 1) := by decide +kernel
theorem dL_law_347 : decode cL_law 347 = .ok (.iadd, 1) := by decide +kernel
theorem dL_law_348 : decode cL_law 348 = .ok (.iaload, 1) := by decide +kernel
theorem dL_law_349 : decode cL_law 349 = .ok (.invokevirtual 44, 3) := by decide +kernel
theorem dL_law_352 : decode cL_law 352 = .ok (.if_icmp .eq 636, 3) := by decide +kernel
theorem dL_law_355 : decode cL_law 355 = .ok (.iconst 0, 1) := by decide +kernel
theorem dL_law_356 : decode cL_law 356 = .ok (.ireturn, 1) := by decide +kernel
theorem dL_law_357 : decode cL_law 357 = .ok (.aload_n 1, 1) := by decide +kernel
theorem dL_law_358 : decode cL_law 358 = .ok (.aload_n 0, 1) := by decide +kernel
theorem dL_law_359 : decode cL_law 359 = .ok (.iload_n 3, 1) := by decide +kernel
theorem dL_law_360 : decode cL_law 360 = .ok (.iconst 1, 1) := by decide +kernel
theorem dL_law_361 : decode cL_law 361 = .ok (.iadd, 1) := by decide +kernel
theorem dL_law_362 : decode cL_law 362 = .ok (.iaload, 1) := by decide +kernel
theorem dL_law_363 : decode cL_law 363 = .ok (.aload_n 0, 1) := by decide +kernel
theorem dL_law_364 : decode cL_law 364 = .ok (.iload_n 3, 1) := by decide +kernel
theorem dL_law_365 : decode cL_law 365 = .ok (.iconst 2, 1) := by decide +kernel
theorem dL_law_366 : decode cL_law 366 = .ok (.iadd, 1) := by decide +kernel
theorem dL_law_367 : decode cL_law 367 = .ok (.iaload, 1) := by decide +kernel
theorem dL_law_368 : decode cL_law 368 = .ok (.invokevirtual 45, 3) := by decide +kernel
theorem dL_law_371 : decode cL_law 371 = .ok (.aload_n 2, 1) := by decide +kernel
theorem dL_law_372 : decode cL_law 372 = .ok (.aload_n 0, 1) := by decide +kernel
theorem dL_law_373 : decode cL_law 373 = .ok (.iload_n 3, 1) := by decide +kernel
theorem dL_law_374 : decode cL_law 374 = .ok (.iconst 1, 1) := by decide +kernel
theorem dL_law_375 : decode cL_law 375 = .ok (.iadd, 1) := by decide +kernel
theorem dL_law_376 : decode cL_law 376 = .ok (.iaload, 1) := by decide +kernel
theorem dL_law_377 : decode cL_law 377 = .ok (.aload_n 0, 1) := by decide +kernel
theorem dL_law_378 : decode cL_law 378 = .ok (.iload_n 3, 1) := by decide +kernel
theorem dL_law_379 : decode cL_law 379 = .ok (.iconst 2, 1) := by decide +kernel
theorem dL_law_380 : decode cL_law 380 = .ok (.iadd, 1) := by decide +kernel
theorem dL_law_381 : decode cL_law 381 = .ok (.iaload, 1) := by decide +kernel
theorem dL_law_382 : decode cL_law 382 = .ok (.invokevirtual 49, 3) := by decide +kernel
theorem dL_law_385 : decode cL_law 385 = .ok (.if_icmp .eq 603, 3) := by decide +kernel
theorem dL_law_388 : decode cL_law 388 = .ok (.iconst 0, 1) := by decide +kernel
theorem dL_law_389 : decode cL_law 389 = .ok (.ireturn, 1) := by decide +kernel
theorem dL_law_390 : decode cL_law 390 = .ok (.aload_n 1, 1) := by decide +kernel
theorem dL_law_391 : decode cL_law 391 = .ok (.aload_n 0, 1) := by decide +kernel
theorem dL_law_392 : decode cL_law 392 = .ok (.iload_n 3, 1) := by decide +kernel
theorem dL_law_393 : decode cL_law 393 = .ok (.iconst 1, 1) := by decide +kernel
theorem dL_law_394 : decode cL_law 394 = .ok (.iadd, 1) := by decide +kernel
theorem dL_law_395 : decode cL_law 395 = .ok (.iaload, 1) := by decide +kernel
theorem dL_law_396 : decode cL_law 396 = .ok (.aload_n 0, 1) := by decide +kernel
theorem dL_law_397 : decode cL_law 397 = .ok (.iload_n 3, 1) := by decide +kernel
theorem dL_law_398 : decode cL_law 398 = .ok (.iconst 2, 1) := by decide +kernel
theorem dL_law_399 : decode cL_law 399 = .ok (.iadd, 1) := by decide +kernel
theorem dL_law_400 : decode cL_law 400 = .ok (.iaload, 1) := by decide +kernel
theorem dL_law_401 : decode cL_law 401 = .ok (.aload_n 0, 1) := by decide +kernel
theorem dL_law_402 : decode cL_law 402 = .ok (.iload_n 3, 1) := by decide +kernel
theorem dL_law_403 : decode cL_law 403 = .ok (.iconst 3, 1) := by decide +kernel
theorem dL_law_404 : decode cL_law 404 = .ok (.iadd, 1) := by decide +kernel
theorem dL_law_405 : decode cL_law 405 = .ok (.iaload, 1) := by decide +kernel
theorem dL_law_406 : decode cL_law 406 = .ok (.aload_n 0, 1) := by decide +kernel
theorem dL_law_407 : decode cL_law 407 = .ok (.iload_n 3, 1) := by decide +kernel
theorem dL_law_408 : decode cL_law 408 = .ok (.iconst 4, 1) := by decide +kernel
theorem dL_law_409 : decode cL_law 409 = .ok (.iadd, 1) := by decide +kernel
theorem dL_law_410 : decode cL_law 410 = .ok (.iaload, 1) := by decide +kernel
theorem dL_law_411 : decode cL_law 411 = .ok (.invokevirtual 50, 3) := by decide +kernel
theorem dL_law_414 : decode cL_law 414 = .ok (.aload_n 2, 1) := by decide +kernel
theorem dL_law_415 : decode cL_law 415 = .ok (.aload_n 0, 1) := by decide +kernel
theorem dL_law_416 : decode cL_law 416 = .ok (.iload_n 3, 1) := by decide +kernel
theorem dL_law_417 : decode cL_law 417 = .ok (.iconst 1, 1) := by decide +kernel
theorem dL_law_418 : decode cL_law 418 = .ok (.iadd, 1) := by decide +kernel
theorem dL_law_419 : decode cL_law 419 = .ok (.iaload, 1) := by decide +kernel
theorem dL_law_420 : decode cL_law 420 = .ok (.aload_n 0, 1) := by decide +kernel
theorem dL_law_421 : decode cL_law 421 = .ok (.iload_n 3, 1) := by decide +kernel
theorem dL_law_422 : decode cL_law 422 = .ok (.iconst 2, 1) := by decide +kernel
theorem dL_law_423 : decode cL_law 423 = .ok (.iadd, 1) := by decide +kernel
theorem dL_law_424 : decode cL_law 424 = .ok (.iaload, 1) := by decide +kernel
theorem dL_law_425 : decode cL_law 425 = .ok (.aload_n 0, 1) := by decide +kernel
theorem dL_law_426 : decode cL_law 426 = .ok (.iload_n 3, 1) := by decide +kernel
theorem dL_law_427 : decode cL_law 427 = .ok (.iconst 3, 1) := by decide +kernel
theorem dL_law_428 : decode cL_law 428 = .ok (.iadd, 1) := by decide +kernel
theorem dL_law_429 : decode cL_law 429 = .ok (.iaload, 1) := by decide +kernel
theorem dL_law_430 : decode cL_law 430 = .ok (.aload_n 0, 1) := by decide +kernel
theorem dL_law_431 : decode cL_law 431 = .ok (.iload_n 3, 1) := by decide +kernel
theorem dL_law_432 : decode cL_law 432 = .ok (.iconst 4, 1) := by decide +kernel
theorem dL_law_433 : decode cL_law 433 = .ok (.iadd, 1) := by decide +kernel
theorem dL_law_434 : decode cL_law 434 = .ok (.iaload, 1) := by decide +kernel
theorem dL_law_435 : decode cL_law 435 = .ok (.invokevirtual 53, 3) := by decide +kernel
theorem dL_law_438 : decode cL_law 438 = .ok (.if_icmp .eq 550, 3) := by decide +kernel
theorem dL_law_441 : decode cL_law 441 = .ok (.iconst 0, 1) := by decide +kernel
theorem dL_law_442 : decode cL_law 442 = .ok (.ireturn, 1) := by decide +kernel
theorem dL_law_443 : decode cL_law 443 = .ok (.aload_n 1, 1) := by decide +kernel
theorem dL_law_444 : decode cL_law 444 = .ok (.aload_n 0, 1) := by decide +kernel
theorem dL_law_445 : decode cL_law 445 = .ok (.iload_n 3, 1) := by decide +kernel
theorem dL_law_446 : decode cL_law 446 = .ok (.iconst 1, 1) := by decide +kernel
theorem dL_law_447 : decode cL_law 447 = .ok (.iadd, 1) := by decide +kernel
theorem dL_law_448 : decode cL_law 448 = .ok (.iaload, 1) := by decide +kernel
theorem dL_law_449 : decode cL_law 449 = .ok (.invokevirtual 54, 3) := by decide +kernel
theorem dL_law_452 : decode cL_law 452 = .ok (.aload_n 2, 1) := by decide +kernel
theorem dL_law_453 : decode cL_law 453 = .ok (.aload_n 0, 1) := by decide +kernel
theorem dL_law_454 : decode cL_law 454 = .ok (.iload_n 3, 1) := by decide +kernel
theorem dL_law_455 : decode cL_law 455 = .ok (.iconst 1, 1) := by decide +kernel
theorem dL_law_456 : decode cL_law 456 = .ok (.iadd, 1) := by decide +kernel
theorem dL_law_457 : decode cL_law 457 = .ok (.iaload, 1) := by decide +kernel
theorem dL_law_458 : decode cL_law 458 = .ok (.invokevirtual 57, 3) := by decide +kernel
theorem dL_law_461 : decode cL_law 461 = .ok (.if_icmp .eq 527, 3) := by decide +kernel
theorem dL_law_464 : decode cL_law 464 = .ok (.iconst 0, 1) := by decide +kernel
theorem dL_law_465 : decode cL_law 465 = .ok (.ireturn, 1) := by decide +kernel
theorem dL_law_466 : decode cL_law 466 = .ok (.aload_n 1, 1) := by decide +kernel
theorem dL_law_467 : decode cL_law 467 = .ok (.invokevirtual 58, 3) := by decide +kernel
theorem dL_law_470 : decode cL_law 470 = .ok (.aload_n 2, 1) := by decide +kernel
theorem dL_law_471 : decode cL_law 471 = .ok (.invokevirtual 61, 3) := by decide +kernel
theorem dL_law_474 : decode cL_law 474 = .ok (.if_icmp .eq 514, 3) := by decide +kernel
theorem dL_law_477 : decode cL_law 477 = .ok (.iconst 0, 1) := by decide +kernel
theorem dL_law_478 : decode cL_law 478 = .ok (.ireturn, 1) := by decide +kernel
theorem dL_law_479 : decode cL_law 479 = .ok (.aload_n 1, 1) := by decide +kernel
theorem dL_law_480 : decode cL_law 480 = .ok (.aload_n 0, 1) := by decide +kernel
theorem dL_law_481 : decode cL_law 481 = .ok (.iload_n 3, 1) := by decide +kernel
theorem dL_law_482 : decode cL_law 482 = .ok (.iconst 1, 1) := by decide +kernel
theorem dL_law_483 : decode cL_law 483 = .ok (.iadd, 1) := by decide +kernel
theorem dL_law_484 : decode cL_law 484 = .ok (.iaload, 1) := by decide +kernel
theorem dL_law_485 : decode cL_law 485 = .ok (.invokevirtual 62, 3) := by decide +kernel
theorem dL_law_488 : decode cL_law 488 = .ok (.aload_n 2, 1) := by decide +kernel
theorem dL_law_489 : decode cL_law 489 = .ok (.aload_n 0, 1) := by decide +kernel
theorem dL_law_490 : decode cL_law 490 = .ok (.iload_n 3, 1) := by decide +kernel
theorem dL_law_491 : decode cL_law 491 = .ok (.iconst 1, 1) := by decide +kernel
theorem dL_law_492 : decode cL_law 492 = .ok (.iadd, 1) := by decide +kernel
theorem dL_law_493 : decode cL_law 493 = .ok (.iaload, 1) := by decide +kernel
theorem dL_law_494 : decode cL_law 494 = .ok (.invokevirtual 65, 3) := by decide +kernel
theorem dL_law_497 : decode cL_law 497 = .ok (.if_icmp .eq 491, 3) := by decide +kernel
theorem dL_law_500 : decode cL_law 500 = .ok (.iconst 0, 1) := by decide +kernel
theorem dL_law_501 : decode cL_law 501 = .ok (.ireturn, 1) := by decide +kernel
theorem dL_law_502 : decode cL_law 502 = .ok (.aload_n 1, 1) := by decide +kernel
theorem dL_law_503 : decode cL_law 503 = .ok (.aload_n 0, 1) := by decide +kernel
theorem dL_law_504 : decode cL_law 504 = .ok (.iload_n 3, 1) := by decide +kernel
theorem dL_law_505 : decode cL_law 505 = .ok (.iconst 1, 1) := by decide +kernel
theorem dL_law_506 : decode cL_law 506 = .ok (.iadd, 1) := by decide +kernel
theorem dL_law_507 : decode cL_law 507 = .ok (.iaload, 1) := by decide +kernel
theorem dL_law_508 : decode cL_law 508 = .ok (.invokevirtual 66, 3) := by decide +kernel
theorem dL_law_511 : decode cL_law 511 = .ok (.aload_n 2, 1) := by decide +kernel
theorem dL_law_512 : decode cL_law 512 = .ok (.aload_n 0, 1) := by decide +kernel
theorem dL_law_513 : decode cL_law 513 = .ok (.iload_n 3, 1) := by decide +kernel
theorem dL_law_514 : decode cL_law 514 = .ok (.iconst 1, 1) := by decide +kernel
theorem dL_law_515 : decode cL_law 515 = .ok (.iadd, 1) := by decide +kernel
theorem dL_law_516 : decode cL_law 516 = .ok (.iaload, 1) := by decide +kernel
theorem dL_law_517 : decode cL_law 517 = .ok (.invokevirtual 69, 3) := by decide +kernel
theorem dL_law_520 : decode cL_law 520 = .ok (.if_icmp .eq 468, 3) := by decide +kernel
theorem dL_law_523 : decode cL_law 523 = .ok (.iconst 0, 1) := by decide +kernel
theorem dL_law_524 : decode cL_law 524 = .ok (.ireturn, 1) := by decide +kernel
theorem dL_law_525 : decode cL_law 525 = .ok (.aload_n 1, 1) := by decide +kernel
theorem dL_law_526 : decode cL_law 526 = .ok (.aload_n 0, 1) := by decide +kernel
theorem dL_law_527 : decode cL_law 527 = .ok (.iload_n 3, 1) := by decide +kernel
theorem dL_law_528 : decode cL_law 528 = .ok (.iconst 1, 1) := by decide +kernel
theorem dL_law_529 : decode cL_law 529 = .ok (.iadd, 1) := by decide +kernel
theorem dL_law_530 : decode cL_law 530 = .ok (.iaload, 1) := by decide +kernel
theorem dL_law_531 : decode cL_law 531 = .ok (.aload_n 0, 1) := by decide +kernel
theorem dL_law_532 : decode cL_law 532 = .ok (.iload_n 3, 1) := by decide +kernel
theorem dL_law_533 : decode cL_law 533 = .ok (.iconst 2, 1) := by decide +kernel
theorem dL_law_534 : decode cL_law 534 = .ok (.iadd, 1) := by decide +kernel
theorem dL_law_535 : decode cL_law 535 = .ok (.iaload, 1) := by decide +kernel
theorem dL_law_536 : decode cL_law 536 = .ok (.invokevirtual 70, 3) := by decide +kernel
theorem dL_law_539 : decode cL_law 539 = .ok (.aload_n 2, 1) := by decide +kernel
theorem dL_law_540 : decode cL_law 540 = .ok (.aload_n 0, 1) := by decide +kernel
theorem dL_law_541 : decode cL_law 541 = .ok (.iload_n 3, 1) := by decide +kernel
theorem dL_law_542 : decode cL_law 542 = .ok (.iconst 1, 1) := by decide +kernel
theorem dL_law_543 : decode cL_law 543 = .ok (.iadd, 1) := by decide +kernel
theorem dL_law_544 : decode cL_law 544 = .ok (.iaload, 1) := by decide +kernel
theorem dL_law_545 : decode cL_law 545 = .ok (.aload_n 0, 1) := by decide +kernel
theorem dL_law_546 : decode cL_law 546 = .ok (.iload_n 3, 1) := by decide +kernel
theorem dL_law_547 : decode cL_law 547 = .ok (.iconst 2, 1) := by decide +kernel
theorem dL_law_548 : decode cL_law 548 = .ok (.iadd, 1) := by decide +kernel
theorem dL_law_549 : decode cL_law 549 = .ok (.iaload, 1) := by decide +kernel
theorem dL_law_550 : decode cL_law 550 = .ok (.invokevirtual 73, 3) := by decide +kernel
theorem dL_law_553 : decode cL_law 553 = .ok (.if_icmp .eq 435, 3) := by decide +kernel
theorem dL_law_556 : decode cL_law 556 = .ok (.iconst 0, 1) := by decide +kernel
theorem dL_law_557 : decode cL_law 557 = .ok (.ireturn, 1) := by decide +kernel
theorem dL_law_558 : decode cL_law 558 = .ok (.aload_n 1, 1) := by decide +kernel
theorem dL_law_559 : decode cL_law 559 = .ok (.aload_n 0, 1) := by decide +kernel
theorem dL_law_560 : decode cL_law 560 = .ok (.iload_n 3, 1) := by decide +kernel
theorem dL_law_561 : decode cL_law 561 = .ok (.iconst 1, 1) := by decide +kernel
theorem dL_law_562 : decode cL_law 562 = .ok (.iadd, 1) := by decide +kernel
theorem dL_law_563 : decode cL_law 563 = .ok (.iaload, 1) := by decide +kernel
theorem dL_law_564 : decode cL_law 564 = .ok (.aload_n 0, 1) := by decide +kernel
theorem dL_law_565 : decode cL_law 565 = .ok (.iload_n 3, 1) := by decide +kernel
theorem dL_law_566 : decode cL_law 566 = .ok (.iconst 2, 1) := by decide +kernel
theorem dL_law_567 : decode cL_law 567 = .ok (.iadd, 1) := by decide +kernel
theorem dL_law_568 : decode cL_law 568 = .ok (.iaload, 1) := by decide +kernel
theorem dL_law_569 : decode cL_law 569 = .ok (.aload_n 0, 1) := by decide +kernel
theorem dL_law_570 : decode cL_law 570 = .ok (.iload_n 3, 1) := by decide +kernel
theorem dL_law_571 : decode cL_law 571 = .ok (.iconst 3, 1) := by decide +kernel
theorem dL_law_572 : decode cL_law 572 = .ok (.iadd, 1) := by decide +kernel
theorem dL_law_573 : decode cL_law 573 = .ok (.iaload, 1) := by decide +kernel
theorem dL_law_574 : decode cL_law 574 = .ok (.invokevirtual 74, 3) := by decide +kernel
theorem dL_law_577 : decode cL_law 577 = .ok (.aload_n 2, 1) := by decide +kernel
theorem dL_law_578 : decode cL_law 578 = .ok (.aload_n 0, 1) := by decide +kernel
theorem dL_law_579 : decode cL_law 579 = .ok (.iload_n 3, 1) := by decide +kernel
theorem dL_law_580 : decode cL_law 580 = .ok (.iconst 1, 1) := by decide +kernel
theorem dL_law_581 : decode cL_law 581 = .ok (.iadd, 1) := by decide +kernel
theorem dL_law_582 : decode cL_law 582 = .ok (.iaload, 1) := by decide +kernel
theorem dL_law_583 : decode cL_law 583 = .ok (.aload_n 0, 1) := by decide +kernel
theorem dL_law_584 : decode cL_law 584 = .ok (.iload_n 3, 1) := by decide +kernel
theorem dL_law_585 : decode cL_law 585 = .ok (.iconst 2, 1) := by decide +kernel
theorem dL_law_586 : decode cL_law 586 = .ok (.iadd, 1) := by decide +kernel
theorem dL_law_587 : decode cL_law 587 = .ok (.iaload, 1) := by decide +kernel
theorem dL_law_588 : decode cL_law 588 = .ok (.aload_n 0, 1) := by decide +kernel
theorem dL_law_589 : decode cL_law 589 = .ok (.iload_n 3, 1) := by decide +kernel
theorem dL_law_590 : decode cL_law 590 = .ok (.iconst 3, 1) := by decide +kernel
theorem dL_law_591 : decode cL_law 591 = .ok (.iadd, 1) := by decide +kernel
theorem dL_law_592 : decode cL_law 592 = .ok (.iaload, 1) := by decide +kernel
theorem dL_law_593 : decode cL_law 593 = .ok (.invokevirtual 78, 3) := by decide +kernel
theorem dL_law_596 : decode cL_law 596 = .ok (.if_icmp .eq 392, 3) := by decide +kernel
theorem dL_law_599 : decode cL_law 599 = .ok (.iconst 0, 1) := by decide +kernel
theorem dL_law_600 : decode cL_law 600 = .ok (.ireturn, 1) := by decide +kernel
theorem dL_law_601 : decode cL_law 601 = .ok (.aload_n 1, 1) := by decide +kernel
theorem dL_law_602 : decode cL_law 602 = .ok (.aload_n 0, 1) := by decide +kernel
theorem dL_law_603 : decode cL_law 603 = .ok (.iload_n 3, 1) := by decide +kernel
theorem dL_law_604 : decode cL_law 604 = .ok (.iconst 1, 1) := by decide +kernel
theorem dL_law_605 : decode cL_law 605 = .ok (.iadd, 1) := by decide +kernel
theorem dL_law_606 : decode cL_law 606 = .ok (.iaload, 1) := by decide +kernel
theorem dL_law_607 : decode cL_law 607 = .ok (.aload_n 0, 1) := by decide +kernel
theorem dL_law_608 : decode cL_law 608 = .ok (.iload_n 3, 1) := by decide +kernel
theorem dL_law_609 : decode cL_law 609 = .ok (.iconst 2, 1) := by decide +kernel
theorem dL_law_610 : decode cL_law 610 = .ok (.iadd, 1) := by decide +kernel
theorem dL_law_611 : decode cL_law 611 = .ok (.iaload, 1) := by decide +kernel
theorem dL_law_612 : decode cL_law 612 = .ok (.invokevirtual 79, 3) := by decide +kernel
theorem dL_law_615 : decode cL_law 615 = .ok (.aload_n 2, 1) := by decide +kernel
theorem dL_law_616 : decode cL_law 616 = .ok (.aload_n 0, 1) := by decide +kernel
theorem dL_law_617 : decode cL_law 617 = .ok (.iload_n 3, 1) := by decide +kernel
theorem dL_law_618 : decode cL_law 618 = .ok (.iconst 1, 1) := by decide +kernel
theorem dL_law_619 : decode cL_law 619 = .ok (.iadd, 1) := by decide +kernel
theorem dL_law_620 : decode cL_law 620 = .ok (.iaload, 1) := by decide +kernel
theorem dL_law_621 : decode cL_law 621 = .ok (.aload_n 0, 1) := by decide +kernel
theorem dL_law_622 : decode cL_law 622 = .ok (.iload_n 3, 1) := by decide +kernel
theorem dL_law_623 : decode cL_law 623 = .ok (.iconst 2, 1) := by decide +kernel
theorem dL_law_624 : decode cL_law 624 = .ok (.iadd, 1) := by decide +kernel
theorem dL_law_625 : decode cL_law 625 = .ok (.iaload, 1) := by decide +kernel
theorem dL_law_626 : decode cL_law 626 = .ok (.invokevirtual 82, 3) := by decide +kernel
theorem dL_law_629 : decode cL_law 629 = .ok (.if_icmp .eq 359, 3) := by decide +kernel
theorem dL_law_632 : decode cL_law 632 = .ok (.iconst 0, 1) := by decide +kernel
theorem dL_law_633 : decode cL_law 633 = .ok (.ireturn, 1) := by decide +kernel
theorem dL_law_634 : decode cL_law 634 = .ok (.aload_n 1, 1) := by decide +kernel
theorem dL_law_635 : decode cL_law 635 = .ok (.aload_n 0, 1) := by decide +kernel
theorem dL_law_636 : decode cL_law 636 = .ok (.iload_n 3, 1) := by decide +kernel
theorem dL_law_637 : decode cL_law 637 = .ok (.iconst 1, 1) := by decide +kernel
theorem dL_law_638 : decode cL_law 638 = .ok (.iadd, 1) := by decide +kernel
theorem dL_law_639 : decode cL_law 639 = .ok (.iaload, 1) := by decide +kernel
theorem dL_law_640 : decode cL_law 640 = .ok (.aload_n 0, 1) := by decide +kernel
theorem dL_law_641 : decode cL_law 641 = .ok (.iload_n 3, 1) := by decide +kernel
theorem dL_law_642 : decode cL_law 642 = .ok (.iconst 2, 1) := by decide +kernel
theorem dL_law_643 : decode cL_law 643 = .ok (.iadd, 1) := by decide +kernel
theorem dL_law_644 : decode cL_law 644 = .ok (.iaload, 1) := by decide +kernel
theorem dL_law_645 : decode cL_law 645 = .ok (.aload_n 0, 1) := by decide +kernel
theorem dL_law_646 : decode cL_law 646 = .ok (.iload_n 3, 1) := by decide +kernel
theorem dL_law_647 : decode cL_law 647 = .ok (.iconst 3, 1) := by decide +kernel
theorem dL_law_648 : decode cL_law 648 = .ok (.iadd, 1) := by decide +kernel
theorem dL_law_649 : decode cL_law 649 = .ok (.iaload, 1) := by decide +kernel
theorem dL_law_650 : decode cL_law 650 = .ok (.invokevirtual 83, 3) := by decide +kernel
theorem dL_law_653 : decode cL_law 653 = .ok (.aload_n 2, 1) := by decide +kernel
theorem dL_law_654 : decode cL_law 654 = .ok (.aload_n 0, 1) := by decide +kernel
theorem dL_law_655 : decode cL_law 655 = .ok (.iload_n 3, 1) := by decide +kernel
theorem dL_law_656 : decode cL_law 656 = .ok (.iconst 1, 1) := by decide +kernel
theorem dL_law_657 : decode cL_law 657 = .ok (.iadd, 1) := by decide +kernel
theorem dL_law_658 : decode cL_law 658 = .ok (.iaload, 1) := by decide +kernel
theorem dL_law_659 : decode cL_law 659 = .ok (.aload_n 0, 1) := by decide +kernel
theorem dL_law_660 : decode cL_law 660 = .ok (.iload_n 3, 1) := by decide +kernel
theorem dL_law_661 : decode cL_law 661 = .ok (.iconst 2, 1) := by decide +kernel
theorem dL_law_662 : decode cL_law 662 = .ok (.iadd, 1) := by decide +kernel
theorem dL_law_663 : decode cL_law 663 = .ok (.iaload, 1) := by decide +kernel
theorem dL_law_664 : decode cL_law 664 = .ok (.aload_n 0, 1) := by decide +kernel
theorem dL_law_665 : decode cL_law 665 = .ok (.iload_n 3, 1) := by decide +kernel
theorem dL_law_666 : decode cL_law 666 = .ok (.iconst 3, 1) := by decide +kernel
theorem dL_law_667 : decode cL_law 667 = .ok (.iadd, 1) := by decide +kernel
theorem dL_law_668 : decode cL_law 668 = .ok (.iaload, 1) := by decide +kernel
theorem dL_law_669 : decode cL_law 669 = .ok (.invokevirtual 86, 3) := by decide +kernel
theorem dL_law_672 : decode cL_law 672 = .ok (.if_icmp .eq 316, 3) := by decide +kernel
theorem dL_law_675 : decode cL_law 675 = .ok (.iconst 0, 1) := by decide +kernel
theorem dL_law_676 : decode cL_law 676 = .ok (.ireturn, 1) := by decide +kernel
theorem dL_law_677 : decode cL_law 677 = .ok (.aload_n 1, 1) := by decide +kernel
theorem dL_law_678 : decode cL_law 678 = .ok (.aload_n 0, 1) := by decide +kernel
theorem dL_law_679 : decode cL_law 679 = .ok (.iload_n 3, 1) := by decide +kernel
theorem dL_law_680 : decode cL_law 680 = .ok (.iconst 1, 1) := by decide +kernel
theorem dL_law_681 : decode cL_law 681 = .ok (.iadd, 1) := by decide +kernel
theorem dL_law_682 : decode cL_law 682 = .ok (.iaload, 1) := by decide +kernel
theorem dL_law_683 : decode cL_law 683 = .ok (.aload_n 0, 1) := by decide +kernel
theorem dL_law_684 : decode cL_law 684 = .ok (.iload_n 3, 1) := by decide +kernel
theorem dL_law_685 : decode cL_law 685 = .ok (.iconst 2, 1) := by decide +kernel
theorem dL_law_686 : decode cL_law 686 = .ok (.iadd, 1) := by decide +kernel
theorem dL_law_687 : decode cL_law 687 = .ok (.iaload, 1) := by decide +kernel
theorem dL_law_688 : decode cL_law 688 = .ok (.aload_n 0, 1) := by decide +kernel
theorem dL_law_689 : decode cL_law 689 = .ok (.iload_n 3, 1) := by decide +kernel
theorem dL_law_690 : decode cL_law 690 = .ok (.iconst 3, 1) := by decide +kernel
theorem dL_law_691 : decode cL_law 691 = .ok (.iadd, 1) := by decide +kernel
theorem dL_law_692 : decode cL_law 692 = .ok (.iaload, 1) := by decide +kernel
theorem dL_law_693 : decode cL_law 693 = .ok (.invokevirtual 87, 3) := by decide +kernel
theorem dL_law_696 : decode cL_law 696 = .ok (.aload_n 2, 1) := by decide +kernel
theorem dL_law_697 : decode cL_law 697 = .ok (.aload_n 0, 1) := by decide +kernel
theorem dL_law_698 : decode cL_law 698 = .ok (.iload_n 3, 1) := by decide +kernel
theorem dL_law_699 : decode cL_law 699 = .ok (.iconst 1, 1) := by decide +kernel
theorem dL_law_700 : decode cL_law 700 = .ok (.iadd, 1) := by decide +kernel
theorem dL_law_701 : decode cL_law 701 = .ok (.iaload, 1) := by decide +kernel
theorem dL_law_702 : decode cL_law 702 = .ok (.aload_n 0, 1) := by decide +kernel
theorem dL_law_703 : decode cL_law 703 = .ok (.iload_n 3, 1) := by decide +kernel
theorem dL_law_704 : decode cL_law 704 = .ok (.iconst 2, 1) := by decide +kernel
theorem dL_law_705 : decode cL_law 705 = .ok (.iadd, 1) := by decide +kernel
theorem dL_law_706 : decode cL_law 706 = .ok (.iaload, 1) := by decide +kernel
theorem dL_law_707 : decode cL_law 707 = .ok (.aload_n 0, 1) := by decide +kernel
theorem dL_law_708 : decode cL_law 708 = .ok (.iload_n 3, 1) := by decide +kernel
theorem dL_law_709 : decode cL_law 709 = .ok (.iconst 3, 1) := by decide +kernel
theorem dL_law_710 : decode cL_law 710 = .ok (.iadd, 1) := by decide +kernel
theorem dL_law_711 : decode cL_law 711 = .ok (.iaload, 1) := by decide +kernel
theorem dL_law_712 : decode cL_law 712 = .ok (.invokevirtual 90, 3) := by decide +kernel
theorem dL_law_715 : decode cL_law 715 = .ok (.if_icmp .eq 273, 3) := by decide +kernel
theorem dL_law_718 : decode cL_law 718 = .ok (.iconst 0, 1) := by decide +kernel
theorem dL_law_719 : decode cL_law 719 = .ok (.ireturn, 1) := by decide +kernel
theorem dL_law_720 : decode cL_law 720 = .ok (.aload_n 1, 1) := by decide +kernel
theorem dL_law_721 : decode cL_law 721 = .ok (.aload_n 0, 1) := by decide +kernel
theorem dL_law_722 : decode cL_law 722 = .ok (.iload_n 3, 1) := by decide +kernel
theorem dL_law_723 : decode cL_law 723 = .ok (.iconst 1, 1) := by decide +kernel
theorem dL_law_724 : decode cL_law 724 = .ok (.iadd, 1) := by decide +kernel
theorem dL_law_725 : decode cL_law 725 = .ok (.iaload, 1) := by decide +kernel
theorem dL_law_726 : decode cL_law 726 = .ok (.aload_n 0, 1) := by decide +kernel
theorem dL_law_727 : decode cL_law 727 = .ok (.iload_n 3, 1) := by decide +kernel
theorem dL_law_728 : decode cL_law 728 = .ok (.iconst 2, 1) := by decide +kernel
theorem dL_law_729 : decode cL_law 729 = .ok (.iadd, 1) := by decide +kernel
theorem dL_law_730 : decode cL_law 730 = .ok (.iaload, 1) := by decide +kernel
theorem dL_law_731 : decode cL_law 731 = .ok (.aload_n 0, 1) := by decide +kernel
theorem dL_law_732 : decode cL_law 732 = .ok (.iload_n 3, 1) := by decide +kernel
theorem dL_law_733 : decode cL_law 733 = .ok (.iconst 3, 1) := by decide +kernel
theorem dL_law_734 : decode cL_law 734 = .ok (.iadd, 1) := by decide +kernel
theorem dL_law_735 : decode cL_law 735 = .ok (.iaload, 1) := by decide +kernel
theorem dL_law_736 : decode cL_law 736 = .ok (.invokevirtual 91, 3) := by decide +kernel
theorem dL_law_739 : decode cL_law 739 = .ok (.aload_n 2, 1) := by decide +kernel
theorem dL_law_740 : decode cL_law 740 = .ok (.aload_n 0, 1) := by decide +kernel
theorem dL_law_741 : decode cL_law 741 = .ok (.iload_n 3, 1) := by decide +kernel
theorem dL_law_742 : decode cL_law 742 = .ok (.iconst 1, 1) := by decide +kernel
theorem dL_law_743 : decode cL_law 743 = .ok (.iadd, 1) := by decide +kernel
theorem dL_law_744 : decode cL_law 744 = .ok (.iaload, 1) := by decide +kernel
theorem dL_law_745 : decode cL_law 745 = .ok (.aload_n 0, 1) := by decide +kernel
theorem dL_law_746 : decode cL_law 746 = .ok (.iload_n 3, 1) := by decide +kernel
theorem dL_law_747 : decode cL_law 747 = .ok (.iconst 2, 1) := by decide +kernel
theorem dL_law_748 : decode cL_law 748 = .ok (.iadd, 1) := by decide +kernel
theorem dL_law_749 : decode cL_law 749 = .ok (.iaload, 1) := by decide +kernel
theorem dL_law_750 : decode cL_law 750 = .ok (.aload_n 0, 1) := by decide +kernel
theorem dL_law_751 : decode cL_law 751 = .ok (.iload_n 3, 1) := by decide +kernel
theorem dL_law_752 : decode cL_law 752 = .ok (.iconst 3, 1) := by decide +kernel
theorem dL_law_753 : decode cL_law 753 = .ok (.iadd, 1) := by decide +kernel
theorem dL_law_754 : decode cL_law 754 = .ok (.iaload, 1) := by decide +kernel
theorem dL_law_755 : decode cL_law 755 = .ok (.invokevirtual 94, 3) := by decide +kernel
theorem dL_law_758 : decode cL_law 758 = .ok (.if_icmp .eq 230, 3) := by decide +kernel
theorem dL_law_761 : decode cL_law 761 = .ok (.iconst 0, 1) := by decide +kernel
theorem dL_law_762 : decode cL_law 762 = .ok (.ireturn, 1) := by decide +kernel
theorem dL_law_763 : decode cL_law 763 = .ok (.aload_n 1, 1) := by decide +kernel
theorem dL_law_764 : decode cL_law 764 = .ok (.aload_n 0, 1) := by decide +kernel
theorem dL_law_765 : decode cL_law 765 = .ok (.iload_n 3, 1) := by decide +kernel
theorem dL_law_766 : decode cL_law 766 = .ok (.iconst 1, 1) := by decide +kernel
theorem dL_law_767 : decode cL_law 767 = .ok (.iadd, 1) := by decide +kernel
theorem dL_law_768 : decode cL_law 768 = .ok (.iaload, 1) := by decide +kernel
theorem dL_law_769 : decode cL_law 769 = .ok (.aload_n 0, 1) := by decide +kernel
theorem dL_law_770 : decode cL_law 770 = .ok (.iload_n 3, 1) := by decide +kernel
theorem dL_law_771 : decode cL_law 771 = .ok (.iconst 2, 1) := by decide +kernel
theorem dL_law_772 : decode cL_law 772 = .ok (.iadd, 1) := by decide +kernel
theorem dL_law_773 : decode cL_law 773 = .ok (.iaload, 1) := by decide +kernel
theorem dL_law_774 : decode cL_law 774 = .ok (.aload_n 0, 1) := by decide +kernel
theorem dL_law_775 : decode cL_law 775 = .ok (.iload_n 3, 1) := by decide +kernel
theorem dL_law_776 : decode cL_law 776 = .ok (.iconst 3, 1) := by decide +kernel
theorem dL_law_777 : decode cL_law 777 = .ok (.iadd, 1) := by decide +kernel
theorem dL_law_778 : decode cL_law 778 = .ok (.iaload, 1) := by decide +kernel
theorem dL_law_779 : decode cL_law 779 = .ok (.aload_n 0, 1) := by decide +kernel
theorem dL_law_780 : decode cL_law 780 = .ok (.iload_n 3, 1) := by decide +kernel
theorem dL_law_781 : decode cL_law 781 = .ok (.iconst 4, 1) := by decide +kernel
theorem dL_law_782 : decode cL_law 782 = .ok (.iadd, 1) := by decide +kernel
theorem dL_law_783 : decode cL_law 783 = .ok (.iaload, 1) := by decide +kernel
theorem dL_law_784 : decode cL_law 784 = .ok (.aload_n 0, 1) := by decide +kernel
theorem dL_law_785 : decode cL_law 785 = .ok (.iload_n 3, 1) := by decide +kernel
theorem dL_law_786 : decode cL_law 786 = .ok (.iconst 5, 1) := by decide +kernel
theorem dL_law_787 : decode cL_law 787 = .ok (.iadd, 1) := by decide +kernel
theorem dL_law_788 : decode cL_law 788 = .ok (.iaload, 1) := by decide +kernel
theorem dL_law_789 : decode cL_law 789 = .ok (.invokevirtual 95, 3) := by decide +kernel
theorem dL_law_792 : decode cL_law 792 = .ok (.aload_n 2, 1) := by decide +kernel
theorem dL_law_793 : decode cL_law 793 = .ok (.aload_n 0, 1) := by decide +kernel
theorem dL_law_794 : decode cL_law 794 = .ok (.iload_n 3, 1) := by decide +kernel
theorem dL_law_795 : decode cL_law 795 = .ok (.iconst 1, 1) := by decide +kernel
theorem dL_law_796 : decode cL_law 796 = .ok (.iadd, 1) := by decide +kernel
theorem dL_law_797 : decode cL_law 797 = .ok (.iaload, 1) := by decide +kernel
theorem dL_law_798 : decode cL_law 798 = .ok (.aload_n 0, 1) := by decide +kernel
theorem dL_law_799 : decode cL_law 799 = .ok (.iload_n 3, 1) := by decide +kernel
theorem dL_law_800 : decode cL_law 800 = .ok (.iconst 2, 1) := by decide +kernel
theorem dL_law_801 : decode cL_law 801 = .ok (.iadd, 1) := by decide +kernel
theorem dL_law_802 : decode cL_law 802 = .ok (.iaload, 1) := by decide +kernel
theorem dL_law_803 : decode cL_law 803 = .ok (.aload_n 0, 1) := by decide +kernel
theorem dL_law_804 : decode cL_law 804 = .ok (.iload_n 3, 1) := by decide +kernel
theorem dL_law_805 : decode cL_law 805 = .ok (.iconst 3, 1) := by decide +kernel
theorem dL_law_806 : decode cL_law 806 = .ok (.iadd, 1) := by decide +kernel
theorem dL_law_807 : decode cL_law 807 = .ok (.iaload, 1) := by decide +kernel
theorem dL_law_808 : decode cL_law 808 = .ok (.aload_n 0, 1) := by decide +kernel
theorem dL_law_809 : decode cL_law 809 = .ok (.iload_n 3, 1) := by decide +kernel
theorem dL_law_810 : decode cL_law 810 = .ok (.iconst 4, 1) := by decide +kernel
theorem dL_law_811 : decode cL_law 811 = .ok (.iadd, 1) := by decide +kernel
theorem dL_law_812 : decode cL_law 812 = .ok (.iaload, 1) := by decide +kernel
theorem dL_law_813 : decode cL_law 813 = .ok (.aload_n 0, 1) := by decide +kernel
theorem dL_law_814 : decode cL_law 814 = .ok (.iload_n 3, 1) := by decide +kernel
theorem dL_law_815 : decode cL_law 815 = .ok (.iconst 5, 1) := by decide +kernel
theorem dL_law_816 : decode cL_law 816 = .ok (.iadd, 1) := by decide +kernel
theorem dL_law_817 : decode cL_law 817 = .ok (.iaload, 1) := by decide +kernel
theorem dL_law_818 : decode cL_law 818 = .ok (.invokevirtual 99, 3) := by decide +kernel
theorem dL_law_821 : decode cL_law 821 = .ok (.if_icmp .eq 167, 3) := by decide +kernel
theorem dL_law_824 : decode cL_law 824 = .ok (.iconst 0, 1) := by decide +kernel
theorem dL_law_825 : decode cL_law 825 = .ok (.ireturn, 1) := by decide +kernel
theorem dL_law_826 : decode cL_law 826 = .ok (.aload_n 1, 1) := by decide +kernel
theorem dL_law_827 : decode cL_law 827 = .ok (.aload_n 0, 1) := by decide +kernel
theorem dL_law_828 : decode cL_law 828 = .ok (.iload_n 3, 1) := by decide +kernel
theorem dL_law_829 : decode cL_law 829 = .ok (.iconst 1, 1) := by decide +kernel
theorem dL_law_830 : decode cL_law 830 = .ok (.iadd, 1) := by decide +kernel
theorem dL_law_831 : decode cL_law 831 = .ok (.iaload, 1) := by decide +kernel
theorem dL_law_832 : decode cL_law 832 = .ok (.aload_n 0, 1) := by decide +kernel
theorem dL_law_833 : decode cL_law 833 = .ok (.iload_n 3, 1) := by decide +kernel
theorem dL_law_834 : decode cL_law 834 = .ok (.iconst 2, 1) := by decide +kernel
theorem dL_law_835 : decode cL_law 835 = .ok (.iadd, 1) := by decide +kernel
theorem dL_law_836 : decode cL_law 836 = .ok (.iaload, 1) := by decide +kernel
theorem dL_law_837 : decode cL_law 837 = .ok (.aload_n 0, 1) := by decide +kernel
theorem dL_law_838 : decode cL_law 838 = .ok (.iload_n 3, 1) := by decide +kernel
theorem dL_law_839 : decode cL_law 839 = .ok (.iconst 3, 1) := by decide +kernel
theorem dL_law_840 : decode cL_law 840 = .ok (.iadd, 1) := by decide +kernel
theorem dL_law_841 : decode cL_law 841 = .ok (.iaload, 1) := by decide +kernel
theorem dL_law_842 : decode cL_law 842 = .ok (.invokevirtual 100, 3) := by decide +kernel
theorem dL_law_845 : decode cL_law 845 = .ok (.aload_n 2, 1) := by decide +kernel
theorem dL_law_846 : decode cL_law 846 = .ok (.aload_n 0, 1) := by decide +kernel
theorem dL_law_847 : decode cL_law 847 = .ok (.iload_n 3, 1) := by decide +kernel
theorem dL_law_848 : decode cL_law 848 = .ok (.iconst 1, 1) := by decide +kernel
theorem dL_law_849 : decode cL_law 849 = .ok (.iadd, 1) := by decide +kernel
theorem dL_law_850 : decode cL_law 850 = .ok (.iaload, 1) := by decide +kernel
theorem dL_law_851 : decode cL_law 851 = .ok (.aload_n 0, 1) := by decide +kernel
theorem dL_law_852 : decode cL_law 852 = .ok (.iload_n 3, 1) := by decide +kernel
theorem dL_law_853 : decode cL_law 853 = .ok (.iconst 2, 1) := by decide +kernel
theorem dL_law_854 : decode cL_law 854 = .ok (.iadd, 1) := by decide +kernel
theorem dL_law_855 : decode cL_law 855 = .ok (.iaload, 1) := by decide +kernel
theorem dL_law_856 : decode cL_law 856 = .ok (.aload_n 0, 1) := by decide +kernel
theorem dL_law_857 : decode cL_law 857 = .ok (.iload_n 3, 1) := by decide +kernel
theorem dL_law_858 : decode cL_law 858 = .ok (.iconst 3, 1) := by decide +kernel
theorem dL_law_859 : decode cL_law 859 = .ok (.iadd, 1) := by decide +kernel
theorem dL_law_860 : decode cL_law 860 = .ok (.iaload, 1) := by decide +kernel
theorem dL_law_861 : decode cL_law 861 = .ok (.invokevirtual 103, 3) := by decide +kernel
theorem dL_law_864 : decode cL_law 864 = .ok (.if_icmp .eq 124, 3) := by decide +kernel
theorem dL_law_867 : decode cL_law 867 = .ok (.iconst 0, 1) := by decide +kernel
theorem dL_law_868 : decode cL_law 868 = .ok (.ireturn, 1) := by decide +kernel
theorem dL_law_869 : decode cL_law 869 = .ok (.aload_n 1, 1) := by decide +kernel
theorem dL_law_870 : decode cL_law 870 = .ok (.aload_n 0, 1) := by decide +kernel
theorem dL_law_871 : decode cL_law 871 = .ok (.iload_n 3, 1) := by decide +kernel
theorem dL_law_872 : decode cL_law 872 = .ok (.iconst 1, 1) := by decide +kernel
theorem dL_law_873 : decode cL_law 873 = .ok (.iadd, 1) := by decide +kernel
theorem dL_law_874 : decode cL_law 874 = .ok (.iaload, 1) := by decide +kernel
theorem dL_law_875 : decode cL_law 875 = .ok (.aload_n 0, 1) := by decide +kernel
theorem dL_law_876 : decode cL_law 876 = .ok (.iload_n 3, 1) := by decide +kernel
theorem dL_law_877 : decode cL_law 877 = .ok (.iconst 2, 1) := by decide +kernel
theorem dL_law_878 : decode cL_law 878 = .ok (.iadd, 1) := by decide +kernel
theorem dL_law_879 : decode cL_law 879 = .ok (.iaload, 1) := by decide +kernel
theorem dL_law_880 : decode cL_law 880 = .ok (.invokevirtual 104, 3) := by decide +kernel
theorem dL_law_883 : decode cL_law 883 = .ok (.aload_n 2, 1) := by decide +kernel
theorem dL_law_884 : decode cL_law 884 = .ok (.aload_n 0, 1) := by decide +kernel
theorem dL_law_885 : decode cL_law 885 = .ok (.iload_n 3, 1) := by decide +kernel
theorem dL_law_886 : decode cL_law 886 = .ok (.iconst 1, 1) := by decide +kernel
theorem dL_law_887 : decode cL_law 887 = .ok (.iadd, 1) := by decide +kernel
theorem dL_law_888 : decode cL_law 888 = .ok (.iaload, 1) := by decide +kernel
theorem dL_law_889 : decode cL_law 889 = .ok (.aload_n 0, 1) := by decide +kernel
theorem dL_law_890 : decode cL_law 890 = .ok (.iload_n 3, 1) := by decide +kernel
theorem dL_law_891 : decode cL_law 891 = .ok (.iconst 2, 1) := by decide +kernel
theorem dL_law_892 : decode cL_law 892 = .ok (.iadd, 1) := by decide +kernel
theorem dL_law_893 : decode cL_law 893 = .ok (.iaload, 1) := by decide +kernel
theorem dL_law_894 : decode cL_law 894 = .ok (.invokevirtual 107, 3) := by decide +kernel
theorem dL_law_897 : decode cL_law 897 = .ok (.if_icmp .eq 91, 3) := by decide +kernel
theorem dL_law_900 : decode cL_law 900 = .ok (.iconst 0, 1) := by decide +kernel
theorem dL_law_901 : decode cL_law 901 = .ok (.ireturn, 1) := by decide +kernel
theorem dL_law_902 : decode cL_law 902 = .ok (.aload_n 1, 1) := by decide +kernel
theorem dL_law_903 : decode cL_law 903 = .ok (.aload_n 0, 1) := by decide +kernel
theorem dL_law_904 : decode cL_law 904 = .ok (.iload_n 3, 1) := by decide +kernel
theorem dL_law_905 : decode cL_law 905 = .ok (.iconst 1, 1) := by decide +kernel
theorem dL_law_906 : decode cL_law 906 = .ok (.iadd, 1) := by decide +kernel
theorem dL_law_907 : decode cL_law 907 = .ok (.iaload, 1) := by decide +kernel
theorem dL_law_908 : decode cL_law 908 = .ok (.aload_n 0, 1) := by decide +kernel
theorem dL_law_909 : decode cL_law 909 = .ok (.iload_n 3, 1) := by decide +kernel
theorem dL_law_910 : decode cL_law 910 = .ok (.iconst 2, 1) := by decide +kernel
theorem dL_law_911 : decode cL_law 911 = .ok (.iadd, 1) := by decide +kernel
theorem dL_law_912 : decode cL_law 912 = .ok (.iaload, 1) := by decide +kernel
theorem dL_law_913 : decode cL_law 913 = .ok (.aload_n 0, 1) := by decide +kernel
theorem dL_law_914 : decode cL_law 914 = .ok (.iload_n 3, 1) := by decide +kernel
theorem dL_law_915 : decode cL_law 915 = .ok (.iconst 3, 1) := by decide +kernel
theorem dL_law_916 : decode cL_law 916 = .ok (.iadd, 1) := by decide +kernel
theorem dL_law_917 : decode cL_law 917 = .ok (.iaload, 1) := by decide +kernel
theorem dL_law_918 : decode cL_law 918 = .ok (.aload_n 0, 1) := by decide +kernel
theorem dL_law_919 : decode cL_law 919 = .ok (.iload_n 3, 1) := by decide +kernel
theorem dL_law_920 : decode cL_law 920 = .ok (.iconst 4, 1) := by decide +kernel
theorem dL_law_921 : decode cL_law 921 = .ok (.iadd, 1) := by decide +kernel
theorem dL_law_922 : decode cL_law 922 = .ok (.iaload, 1) := by decide +kernel
theorem dL_law_923 : decode cL_law 923 = .ok (.aload_n 0, 1) := by decide +kernel
theorem dL_law_924 : decode cL_law 924 = .ok (.iload_n 3, 1) := by decide +kernel
theorem dL_law_925 : decode cL_law 925 = .ok (.iconst 5, 1) := by decide +kernel
theorem dL_law_926 : decode cL_law 926 = .ok (.iadd, 1) := by decide +kernel
theorem dL_law_927 : decode cL_law 927 = .ok (.iaload, 1) := by decide +kernel
theorem dL_law_928 : decode cL_law 928 = .ok (.invokevirtual 108, 3) := by decide +kernel
theorem dL_law_931 : decode cL_law 931 = .ok (.aload_n 2, 1) := by decide +kernel
theorem dL_law_932 : decode cL_law 932 = .ok (.aload_n 0, 1) := by decide +kernel
theorem dL_law_933 : decode cL_law 933 = .ok (.iload_n 3, 1) := by decide +kernel
theorem dL_law_934 : decode cL_law 934 = .ok (.iconst 1, 1) := by decide +kernel
theorem dL_law_935 : decode cL_law 935 = .ok (.iadd, 1) := by decide +kernel
theorem dL_law_936 : decode cL_law 936 = .ok (.iaload, 1) := by decide +kernel
theorem dL_law_937 : decode cL_law 937 = .ok (.aload_n 0, 1) := by decide +kernel
theorem dL_law_938 : decode cL_law 938 = .ok (.iload_n 3, 1) := by decide +kernel
theorem dL_law_939 : decode cL_law 939 = .ok (.iconst 2, 1) := by decide +kernel
theorem dL_law_940 : decode cL_law 940 = .ok (.iadd, 1) := by decide +kernel
theorem dL_law_941 : decode cL_law 941 = .ok (.iaload, 1) := by decide +kernel
theorem dL_law_942 : decode cL_law 942 = .ok (.aload_n 0, 1) := by decide +kernel
theorem dL_law_943 : decode cL_law 943 = .ok (.iload_n 3, 1) := by decide +kernel
theorem dL_law_944 : decode cL_law 944 = .ok (.iconst 3, 1) := by decide +kernel
theorem dL_law_945 : decode cL_law 945 = .ok (.iadd, 1) := by decide +kernel
theorem dL_law_946 : decode cL_law 946 = .ok (.iaload, 1) := by decide +kernel
theorem dL_law_947 : decode cL_law 947 = .ok (.aload_n 0, 1) := by decide +kernel
theorem dL_law_948 : decode cL_law 948 = .ok (.iload_n 3, 1) := by decide +kernel
theorem dL_law_949 : decode cL_law 949 = .ok (.iconst 4, 1) := by decide +kernel
theorem dL_law_950 : decode cL_law 950 = .ok (.iadd, 1) := by decide +kernel
theorem dL_law_951 : decode cL_law 951 = .ok (.iaload, 1) := by decide +kernel
theorem dL_law_952 : decode cL_law 952 = .ok (.aload_n 0, 1) := by decide +kernel
theorem dL_law_953 : decode cL_law 953 = .ok (.iload_n 3, 1) := by decide +kernel
theorem dL_law_954 : decode cL_law 954 = .ok (.iconst 5, 1) := by decide +kernel
theorem dL_law_955 : decode cL_law 955 = .ok (.iadd, 1) := by decide +kernel
theorem dL_law_956 : decode cL_law 956 = .ok (.iaload, 1) := by decide +kernel
theorem dL_law_957 : decode cL_law 957 = .ok (.invokevirtual 111, 3) := by decide +kernel
theorem dL_law_960 : decode cL_law 960 = .ok (.if_icmp .eq 28, 3) := by decide +kernel
theorem dL_law_963 : decode cL_law 963 = .ok (.iconst 0, 1) := by decide +kernel
theorem dL_law_964 : decode cL_law 964 = .ok (.ireturn, 1) := by decide +kernel
theorem dL_law_965 : decode cL_law 965 = .ok (.aload_n 1, 1) := by decide +kernel
theorem dL_law_966 : decode cL_law 966 = .ok (.aload_n 0, 1) := by decide +kernel
theorem dL_law_967 : decode cL_law 967 = .ok (.iload_n 3, 1) := by decide +kernel
theorem dL_law_968 : decode cL_law 968 = .ok (.iconst 1, 1) := by decide +kernel
theorem dL_law_969 : decode cL_law 969 = .ok (.iadd, 1) := by decide +kernel
theorem dL_law_970 : decode cL_law 970 = .ok (.iaload, 1) := by decide +kernel
theorem dL_law_971 : decode cL_law 971 = .ok (.invokevirtual 112, 3) := by decide +kernel
theorem dL_law_974 : decode cL_law 974 = .ok (.aload_n 2, 1) := by decide +kernel
theorem dL_law_975 : decode cL_law 975 = .ok (.aload_n 0, 1) := by decide +kernel
theorem dL_law_976 : decode cL_law 976 = .ok (.iload_n 3, 1) := by decide +kernel
theorem dL_law_977 : decode cL_law 977 = .ok (.iconst 1, 1) := by decide +kernel
theorem dL_law_978 : decode cL_law 978 = .ok (.iadd, 1) := by decide +kernel
theorem dL_law_979 : decode cL_law 979 = .ok (.iaload, 1) := by decide +kernel
theorem dL_law_980 : decode cL_law 980 = .ok (.invokevirtual 115, 3) := by decide +kernel
theorem dL_law_983 : decode cL_law 983 = .ok (.if_icmp .eq 5, 3) := by decide +kernel
theorem dL_law_986 : decode cL_law 986 = .ok (.iconst 0, 1) := by decide +kernel
theorem dL_law_987 : decode cL_law 987 = .ok (.ireturn, 1) := by decide +kernel
theorem dL_law_988 : decode cL_law 988 = .ok (.iinc 3 7, 3) := by decide +kernel
theorem dL_law_991 : decode cL_law 991 = .ok (.goto (-973), 3) := by decide +kernel
theorem dL_law_994 : decode cL_law 994 = .ok (.iconst 1, 1) := by decide +kernel
theorem dL_law_995 : decode cL_law 995 = .ok (.ireturn, 1) := by decide +kernel
set_option maxRecDepth 100000 in
theorem B_L_law_0 {d : Nat} {h : AbH} {K : Option AbV → AbH → Prop} {x0 : Option Nat} (hh : ∀ q1 : Nat, ab_new h q1 → ∀ h2 : AbH, h2 = hsO h q1 (8, [vR none, vR none, vR none, vR none, vR none, vR none, vR none]) → Vm d m_X9_init [vR (some q1)] h2 (kV (fun h5 => ∀ q6 : Nat, ab_new h5 q6 → ∀ h7 : AbH, h7 = hsO h5 q6 (9, [vR none, vI 0, vR none, vR none, vI 0, vI 0, vI 0, vR none, vI 0, vI 0, vI 0, vI 0, vR none, vR none, vR none, vI 0, vR none, vR none, vR none, vR none, vR none, vR none, vI 0]) → Vm d m_X10_init [vR (some q6)] h7 (kV (fun h10 => Vx (d + 1) m_L_law 599962 7296268 18 [some (vR x0), some (vR (some q1)), some (vR (some q6)), some (vI 0)] [] h10 K))))) : Vx (d + 1) m_L_law 600000 7302250 0 [some (vR x0)] [] h K := by
  refine Vx.pad 3 [some (vR x0), none, none, none] rfl ?_
  refine rr_new (bc' := 599999) (bs' := 7302243) cf_X9 (fs := [vR none, vR none, vR none, vR none, vR none, vR none, vR none]) dL_law_0 rfl q_17 q_18 q_1 (fun j hj => by rcases (show j = 0 ∨ j = 1 ∨ j = 2 ∨ j = 3 ∨ j = 4 ∨ j = 5 ∨ j = 6 by omega) with rfl | rfl | rfl | rfl | rfl | rfl | rfl <;> rfl) (by intro v hv; simp only [List.mem_cons, List.not_mem_nil, or_false] at hv; rcases hv with rfl | rfl | rfl | rfl | rfl | rfl | rfl <;> first | trivial | exact ⟨by decide, by decide⟩) (by decide) (by decide) (fun q1 hz => ?_)
  have hh := hh q1 hz _ rfl
  generalize hsO h q1 (8, [vR none, vR none, vR none, vR none, vR none, vR none, vR none]) = h2 at hh ⊢
  refine rr_dup dL_law_3 rfl rfl ?_
  refine rr_callI (bc' := 599976) (bs' := 7301348) (b := q1) (av := []) (st := [vR (some q1)]) mf_X9_init rfl rfl dL_law_4 rfl q_19 q_20 rfl (show 1 ≤ 8 by decide) (by decide) (by decide) hh (rr_kV fun h5 hh => ?_)
  refine rr_astore_n (ls' := [some (vR x0), some (vR (some q1)), none, none]) dL_law_7 rfl (by decide) (fun _ z => by cases z) rfl ?_
  refine rr_new (bc' := 599975) (bs' := 7301325) cf_X10 (fs := [vR none, vI 0, vR none, vR none, vI 0, vI 0, vI 0, vR none, vI 0, vI 0, vI 0, vI 0, vR none, vR none, vR none, vI 0, vR none, vR none, vR none, vR none, vR none, vR none, vI 0]) dL_law_8 rfl q_748 q_749 q_8 (fun j hj => by rcases (show j = 0 ∨ j = 1 ∨ j = 2 ∨ j = 3 ∨ j = 4 ∨ j = 5 ∨ j = 6 ∨ j = 7 ∨ j = 8 ∨ j = 9 ∨ j = 10 ∨ j = 11 ∨ j = 12 ∨ j = 13 ∨ j = 14 ∨ j = 15 ∨ j = 16 ∨ j = 17 ∨ j = 18 ∨ j = 19 ∨ j = 20 ∨ j = 21 ∨ j = 22 by omega) with rfl | rfl | rfl | rfl | rfl | rfl | rfl | rfl | rfl | rfl | rfl | rfl | rfl | rfl | rfl | rfl | rfl | rfl | rfl | rfl | rfl | rfl | rfl <;> rfl) (by intro v hv; simp only [List.mem_cons, List.not_mem_nil, or_false] at hv; rcases hv with rfl | rfl | rfl | rfl | rfl | rfl | rfl | rfl | rfl | rfl | rfl | rfl | rfl | rfl | rfl | rfl | rfl | rfl | rfl | rfl | rfl | rfl | rfl <;> first | trivial | exact ⟨by decide, by decide⟩) (by decide) (by decide) (fun q6 hz => ?_)
  have hh := hh q6 hz _ rfl
  generalize hsO h5 q6 (9, [vR none, vI 0, vR none, vR none, vI 0, vI 0, vI 0, vR none, vI 0, vI 0, vI 0, vI 0, vR none, vR none, vR none, vI 0, vR none, vR none, vR none, vR none, vR none, vR none, vI 0]) = h7 at hh ⊢
  refine rr_dup dL_law_11 rfl rfl ?_
  refine rr_callI (bc' := 599962) (bs' := 7296268) (b := q6) (av := []) (st := [vR (some q6)]) mf_X10_init rfl rfl dL_law_12 rfl q_750 q_751 rfl (show 1 ≤ 8 by decide) (by decide) (by decide) hh (rr_kV fun h10 hh => ?_)
  refine rr_astore_n (ls' := [some (vR x0), some (vR (some q1)), some (vR (some q6)), none]) dL_law_15 rfl (by decide) (fun _ z => by cases z) rfl ?_
  refine rr_iconst dL_law_16 rfl ⟨by decide, by decide⟩ ?_
  refine rr_istore_n (ls' := [some (vR x0), some (vR (some q1)), some (vR (some q6)), some (vI 0)]) dL_law_17 rfl (by decide) (fun _ z => by cases z) rfl ?_
  exact hh
set_option maxRecDepth 100000 in
theorem B_L_law_18 {d : Nat} {h : AbH} {K : Option AbV → AbH → Prop} {x0 : Option Nat} {x1 : Option Nat} {x2 : Option Nat} {x3 : Int} {bc bs : Nat} (hh : wpNX h x0 (fun n1 => in32 (n1 - 7) ∧ (((n1 - 7) < x3 → K (some (vI 1)) h) ∧ (¬ ((n1 - 7) < x3) → wpLX h x0 x3 (fun n3 => (((n3 % 32) = 0 → in32 (x3 + 1) ∧ wpLX h x0 (x3 + 1) (fun n5 => wpCV h x1 8 (fun b14 => Vm d m_X9_type [vR (some b14), vI n5] h (kI (fun n7 h6 => in32 (x3 + 1) ∧ wpLX h6 x0 (x3 + 1) (fun n9 => wpCV h6 x2 9 (fun b13 => Vm d m_X10_type [vR (some b13), vI n9] h6 (kI (fun n11 h10 => ((n7 = n11 → in32 (x3 + 7) ∧ Vx (d + 1) m_L_law bc bs 18 [some (vR x0), some (vR x1), some (vR x2), some (vI (x3 + 7))] [] h10 K) ∧ (¬ (n7 = n11) → K (some (vI 0)) h10))))))))))) ∧ ((n3 % 32) = 1 → wpCV h x1 8 (fun b21 => Vm d m_X9_erase [vR (some b21)] h (kI (fun n16 h15 => wpCV h15 x2 9 (fun b20 => Vm d m_X10_erase [vR (some b20)] h15 (kI (fun n18 h17 => ((n16 = n18 → in32 (x3 + 7) ∧ Vx (d + 1) m_L_law bc bs 18 [some (vR x0), some (vR x1), some (vR x2), some (vI (x3 + 7))] [] h17 K) ∧ (¬ (n16 = n18) → K (some (vI 0)) h17))))))))) ∧ ((n3 % 32) = 2 → 29 ≤ bc ∧ 210 ≤ bs ∧ wpCV h x1 8 (fun b30 => Vm d m_X9_fault [vR (some b30)] h (kI (fun n25 h24 => wpCV h24 x2 9 (fun b29 => Vm d m_X10_fault [vR (some b29)] h24 (kI (fun n27 h26 => ((n25 = n27 → in32 (x3 + 7) ∧ Vx (d + 1) m_L_law (bc - 29) (bs - 210) 18 [some (vR x0), some (vR x1), some (vR x2), some (vI (x3 + 7))] [] h26 K) ∧ (¬ (n25 = n27) → K (some (vI 0)) h26))))))))) ∧ ((n3 % 32) = 3 → 29 ≤ bc ∧ 210 ≤ bs ∧ wpCV h x1 8 (fun b39 => Vm d m_X9_tell [vR (some b39)] h (kI (fun n34 h33 => wpCV h33 x2 9 (fun b38 => Vm d m_X10_tell [vR (some b38)] h33 (kI (fun n36 h35 => ((n34 = n36 → in32 (x3 + 7) ∧ Vx (d + 1) m_L_law (bc - 29) (bs - 210) 18 [some (vR x0), some (vR x1), some (vR x2), some (vI (x3 + 7))] [] h35 K) ∧ (¬ (n34 = n36) → K (some (vI 0)) h35))))))))) ∧ ((n3 % 32) = 4 → in32 (x3 + 1) ∧ wpLX h x0 (x3 + 1) (fun n41 => in32 (x3 + 2) ∧ wpLX h x0 (x3 + 2) (fun n43 => in32 (x3 + 3) ∧ wpLX h x0 (x3 + 3) (fun n45 => in32 (x3 + 4) ∧ wpLX h x0 (x3 + 4) (fun n47 => in32 (x3 + 5) ∧ wpLX h x0 (x3 + 5) (fun n49 => in32 (x3 + 6) ∧ wpLX h x0 (x3 + 6) (fun n51 => 6 ≤ bc ∧ 72 ≤ bs ∧ wpCV h x1 8 (fun b72 => Vm d m_X9_law [vR (some b72), vI n41, vI n43, vI n45, vI n47, vI n49, vI n51] h (kI (fun n55 h54 => in32 (x3 + 1) ∧ wpLX h54 x0 (x3 + 1) (fun n57 => in32 (x3 + 2) ∧ wpLX h54 x0 (x3 + 2) (fun n59 => in32 (x3 + 3) ∧ wpLX h54 x0 (x3 + 3) (fun n61 => in32 (x3 + 4) ∧ wpLX h54 x0 (x3 + 4) (fun n63 => in32 (x3 + 5) ∧ wpLX h54 x0 (x3 + 5) (fun n65 => in32 (x3 + 6) ∧ wpLX h54 x0 (x3 + 6) (fun n67 => wpCV h54 x2 9 (fun b71 => Vm d m_X10_law [vR (some b71), vI n57, vI n59, vI n61, vI n63, vI n65, vI n67] h54 (kI (fun n69 h68 => ((n55 = n69 → in32 (x3 + 7) ∧ Vx (d + 1) m_L_law (bc - 6) (bs - 72) 18 [some (vR x0), some (vR x1), some (vR x2), some (vI (x3 + 7))] [] h68 K) ∧ (¬ (n55 = n69) → K (some (vI 0)) h68))))))))))))))))))))) ∧ ((n3 % 32) = 5 → in32 (x3 + 1) ∧ wpLX h x0 (x3 + 1) (fun n74 => 5 ≤ bc ∧ 66 ≤ bs ∧ wpCV h x1 8 (fun b85 => Vm d m_X9_repeal [vR (some b85), vI n74] h (kI (fun n78 h77 => in32 (x3 + 1) ∧ wpLX h77 x0 (x3 + 1) (fun n80 => wpCV h77 x2 9 (fun b84 => Vm d m_X10_repeal [vR (some b84), vI n80] h77 (kI (fun n82 h81 => ((n78 = n82 → in32 (x3 + 7) ∧ Vx (d + 1) m_L_law (bc - 5) (bs - 66) 18 [some (vR x0), some (vR x1), some (vR x2), some (vI (x3 + 7))] [] h81 K) ∧ (¬ (n78 = n82) → K (some (vI 0)) h81))))))))))) ∧ ((n3 % 32) = 6 → in32 (x3 + 1) ∧ wpLX h x0 (x3 + 1) (fun n87 => in32 (x3 + 2) ∧ wpLX h x0 (x3 + 2) (fun n89 => in32 (x3 + 3) ∧ wpLX h x0 (x3 + 3) (fun n91 => in32 (x3 + 4) ∧ wpLX h x0 (x3 + 4) (fun n93 => 5 ≤ bc ∧ 66 ≤ bs ∧ wpCV h x1 8 (fun b110 => Vm d m_X9_meet [vR (some b110), vI n87, vI n89, vI n91, vI n93] h (kI (fun n97 h96 => in32 (x3 + 1) ∧ wpLX h96 x0 (x3 + 1) (fun n99 => in32 (x3 + 2) ∧ wpLX h96 x0 (x3 + 2) (fun n101 => in32 (x3 + 3) ∧ wpLX h96 x0 (x3 + 3) (fun n103 => in32 (x3 + 4) ∧ wpLX h96 x0 (x3 + 4) (fun n105 => wpCV h96 x2 9 (fun b109 => Vm d m_X10_meet [vR (some b109), vI n99, vI n101, vI n103, vI n105] h96 (kI (fun n107 h106 => ((n97 = n107 → in32 (x3 + 7) ∧ Vx (d + 1) m_L_law (bc - 5) (bs - 66) 18 [some (vR x0), some (vR x1), some (vR x2), some (vI (x3 + 7))] [] h106 K) ∧ (¬ (n97 = n107) → K (some (vI 0)) h106))))))))))))))))) ∧ ((n3 % 32) = 7 → in32 (x3 + 1) ∧ wpLX h x0 (x3 + 1) (fun n112 => in32 (x3 + 2) ∧ wpLX h x0 (x3 + 2) (fun n114 => 5 ≤ bc ∧ 66 ≤ bs ∧ wpCV h x1 8 (fun b127 => Vm d m_X9_part [vR (some b127), vI n112, vI n114] h (kI (fun n118 h117 => in32 (x3 + 1) ∧ wpLX h117 x0 (x3 + 1) (fun n120 => in32 (x3 + 2) ∧ wpLX h117 x0 (x3 + 2) (fun n122 => wpCV h117 x2 9 (fun b126 => Vm d m_X10_part [vR (some b126), vI n120, vI n122] h117 (kI (fun n124 h123 => ((n118 = n124 → in32 (x3 + 7) ∧ Vx (d + 1) m_L_law (bc - 5) (bs - 66) 18 [some (vR x0), some (vR x1), some (vR x2), some (vI (x3 + 7))] [] h123 K) ∧ (¬ (n118 = n124) → K (some (vI 0)) h123))))))))))))) ∧ ((n3 % 32) = 8 → in32 (x3 + 1) ∧ wpLX h x0 (x3 + 1) (fun n129 => in32 (x3 + 2) ∧ wpLX h x0 (x3 + 2) (fun n131 => in32 (x3 + 3) ∧ wpLX h x0 (x3 + 3) (fun n133 => in32 (x3 + 4) ∧ wpLX h x0 (x3 + 4) (fun n135 => 6 ≤ bc ∧ 70 ≤ bs ∧ wpCV h x1 8 (fun b152 => Vm d m_X9_lend [vR (some b152), vI n129, vI n131, vI n133, vI n135] h (kI (fun n139 h138 => in32 (x3 + 1) ∧ wpLX h138 x0 (x3 + 1) (fun n141 => in32 (x3 + 2) ∧ wpLX h138 x0 (x3 + 2) (fun n143 => in32 (x3 + 3) ∧ wpLX h138 x0 (x3 + 3) (fun n145 => in32 (x3 + 4) ∧ wpLX h138 x0 (x3 + 4) (fun n147 => wpCV h138 x2 9 (fun b151 => Vm d m_X10_lend [vR (some b151), vI n141, vI n143, vI n145, vI n147] h138 (kI (fun n149 h148 => ((n139 = n149 → in32 (x3 + 7) ∧ Vx (d + 1) m_L_law (bc - 6) (bs - 70) 18 [some (vR x0), some (vR x1), some (vR x2), some (vI (x3 + 7))] [] h148 K) ∧ (¬ (n139 = n149) → K (some (vI 0)) h148))))))))))))))))) ∧ ((n3 % 32) = 9 → in32 (x3 + 1) ∧ wpLX h x0 (x3 + 1) (fun n154 => 5 ≤ bc ∧ 66 ≤ bs ∧ wpCV h x1 8 (fun b165 => Vm d m_X9_drop [vR (some b165), vI n154] h (kI (fun n158 h157 => in32 (x3 + 1) ∧ wpLX h157 x0 (x3 + 1) (fun n160 => wpCV h157 x2 9 (fun b164 => Vm d m_X10_drop [vR (some b164), vI n160] h157 (kI (fun n162 h161 => ((n158 = n162 → in32 (x3 + 7) ∧ Vx (d + 1) m_L_law (bc - 5) (bs - 66) 18 [some (vR x0), some (vR x1), some (vR x2), some (vI (x3 + 7))] [] h161 K) ∧ (¬ (n158 = n162) → K (some (vI 0)) h161))))))))))) ∧ ((n3 % 32) = 10 → wpCV h x1 8 (fun b172 => Vm d m_X9_undo [vR (some b172)] h (kI (fun n167 h166 => wpCV h166 x2 9 (fun b171 => Vm d m_X10_undo [vR (some b171)] h166 (kI (fun n169 h168 => ((n167 = n169 → in32 (x3 + 7) ∧ Vx (d + 1) m_L_law bc bs 18 [some (vR x0), some (vR x1), some (vR x2), some (vI (x3 + 7))] [] h168 K) ∧ (¬ (n167 = n169) → K (some (vI 0)) h168))))))))) ∧ ((n3 % 32) = 11 → in32 (x3 + 1) ∧ wpLX h x0 (x3 + 1) (fun n174 => wpCV h x1 8 (fun b183 => Vm d m_X9_keep [vR (some b183), vI n174] h (kI (fun n176 h175 => in32 (x3 + 1) ∧ wpLX h175 x0 (x3 + 1) (fun n178 => wpCV h175 x2 9 (fun b182 => Vm d m_X10_keep [vR (some b182), vI n178] h175 (kI (fun n180 h179 => ((n176 = n180 → in32 (x3 + 7) ∧ Vx (d + 1) m_L_law bc bs 18 [some (vR x0), some (vR x1), some (vR x2), some (vI (x3 + 7))] [] h179 K) ∧ (¬ (n176 = n180) → K (some (vI 0)) h179))))))))))) ∧ ((n3 % 32) = 12 → in32 (x3 + 1) ∧ wpLX h x0 (x3 + 1) (fun n185 => wpCV h x1 8 (fun b194 => Vm d m_X9_back [vR (some b194), vI n185] h (kI (fun n187 h186 => in32 (x3 + 1) ∧ wpLX h186 x0 (x3 + 1) (fun n189 => wpCV h186 x2 9 (fun b193 => Vm d m_X10_back [vR (some b193), vI n189] h186 (kI (fun n191 h190 => ((n187 = n191 → in32 (x3 + 7) ∧ Vx (d + 1) m_L_law bc bs 18 [some (vR x0), some (vR x1), some (vR x2), some (vI (x3 + 7))] [] h190 K) ∧ (¬ (n187 = n191) → K (some (vI 0)) h190))))))))))) ∧ ((n3 % 32) = 13 → in32 (x3 + 1) ∧ wpLX h x0 (x3 + 1) (fun n196 => in32 (x3 + 2) ∧ wpLX h x0 (x3 + 2) (fun n198 => wpCV h x1 8 (fun b209 => Vm d m_X9_told [vR (some b209), vI n196, vI n198] h (kI (fun n200 h199 => in32 (x3 + 1) ∧ wpLX h199 x0 (x3 + 1) (fun n202 => in32 (x3 + 2) ∧ wpLX h199 x0 (x3 + 2) (fun n204 => wpCV h199 x2 9 (fun b208 => Vm d m_X10_told [vR (some b208), vI n202, vI n204] h199 (kI (fun n206 h205 => ((n200 = n206 → in32 (x3 + 7) ∧ Vx (d + 1) m_L_law bc bs 18 [some (vR x0), some (vR x1), some (vR x2), some (vI (x3 + 7))] [] h205 K) ∧ (¬ (n200 = n206) → K (some (vI 0)) h205))))))))))))) ∧ ((n3 % 32) = 14 → in32 (x3 + 1) ∧ wpLX h x0 (x3 + 1) (fun n211 => in32 (x3 + 2) ∧ wpLX h x0 (x3 + 2) (fun n213 => in32 (x3 + 3) ∧ wpLX h x0 (x3 + 3) (fun n215 => wpCV h x1 8 (fun b228 => Vm d m_X9_meeting [vR (some b228), vI n211, vI n213, vI n215] h (kI (fun n217 h216 => in32 (x3 + 1) ∧ wpLX h216 x0 (x3 + 1) (fun n219 => in32 (x3 + 2) ∧ wpLX h216 x0 (x3 + 2) (fun n221 => in32 (x3 + 3) ∧ wpLX h216 x0 (x3 + 3) (fun n223 => wpCV h216 x2 9 (fun b227 => Vm d m_X10_meeting [vR (some b227), vI n219, vI n221, vI n223] h216 (kI (fun n225 h224 => ((n217 = n225 → in32 (x3 + 7) ∧ Vx (d + 1) m_L_law bc bs 18 [some (vR x0), some (vR x1), some (vR x2), some (vI (x3 + 7))] [] h224 K) ∧ (¬ (n217 = n225) → K (some (vI 0)) h224))))))))))))))) ∧ ((n3 % 32) = 15 → in32 (x3 + 1) ∧ wpLX h x0 (x3 + 1) (fun n230 => in32 (x3 + 2) ∧ wpLX h x0 (x3 + 2) (fun n232 => wpCV h x1 8 (fun b243 => Vm d m_X9_loan [vR (some b243), vI n230, vI n232] h (kI (fun n234 h233 => in32 (x3 + 1) ∧ wpLX h233 x0 (x3 + 1) (fun n236 => in32 (x3 + 2) ∧ wpLX h233 x0 (x3 + 2) (fun n238 => wpCV h233 x2 9 (fun b242 => Vm d m_X10_loan [vR (some b242), vI n236, vI n238] h233 (kI (fun n240 h239 => ((n234 = n240 → in32 (x3 + 7) ∧ Vx (d + 1) m_L_law bc bs 18 [some (vR x0), some (vR x1), some (vR x2), some (vI (x3 + 7))] [] h239 K) ∧ (¬ (n234 = n240) → K (some (vI 0)) h239))))))))))))) ∧ ((n3 % 32) = 16 → in32 (x3 + 1) ∧ wpLX h x0 (x3 + 1) (fun n245 => in32 (x3 + 2) ∧ wpLX h x0 (x3 + 2) (fun n247 => in32 (x3 + 3) ∧ wpLX h x0 (x3 + 3) (fun n249 => wpCV h x1 8 (fun b262 => Vm d m_X9_sound [vR (some b262), vI n245, vI n247, vI n249] h (kI (fun n251 h250 => in32 (x3 + 1) ∧ wpLX h250 x0 (x3 + 1) (fun n253 => in32 (x3 + 2) ∧ wpLX h250 x0 (x3 + 2) (fun n255 => in32 (x3 + 3) ∧ wpLX h250 x0 (x3 + 3) (fun n257 => wpCV h250 x2 9 (fun b261 => Vm d m_X10_sound [vR (some b261), vI n253, vI n255, vI n257] h250 (kI (fun n259 h258 => ((n251 = n259 → in32 (x3 + 7) ∧ Vx (d + 1) m_L_law bc bs 18 [some (vR x0), some (vR x1), some (vR x2), some (vI (x3 + 7))] [] h258 K) ∧ (¬ (n251 = n259) → K (some (vI 0)) h258))))))))))))))) ∧ ((n3 % 32) = 17 → in32 (x3 + 1) ∧ wpLX h x0 (x3 + 1) (fun n264 => in32 (x3 + 2) ∧ wpLX h x0 (x3 + 2) (fun n266 => in32 (x3 + 3) ∧ wpLX h x0 (x3 + 3) (fun n268 => wpCV h x1 8 (fun b281 => Vm d m_X9_window [vR (some b281), vI n264, vI n266, vI n268] h (kI (fun n270 h269 => in32 (x3 + 1) ∧ wpLX h269 x0 (x3 + 1) (fun n272 => in32 (x3 + 2) ∧ wpLX h269 x0 (x3 + 2) (fun n274 => in32 (x3 + 3) ∧ wpLX h269 x0 (x3 + 3) (fun n276 => wpCV h269 x2 9 (fun b280 => Vm d m_X10_window [vR (some b280), vI n272, vI n274, vI n276] h269 (kI (fun n278 h277 => ((n270 = n278 → in32 (x3 + 7) ∧ Vx (d + 1) m_L_law bc bs 18 [some (vR x0), some (vR x1), some (vR x2), some (vI (x3 + 7))] [] h277 K) ∧ (¬ (n270 = n278) → K (some (vI 0)) h277))))))))))))))) ∧ ((n3 % 32) = 18 → in32 (x3 + 1) ∧ wpLX h x0 (x3 + 1) (fun n283 => in32 (x3 + 2) ∧ wpLX h x0 (x3 + 2) (fun n285 => in32 (x3 + 3) ∧ wpLX h x0 (x3 + 3) (fun n287 => wpCV h x1 8 (fun b300 => Vm d m_X9_taken [vR (some b300), vI n283, vI n285, vI n287] h (kI (fun n289 h288 => in32 (x3 + 1) ∧ wpLX h288 x0 (x3 + 1) (fun n291 => in32 (x3 + 2) ∧ wpLX h288 x0 (x3 + 2) (fun n293 => in32 (x3 + 3) ∧ wpLX h288 x0 (x3 + 3) (fun n295 => wpCV h288 x2 9 (fun b299 => Vm d m_X10_taken [vR (some b299), vI n291, vI n293, vI n295] h288 (kI (fun n297 h296 => ((n289 = n297 → in32 (x3 + 7) ∧ Vx (d + 1) m_L_law bc bs 18 [some (vR x0), some (vR x1), some (vR x2), some (vI (x3 + 7))] [] h296 K) ∧ (¬ (n289 = n297) → K (some (vI 0)) h296))))))))))))))) ∧ ((n3 % 32) = 19 → in32 (x3 + 1) ∧ wpLX h x0 (x3 + 1) (fun n302 => in32 (x3 + 2) ∧ wpLX h x0 (x3 + 2) (fun n304 => in32 (x3 + 3) ∧ wpLX h x0 (x3 + 3) (fun n306 => in32 (x3 + 4) ∧ wpLX h x0 (x3 + 4) (fun n308 => in32 (x3 + 5) ∧ wpLX h x0 (x3 + 5) (fun n310 => wpCV h x1 8 (fun b327 => Vm d m_X9_gone [vR (some b327), vI n302, vI n304, vI n306, vI n308, vI n310] h (kI (fun n312 h311 => in32 (x3 + 1) ∧ wpLX h311 x0 (x3 + 1) (fun n314 => in32 (x3 + 2) ∧ wpLX h311 x0 (x3 + 2) (fun n316 => in32 (x3 + 3) ∧ wpLX h311 x0 (x3 + 3) (fun n318 => in32 (x3 + 4) ∧ wpLX h311 x0 (x3 + 4) (fun n320 => in32 (x3 + 5) ∧ wpLX h311 x0 (x3 + 5) (fun n322 => wpCV h311 x2 9 (fun b326 => Vm d m_X10_gone [vR (some b326), vI n314, vI n316, vI n318, vI n320, vI n322] h311 (kI (fun n324 h323 => ((n312 = n324 → in32 (x3 + 7) ∧ Vx (d + 1) m_L_law bc bs 18 [some (vR x0), some (vR x1), some (vR x2), some (vI (x3 + 7))] [] h323 K) ∧ (¬ (n312 = n324) → K (some (vI 0)) h323))))))))))))))))))) ∧ ((n3 % 32) = 20 → in32 (x3 + 1) ∧ wpLX h x0 (x3 + 1) (fun n329 => in32 (x3 + 2) ∧ wpLX h x0 (x3 + 2) (fun n331 => in32 (x3 + 3) ∧ wpLX h x0 (x3 + 3) (fun n333 => wpCV h x1 8 (fun b346 => Vm d m_X9_did [vR (some b346), vI n329, vI n331, vI n333] h (kI (fun n335 h334 => in32 (x3 + 1) ∧ wpLX h334 x0 (x3 + 1) (fun n337 => in32 (x3 + 2) ∧ wpLX h334 x0 (x3 + 2) (fun n339 => in32 (x3 + 3) ∧ wpLX h334 x0 (x3 + 3) (fun n341 => wpCV h334 x2 9 (fun b345 => Vm d m_X10_did [vR (some b345), vI n337, vI n339, vI n341] h334 (kI (fun n343 h342 => ((n335 = n343 → in32 (x3 + 7) ∧ Vx (d + 1) m_L_law bc bs 18 [some (vR x0), some (vR x1), some (vR x2), some (vI (x3 + 7))] [] h342 K) ∧ (¬ (n335 = n343) → K (some (vI 0)) h342))))))))))))))) ∧ ((n3 % 32) = 21 → in32 (x3 + 1) ∧ wpLX h x0 (x3 + 1) (fun n348 => in32 (x3 + 2) ∧ wpLX h x0 (x3 + 2) (fun n350 => wpCV h x1 8 (fun b361 => Vm d m_X9_older [vR (some b361), vI n348, vI n350] h (kI (fun n352 h351 => in32 (x3 + 1) ∧ wpLX h351 x0 (x3 + 1) (fun n354 => in32 (x3 + 2) ∧ wpLX h351 x0 (x3 + 2) (fun n356 => wpCV h351 x2 9 (fun b360 => Vm d m_X10_older [vR (some b360), vI n354, vI n356] h351 (kI (fun n358 h357 => ((n352 = n358 → in32 (x3 + 7) ∧ Vx (d + 1) m_L_law bc bs 18 [some (vR x0), some (vR x1), some (vR x2), some (vI (x3 + 7))] [] h357 K) ∧ (¬ (n352 = n358) → K (some (vI 0)) h357))))))))))))) ∧ ((n3 % 32) = 22 → in32 (x3 + 1) ∧ wpLX h x0 (x3 + 1) (fun n363 => in32 (x3 + 2) ∧ wpLX h x0 (x3 + 2) (fun n365 => in32 (x3 + 3) ∧ wpLX h x0 (x3 + 3) (fun n367 => in32 (x3 + 4) ∧ wpLX h x0 (x3 + 4) (fun n369 => in32 (x3 + 5) ∧ wpLX h x0 (x3 + 5) (fun n371 => wpCV h x1 8 (fun b388 => Vm d m_X9_road [vR (some b388), vI n363, vI n365, vI n367, vI n369, vI n371] h (kI (fun n373 h372 => in32 (x3 + 1) ∧ wpLX h372 x0 (x3 + 1) (fun n375 => in32 (x3 + 2) ∧ wpLX h372 x0 (x3 + 2) (fun n377 => in32 (x3 + 3) ∧ wpLX h372 x0 (x3 + 3) (fun n379 => in32 (x3 + 4) ∧ wpLX h372 x0 (x3 + 4) (fun n381 => in32 (x3 + 5) ∧ wpLX h372 x0 (x3 + 5) (fun n383 => wpCV h372 x2 9 (fun b387 => Vm d m_X10_road [vR (some b387), vI n375, vI n377, vI n379, vI n381, vI n383] h372 (kI (fun n385 h384 => ((n373 = n385 → in32 (x3 + 7) ∧ Vx (d + 1) m_L_law bc bs 18 [some (vR x0), some (vR x1), some (vR x2), some (vI (x3 + 7))] [] h384 K) ∧ (¬ (n373 = n385) → K (some (vI 0)) h384))))))))))))))))))) ∧ ((n3 % 32) = 23 → in32 (x3 + 1) ∧ wpLX h x0 (x3 + 1) (fun n390 => wpCV h x1 8 (fun b399 => Vm d m_X9_count [vR (some b399), vI n390] h (kI (fun n392 h391 => in32 (x3 + 1) ∧ wpLX h391 x0 (x3 + 1) (fun n394 => wpCV h391 x2 9 (fun b398 => Vm d m_X10_count [vR (some b398), vI n394] h391 (kI (fun n396 h395 => ((n392 = n396 → in32 (x3 + 7) ∧ Vx (d + 1) m_L_law bc bs 18 [some (vR x0), some (vR x1), some (vR x2), some (vI (x3 + 7))] [] h395 K) ∧ (¬ (n392 = n396) → K (some (vI 0)) h395))))))))))) ∧ (((n3 % 32) < 0 ∨ 23 < (n3 % 32)) → in32 (x3 + 7) ∧ Vx (d + 1) m_L_law bc bs 18 [some (vR x0), some (vR x1), some (vR x2), some (vI (x3 + 7))] [] h K))))))) : Vx (d + 1) m_L_law bc bs 18 [some (vR x0), some (vR x1), some (vR x2), some (vI x3)] [] h K := by
  refine rr_iload_n dL_law_18 rfl rfl ?_
  refine rr_aload_n dL_law_19 rfl rfl ?_
  refine rr_alenX dL_law_20 rfl hh (fun n1 hh => ?_)
  refine rr_bipush dL_law_21 rfl ⟨by decide, by decide⟩ rfl ?_
  obtain ⟨hz2, hh⟩ := hh
  refine rr_isub dL_law_23 rfl hz2 ?_
  refine rr_icmp_gt (tgt := 994) dL_law_24 rfl (by decide) (fun hc24 => ?_) (fun hc24 => ?_)
  · have hh := hh.1 hc24
    refine rr_iconst dL_law_994 rfl ⟨by decide, by decide⟩ ?_
    exact rr_zret dL_law_995 rfl rfl hh
  · have hh := hh.2 hc24
    refine rr_aload_n dL_law_27 rfl rfl ?_
    refine rr_iload_n dL_law_28 rfl rfl ?_
    refine rr_xald dL_law_29 rfl hh (fun n3 hh => ?_)
    refine rr_bipush dL_law_30 rfl ⟨by decide, by decide⟩ rfl ?_
    refine rr_iand31 dL_law_32 rfl ?_
    by_cases hz33_0 : (n3 % 32) = 0
    · have hh := hh.1 hz33_0
      refine rr_tableIn (pc' := 144) 0 dL_law_33 (by rw [hz33_0]; rfl) (by decide) rfl (by decide) ?_
      refine rr_aload_n dL_law_144 rfl rfl ?_
      refine rr_aload_n dL_law_145 rfl rfl ?_
      refine rr_iload_n dL_law_146 rfl rfl ?_
      refine rr_iconst dL_law_147 rfl ⟨by decide, by decide⟩ ?_
      obtain ⟨hz4, hh⟩ := hh
      refine rr_iadd dL_law_148 rfl hz4 ?_
      refine rr_xald dL_law_149 rfl hh (fun n5 hh => ?_)
      refine rr_callW (bc' := bc) (bs' := bs) (q := x1) (av := [vI n5]) (st := []) mf_X9_type dL_law_150 rfl q_192 q_193 q_194 ⟨_, _, rfl⟩ rfl (by decide) (Nat.le_refl _) (Nat.le_refl _) hh (rr_kI fun n7 h6 hh => ?_)
      refine rr_aload_n dL_law_153 rfl rfl ?_
      refine rr_aload_n dL_law_154 rfl rfl ?_
      refine rr_iload_n dL_law_155 rfl rfl ?_
      refine rr_iconst dL_law_156 rfl ⟨by decide, by decide⟩ ?_
      obtain ⟨hz8, hh⟩ := hh
      refine rr_iadd dL_law_157 rfl hz8 ?_
      refine rr_xald dL_law_158 rfl hh (fun n9 hh => ?_)
      refine rr_callW (bc' := bc) (bs' := bs) (q := x2) (av := [vI n9]) (st := [vI n7]) mf_X10_type dL_law_159 rfl q_824 q_825 q_826 ⟨_, _, rfl⟩ rfl (show 1 ≤ 8 by decide) (Nat.le_refl _) (Nat.le_refl _) hh (rr_kI fun n11 h10 hh => ?_)
      refine rr_icmp_eq (tgt := 988) dL_law_162 rfl (by decide) (fun hc162 => ?_) (fun hc162 => ?_)
      · have hh := hh.1 hc162
        obtain ⟨hz12, hh⟩ := hh
        refine rr_iinc (ls' := [some (vR x0), some (vR x1), some (vR x2), some (vI (x3 + 7))]) dL_law_988 rfl rfl (by decide) (fun _ z => by cases z) hz12 rfl ?_
        refine rr_goto (pc' := 18) dL_law_991 (by decide) ?_
        exact hh
      · have hh := hh.2 hc162
        refine rr_iconst dL_law_165 rfl ⟨by decide, by decide⟩ ?_
        exact rr_zret dL_law_166 rfl rfl hh
    by_cases hz33_1 : (n3 % 32) = 1
    · have hh := hh.2.1 hz33_1
      refine rr_tableIn (pc' := 167) 1 dL_law_33 (by rw [hz33_1]; rfl) (by decide) rfl (by decide) ?_
      refine rr_aload_n dL_law_167 rfl rfl ?_
      refine rr_callW (bc' := bc) (bs' := bs) (q := x1) (av := []) (st := []) mf_X9_erase dL_law_168 rfl q_204 q_205 q_206 ⟨_, _, rfl⟩ rfl (by decide) (Nat.le_refl _) (Nat.le_refl _) hh (rr_kI fun n16 h15 hh => ?_)
      refine rr_aload_n dL_law_171 rfl rfl ?_
      refine rr_callW (bc' := bc) (bs' := bs) (q := x2) (av := []) (st := [vI n16]) mf_X10_erase dL_law_172 rfl q_832 q_833 q_834 ⟨_, _, rfl⟩ rfl (show 1 ≤ 8 by decide) (Nat.le_refl _) (Nat.le_refl _) hh (rr_kI fun n18 h17 hh => ?_)
      refine rr_icmp_eq (tgt := 988) dL_law_175 rfl (by decide) (fun hc175 => ?_) (fun hc175 => ?_)
      · have hh := hh.1 hc175
        obtain ⟨hz19, hh⟩ := hh
        refine rr_iinc (ls' := [some (vR x0), some (vR x1), some (vR x2), some (vI (x3 + 7))]) dL_law_988 rfl rfl (by decide) (fun _ z => by cases z) hz19 rfl ?_
        refine rr_goto (pc' := 18) dL_law_991 (by decide) ?_
        exact hh
      · have hh := hh.2 hc175
        refine rr_iconst dL_law_178 rfl ⟨by decide, by decide⟩ ?_
        exact rr_zret dL_law_179 rfl rfl hh
    by_cases hz33_2 : (n3 % 32) = 2
    · have hh := hh.2.2.1 hz33_2
      refine rr_tableIn (pc' := 180) 2 dL_law_33 (by rw [hz33_2]; rfl) (by decide) rfl (by decide) ?_
      refine rr_aload_n dL_law_180 rfl rfl ?_
      obtain ⟨hz22, hz23, hh⟩ := hh
      refine rr_callW (bc' := (bc - 29)) (bs' := (bs - 210)) (q := x1) (av := []) (st := []) mf_X9_fault dL_law_181 rfl q_212 q_213 q_214 ⟨_, _, rfl⟩ rfl (by decide) (by show _ + 29 ≤ _; omega) (by show _ + 210 ≤ _; omega) hh (rr_kI fun n25 h24 hh => ?_)
      refine rr_aload_n dL_law_184 rfl rfl ?_
      refine rr_callW (bc' := (bc - 29)) (bs' := (bs - 210)) (q := x2) (av := []) (st := [vI n25]) mf_X10_fault dL_law_185 rfl q_836 q_837 q_838 ⟨_, _, rfl⟩ rfl (show 1 ≤ 8 by decide) (Nat.le_refl _) (Nat.le_refl _) hh (rr_kI fun n27 h26 hh => ?_)
      refine rr_icmp_eq (tgt := 988) dL_law_188 rfl (by decide) (fun hc188 => ?_) (fun hc188 => ?_)
      · have hh := hh.1 hc188
        obtain ⟨hz28, hh⟩ := hh
        refine rr_iinc (ls' := [some (vR x0), some (vR x1), some (vR x2), some (vI (x3 + 7))]) dL_law_988 rfl rfl (by decide) (fun _ z => by cases z) hz28 rfl ?_
        refine rr_goto (pc' := 18) dL_law_991 (by decide) ?_
        exact hh
      · have hh := hh.2 hc188
        refine rr_iconst dL_law_191 rfl ⟨by decide, by decide⟩ ?_
        exact rr_zret dL_law_192 rfl rfl hh
    by_cases hz33_3 : (n3 % 32) = 3
    · have hh := hh.2.2.2.1 hz33_3
      refine rr_tableIn (pc' := 193) 3 dL_law_33 (by rw [hz33_3]; rfl) (by decide) rfl (by decide) ?_
      refine rr_aload_n dL_law_193 rfl rfl ?_
      obtain ⟨hz31, hz32, hh⟩ := hh
      refine rr_callW (bc' := (bc - 29)) (bs' := (bs - 210)) (q := x1) (av := []) (st := []) mf_X9_tell dL_law_194 rfl q_437 q_438 q_439 ⟨_, _, rfl⟩ rfl (by decide) (by show _ + 29 ≤ _; omega) (by show _ + 210 ≤ _; omega) hh (rr_kI fun n34 h33 hh => ?_)
      refine rr_aload_n dL_law_197 rfl rfl ?_
      refine rr_callW (bc' := (bc - 29)) (bs' := (bs - 210)) (q := x2) (av := []) (st := [vI n34]) mf_X10_tell dL_law_198 rfl q_925 q_926 q_927 ⟨_, _, rfl⟩ rfl (show 1 ≤ 8 by decide) (Nat.le_refl _) (Nat.le_refl _) hh (rr_kI fun n36 h35 hh => ?_)
      refine rr_icmp_eq (tgt := 988) dL_law_201 rfl (by decide) (fun hc201 => ?_) (fun hc201 => ?_)
      · have hh := hh.1 hc201
        obtain ⟨hz37, hh⟩ := hh
        refine rr_iinc (ls' := [some (vR x0), some (vR x1), some (vR x2), some (vI (x3 + 7))]) dL_law_988 rfl rfl (by decide) (fun _ z => by cases z) hz37 rfl ?_
        refine rr_goto (pc' := 18) dL_law_991 (by decide) ?_
        exact hh
      · have hh := hh.2 hc201
        refine rr_iconst dL_law_204 rfl ⟨by decide, by decide⟩ ?_
        exact rr_zret dL_law_205 rfl rfl hh
    by_cases hz33_4 : (n3 % 32) = 4
    · have hh := hh.2.2.2.2.1 hz33_4
      refine rr_tableIn (pc' := 206) 4 dL_law_33 (by rw [hz33_4]; rfl) (by decide) rfl (by decide) ?_
      refine rr_aload_n dL_law_206 rfl rfl ?_
      refine rr_aload_n dL_law_207 rfl rfl ?_
      refine rr_iload_n dL_law_208 rfl rfl ?_
      refine rr_iconst dL_law_209 rfl ⟨by decide, by decide⟩ ?_
      obtain ⟨hz40, hh⟩ := hh
      refine rr_iadd dL_law_210 rfl hz40 ?_
      refine rr_xald dL_law_211 rfl hh (fun n41 hh => ?_)
      refine rr_aload_n dL_law_212 rfl rfl ?_
      refine rr_iload_n dL_law_213 rfl rfl ?_
      refine rr_iconst dL_law_214 rfl ⟨by decide, by decide⟩ ?_
      obtain ⟨hz42, hh⟩ := hh
      refine rr_iadd dL_law_215 rfl hz42 ?_
      refine rr_xald dL_law_216 rfl hh (fun n43 hh => ?_)
      refine rr_aload_n dL_law_217 rfl rfl ?_
      refine rr_iload_n dL_law_218 rfl rfl ?_
      refine rr_iconst dL_law_219 rfl ⟨by decide, by decide⟩ ?_
      obtain ⟨hz44, hh⟩ := hh
      refine rr_iadd dL_law_220 rfl hz44 ?_
      refine rr_xald dL_law_221 rfl hh (fun n45 hh => ?_)
      refine rr_aload_n dL_law_222 rfl rfl ?_
      refine rr_iload_n dL_law_223 rfl rfl ?_
      refine rr_iconst dL_law_224 rfl ⟨by decide, by decide⟩ ?_
      obtain ⟨hz46, hh⟩ := hh
      refine rr_iadd dL_law_225 rfl hz46 ?_
      refine rr_xald dL_law_226 rfl hh (fun n47 hh => ?_)
      refine rr_aload_n dL_law_227 rfl rfl ?_
      refine rr_iload_n dL_law_228 rfl rfl ?_
      refine rr_iconst dL_law_229 rfl ⟨by decide, by decide⟩ ?_
      obtain ⟨hz48, hh⟩ := hh
      refine rr_iadd dL_law_230 rfl hz48 ?_
      refine rr_xald dL_law_231 rfl hh (fun n49 hh => ?_)
      refine rr_aload_n dL_law_232 rfl rfl ?_
      refine rr_iload_n dL_law_233 rfl rfl ?_
      refine rr_bipush dL_law_234 rfl ⟨by decide, by decide⟩ rfl ?_
      obtain ⟨hz50, hh⟩ := hh
      refine rr_iadd dL_law_236 rfl hz50 ?_
      refine rr_xald dL_law_237 rfl hh (fun n51 hh => ?_)
      obtain ⟨hz52, hz53, hh⟩ := hh
      refine rr_callW (bc' := (bc - 6)) (bs' := (bs - 72)) (q := x1) (av := [vI n41, vI n43, vI n45, vI n47, vI n49, vI n51]) (st := []) mf_X9_law dL_law_238 rfl q_445 q_446 q_447 ⟨_, _, rfl⟩ rfl (by decide) (by show _ + 6 ≤ _; omega) (by show _ + 72 ≤ _; omega) hh (rr_kI fun n55 h54 hh => ?_)
      refine rr_aload_n dL_law_241 rfl rfl ?_
      refine rr_aload_n dL_law_242 rfl rfl ?_
      refine rr_iload_n dL_law_243 rfl rfl ?_
      refine rr_iconst dL_law_244 rfl ⟨by decide, by decide⟩ ?_
      obtain ⟨hz56, hh⟩ := hh
      refine rr_iadd dL_law_245 rfl hz56 ?_
      refine rr_xald dL_law_246 rfl hh (fun n57 hh => ?_)
      refine rr_aload_n dL_law_247 rfl rfl ?_
      refine rr_iload_n dL_law_248 rfl rfl ?_
      refine rr_iconst dL_law_249 rfl ⟨by decide, by decide⟩ ?_
      obtain ⟨hz58, hh⟩ := hh
      refine rr_iadd dL_law_250 rfl hz58 ?_
      refine rr_xald dL_law_251 rfl hh (fun n59 hh => ?_)
      refine rr_aload_n dL_law_252 rfl rfl ?_
      refine rr_iload_n dL_law_253 rfl rfl ?_
      refine rr_iconst dL_law_254 rfl ⟨by decide, by decide⟩ ?_
      obtain ⟨hz60, hh⟩ := hh
      refine rr_iadd dL_law_255 rfl hz60 ?_
      refine rr_xald dL_law_256 rfl hh (fun n61 hh => ?_)
      refine rr_aload_n dL_law_257 rfl rfl ?_
      refine rr_iload_n dL_law_258 rfl rfl ?_
      refine rr_iconst dL_law_259 rfl ⟨by decide, by decide⟩ ?_
      obtain ⟨hz62, hh⟩ := hh
      refine rr_iadd dL_law_260 rfl hz62 ?_
      refine rr_xald dL_law_261 rfl hh (fun n63 hh => ?_)
      refine rr_aload_n dL_law_262 rfl rfl ?_
      refine rr_iload_n dL_law_263 rfl rfl ?_
      refine rr_iconst dL_law_264 rfl ⟨by decide, by decide⟩ ?_
      obtain ⟨hz64, hh⟩ := hh
      refine rr_iadd dL_law_265 rfl hz64 ?_
      refine rr_xald dL_law_266 rfl hh (fun n65 hh => ?_)
      refine rr_aload_n dL_law_267 rfl rfl ?_
      refine rr_iload_n dL_law_268 rfl rfl ?_
      refine rr_bipush dL_law_269 rfl ⟨by decide, by decide⟩ rfl ?_
      obtain ⟨hz66, hh⟩ := hh
      refine rr_iadd dL_law_271 rfl hz66 ?_
      refine rr_xald dL_law_272 rfl hh (fun n67 hh => ?_)
      refine rr_callW (bc' := (bc - 6)) (bs' := (bs - 72)) (q := x2) (av := [vI n57, vI n59, vI n61, vI n63, vI n65, vI n67]) (st := [vI n55]) mf_X10_law dL_law_273 rfl q_929 q_930 q_931 ⟨_, _, rfl⟩ rfl (show 1 ≤ 8 by decide) (Nat.le_refl _) (Nat.le_refl _) hh (rr_kI fun n69 h68 hh => ?_)
      refine rr_icmp_eq (tgt := 988) dL_law_276 rfl (by decide) (fun hc276 => ?_) (fun hc276 => ?_)
      · have hh := hh.1 hc276
        obtain ⟨hz70, hh⟩ := hh
        refine rr_iinc (ls' := [some (vR x0), some (vR x1), some (vR x2), some (vI (x3 + 7))]) dL_law_988 rfl rfl (by decide) (fun _ z => by cases z) hz70 rfl ?_
        refine rr_goto (pc' := 18) dL_law_991 (by decide) ?_
        exact hh
      · have hh := hh.2 hc276
        refine rr_iconst dL_law_279 rfl ⟨by decide, by decide⟩ ?_
        exact rr_zret dL_law_280 rfl rfl hh
    by_cases hz33_5 : (n3 % 32) = 5
    · have hh := hh.2.2.2.2.2.1 hz33_5
      refine rr_tableIn (pc' := 281) 5 dL_law_33 (by rw [hz33_5]; rfl) (by decide) rfl (by decide) ?_
      refine rr_aload_n dL_law_281 rfl rfl ?_
      refine rr_aload_n dL_law_282 rfl rfl ?_
      refine rr_iload_n dL_law_283 rfl rfl ?_
      refine rr_iconst dL_law_284 rfl ⟨by decide, by decide⟩ ?_
      obtain ⟨hz73, hh⟩ := hh
      refine rr_iadd dL_law_285 rfl hz73 ?_
      refine rr_xald dL_law_286 rfl hh (fun n74 hh => ?_)
      obtain ⟨hz75, hz76, hh⟩ := hh
      refine rr_callW (bc' := (bc - 5)) (bs' := (bs - 66)) (q := x1) (av := [vI n74]) (st := []) mf_X9_repeal dL_law_287 rfl q_464 q_465 q_466 ⟨_, _, rfl⟩ rfl (by decide) (by show _ + 5 ≤ _; omega) (by show _ + 66 ≤ _; omega) hh (rr_kI fun n78 h77 hh => ?_)
      refine rr_aload_n dL_law_290 rfl rfl ?_
      refine rr_aload_n dL_law_291 rfl rfl ?_
      refine rr_iload_n dL_law_292 rfl rfl ?_
      refine rr_iconst dL_law_293 rfl ⟨by decide, by decide⟩ ?_
      obtain ⟨hz79, hh⟩ := hh
      refine rr_iadd dL_law_294 rfl hz79 ?_
      refine rr_xald dL_law_295 rfl hh (fun n80 hh => ?_)
      refine rr_callW (bc' := (bc - 5)) (bs' := (bs - 66)) (q := x2) (av := [vI n80]) (st := [vI n78]) mf_X10_repeal dL_law_296 rfl q_952 q_953 q_954 ⟨_, _, rfl⟩ rfl (show 1 ≤ 8 by decide) (Nat.le_refl _) (Nat.le_refl _) hh (rr_kI fun n82 h81 hh => ?_)
      refine rr_icmp_eq (tgt := 988) dL_law_299 rfl (by decide) (fun hc299 => ?_) (fun hc299 => ?_)
      · have hh := hh.1 hc299
        obtain ⟨hz83, hh⟩ := hh
        refine rr_iinc (ls' := [some (vR x0), some (vR x1), some (vR x2), some (vI (x3 + 7))]) dL_law_988 rfl rfl (by decide) (fun _ z => by cases z) hz83 rfl ?_
        refine rr_goto (pc' := 18) dL_law_991 (by decide) ?_
        exact hh
      · have hh := hh.2 hc299
        refine rr_iconst dL_law_302 rfl ⟨by decide, by decide⟩ ?_
        exact rr_zret dL_law_303 rfl rfl hh
    by_cases hz33_6 : (n3 % 32) = 6
    · have hh := hh.2.2.2.2.2.2.1 hz33_6
      refine rr_tableIn (pc' := 304) 6 dL_law_33 (by rw [hz33_6]; rfl) (by decide) rfl (by decide) ?_
      refine rr_aload_n dL_law_304 rfl rfl ?_
      refine rr_aload_n dL_law_305 rfl rfl ?_
      refine rr_iload_n dL_law_306 rfl rfl ?_
      refine rr_iconst dL_law_307 rfl ⟨by decide, by decide⟩ ?_
      obtain ⟨hz86, hh⟩ := hh
      refine rr_iadd dL_law_308 rfl hz86 ?_
      refine rr_xald dL_law_309 rfl hh (fun n87 hh => ?_)
      refine rr_aload_n dL_law_310 rfl rfl ?_
      refine rr_iload_n dL_law_311 rfl rfl ?_
      refine rr_iconst dL_law_312 rfl ⟨by decide, by decide⟩ ?_
      obtain ⟨hz88, hh⟩ := hh
      refine rr_iadd dL_law_313 rfl hz88 ?_
      refine rr_xald dL_law_314 rfl hh (fun n89 hh => ?_)
      refine rr_aload_n dL_law_315 rfl rfl ?_
      refine rr_iload_n dL_law_316 rfl rfl ?_
      refine rr_iconst dL_law_317 rfl ⟨by decide, by decide⟩ ?_
      obtain ⟨hz90, hh⟩ := hh
      refine rr_iadd dL_law_318 rfl hz90 ?_
      refine rr_xald dL_law_319 rfl hh (fun n91 hh => ?_)
      refine rr_aload_n dL_law_320 rfl rfl ?_
      refine rr_iload_n dL_law_321 rfl rfl ?_
      refine rr_iconst dL_law_322 rfl ⟨by decide, by decide⟩ ?_
      obtain ⟨hz92, hh⟩ := hh
      refine rr_iadd dL_law_323 rfl hz92 ?_
      refine rr_xald dL_law_324 rfl hh (fun n93 hh => ?_)
      obtain ⟨hz94, hz95, hh⟩ := hh
      refine rr_callW (bc' := (bc - 5)) (bs' := (bs - 66)) (q := x1) (av := [vI n87, vI n89, vI n91, vI n93]) (st := []) mf_X9_meet dL_law_325 rfl q_477 q_478 q_479 ⟨_, _, rfl⟩ rfl (by decide) (by show _ + 5 ≤ _; omega) (by show _ + 66 ≤ _; omega) hh (rr_kI fun n97 h96 hh => ?_)
      refine rr_aload_n dL_law_328 rfl rfl ?_
      refine rr_aload_n dL_law_329 rfl rfl ?_
      refine rr_iload_n dL_law_330 rfl rfl ?_
      refine rr_iconst dL_law_331 rfl ⟨by decide, by decide⟩ ?_
      obtain ⟨hz98, hh⟩ := hh
      refine rr_iadd dL_law_332 rfl hz98 ?_
      refine rr_xald dL_law_333 rfl hh (fun n99 hh => ?_)
      refine rr_aload_n dL_law_334 rfl rfl ?_
      refine rr_iload_n dL_law_335 rfl rfl ?_
      refine rr_iconst dL_law_336 rfl ⟨by decide, by decide⟩ ?_
      obtain ⟨hz100, hh⟩ := hh
      refine rr_iadd dL_law_337 rfl hz100 ?_
      refine rr_xald dL_law_338 rfl hh (fun n101 hh => ?_)
      refine rr_aload_n dL_law_339 rfl rfl ?_
      refine rr_iload_n dL_law_340 rfl rfl ?_
      refine rr_iconst dL_law_341 rfl ⟨by decide, by decide⟩ ?_
      obtain ⟨hz102, hh⟩ := hh
      refine rr_iadd dL_law_342 rfl hz102 ?_
      refine rr_xald dL_law_343 rfl hh (fun n103 hh => ?_)
      refine rr_aload_n dL_law_344 rfl rfl ?_
      refine rr_iload_n dL_law_345 rfl rfl ?_
      refine rr_iconst dL_law_346 rfl ⟨by decide, by decide⟩ ?_
      obtain ⟨hz104, hh⟩ := hh
      refine rr_iadd dL_law_347 rfl hz104 ?_
      refine rr_xald dL_law_348 rfl hh (fun n105 hh => ?_)
      refine rr_callW (bc' := (bc - 5)) (bs' := (bs - 66)) (q := x2) (av := [vI n99, vI n101, vI n103, vI n105]) (st := [vI n97]) mf_X10_meet dL_law_349 rfl q_960 q_961 q_962 ⟨_, _, rfl⟩ rfl (show 1 ≤ 8 by decide) (Nat.le_refl _) (Nat.le_refl _) hh (rr_kI fun n107 h106 hh => ?_)
      refine rr_icmp_eq (tgt := 988) dL_law_352 rfl (by decide) (fun hc352 => ?_) (fun hc352 => ?_)
      · have hh := hh.1 hc352
        obtain ⟨hz108, hh⟩ := hh
        refine rr_iinc (ls' := [some (vR x0), some (vR x1), some (vR x2), some (vI (x3 + 7))]) dL_law_988 rfl rfl (by decide) (fun _ z => by cases z) hz108 rfl ?_
        refine rr_goto (pc' := 18) dL_law_991 (by decide) ?_
        exact hh
      · have hh := hh.2 hc352
        refine rr_iconst dL_law_355 rfl ⟨by decide, by decide⟩ ?_
        exact rr_zret dL_law_356 rfl rfl hh
    by_cases hz33_7 : (n3 % 32) = 7
    · have hh := hh.2.2.2.2.2.2.2.1 hz33_7
      refine rr_tableIn (pc' := 357) 7 dL_law_33 (by rw [hz33_7]; rfl) (by decide) rfl (by decide) ?_
      refine rr_aload_n dL_law_357 rfl rfl ?_
      refine rr_aload_n dL_law_358 rfl rfl ?_
      refine rr_iload_n dL_law_359 rfl rfl ?_
      refine rr_iconst dL_law_360 rfl ⟨by decide, by decide⟩ ?_
      obtain ⟨hz111, hh⟩ := hh
      refine rr_iadd dL_law_361 rfl hz111 ?_
      refine rr_xald dL_law_362 rfl hh (fun n112 hh => ?_)
      refine rr_aload_n dL_law_363 rfl rfl ?_
      refine rr_iload_n dL_law_364 rfl rfl ?_
      refine rr_iconst dL_law_365 rfl ⟨by decide, by decide⟩ ?_
      obtain ⟨hz113, hh⟩ := hh
      refine rr_iadd dL_law_366 rfl hz113 ?_
      refine rr_xald dL_law_367 rfl hh (fun n114 hh => ?_)
      obtain ⟨hz115, hz116, hh⟩ := hh
      refine rr_callW (bc' := (bc - 5)) (bs' := (bs - 66)) (q := x1) (av := [vI n112, vI n114]) (st := []) mf_X9_part dL_law_368 rfl q_490 q_491 q_492 ⟨_, _, rfl⟩ rfl (by decide) (by show _ + 5 ≤ _; omega) (by show _ + 66 ≤ _; omega) hh (rr_kI fun n118 h117 hh => ?_)
      refine rr_aload_n dL_law_371 rfl rfl ?_
      refine rr_aload_n dL_law_372 rfl rfl ?_
      refine rr_iload_n dL_law_373 rfl rfl ?_
      refine rr_iconst dL_law_374 rfl ⟨by decide, by decide⟩ ?_
      obtain ⟨hz119, hh⟩ := hh
      refine rr_iadd dL_law_375 rfl hz119 ?_
      refine rr_xald dL_law_376 rfl hh (fun n120 hh => ?_)
      refine rr_aload_n dL_law_377 rfl rfl ?_
      refine rr_iload_n dL_law_378 rfl rfl ?_
      refine rr_iconst dL_law_379 rfl ⟨by decide, by decide⟩ ?_
      obtain ⟨hz121, hh⟩ := hh
      refine rr_iadd dL_law_380 rfl hz121 ?_
      refine rr_xald dL_law_381 rfl hh (fun n122 hh => ?_)
      refine rr_callW (bc' := (bc - 5)) (bs' := (bs - 66)) (q := x2) (av := [vI n120, vI n122]) (st := [vI n118]) mf_X10_part dL_law_382 rfl q_974 q_975 q_976 ⟨_, _, rfl⟩ rfl (show 1 ≤ 8 by decide) (Nat.le_refl _) (Nat.le_refl _) hh (rr_kI fun n124 h123 hh => ?_)
      refine rr_icmp_eq (tgt := 988) dL_law_385 rfl (by decide) (fun hc385 => ?_) (fun hc385 => ?_)
      · have hh := hh.1 hc385
        obtain ⟨hz125, hh⟩ := hh
        refine rr_iinc (ls' := [some (vR x0), some (vR x1), some (vR x2), some (vI (x3 + 7))]) dL_law_988 rfl rfl (by decide) (fun _ z => by cases z) hz125 rfl ?_
        refine rr_goto (pc' := 18) dL_law_991 (by decide) ?_
        exact hh
      · have hh := hh.2 hc385
        refine rr_iconst dL_law_388 rfl ⟨by decide, by decide⟩ ?_
        exact rr_zret dL_law_389 rfl rfl hh
    by_cases hz33_8 : (n3 % 32) = 8
    · have hh := hh.2.2.2.2.2.2.2.2.1 hz33_8
      refine rr_tableIn (pc' := 390) 8 dL_law_33 (by rw [hz33_8]; rfl) (by decide) rfl (by decide) ?_
      refine rr_aload_n dL_law_390 rfl rfl ?_
      refine rr_aload_n dL_law_391 rfl rfl ?_
      refine rr_iload_n dL_law_392 rfl rfl ?_
      refine rr_iconst dL_law_393 rfl ⟨by decide, by decide⟩ ?_
      obtain ⟨hz128, hh⟩ := hh
      refine rr_iadd dL_law_394 rfl hz128 ?_
      refine rr_xald dL_law_395 rfl hh (fun n129 hh => ?_)
      refine rr_aload_n dL_law_396 rfl rfl ?_
      refine rr_iload_n dL_law_397 rfl rfl ?_
      refine rr_iconst dL_law_398 rfl ⟨by decide, by decide⟩ ?_
      obtain ⟨hz130, hh⟩ := hh
      refine rr_iadd dL_law_399 rfl hz130 ?_
      refine rr_xald dL_law_400 rfl hh (fun n131 hh => ?_)
      refine rr_aload_n dL_law_401 rfl rfl ?_
      refine rr_iload_n dL_law_402 rfl rfl ?_
      refine rr_iconst dL_law_403 rfl ⟨by decide, by decide⟩ ?_
      obtain ⟨hz132, hh⟩ := hh
      refine rr_iadd dL_law_404 rfl hz132 ?_
      refine rr_xald dL_law_405 rfl hh (fun n133 hh => ?_)
      refine rr_aload_n dL_law_406 rfl rfl ?_
      refine rr_iload_n dL_law_407 rfl rfl ?_
      refine rr_iconst dL_law_408 rfl ⟨by decide, by decide⟩ ?_
      obtain ⟨hz134, hh⟩ := hh
      refine rr_iadd dL_law_409 rfl hz134 ?_
      refine rr_xald dL_law_410 rfl hh (fun n135 hh => ?_)
      obtain ⟨hz136, hz137, hh⟩ := hh
      refine rr_callW (bc' := (bc - 6)) (bs' := (bs - 70)) (q := x1) (av := [vI n129, vI n131, vI n133, vI n135]) (st := []) mf_X9_lend dL_law_411 rfl q_498 q_499 q_500 ⟨_, _, rfl⟩ rfl (by decide) (by show _ + 6 ≤ _; omega) (by show _ + 70 ≤ _; omega) hh (rr_kI fun n139 h138 hh => ?_)
      refine rr_aload_n dL_law_414 rfl rfl ?_
      refine rr_aload_n dL_law_415 rfl rfl ?_
      refine rr_iload_n dL_law_416 rfl rfl ?_
      refine rr_iconst dL_law_417 rfl ⟨by decide, by decide⟩ ?_
      obtain ⟨hz140, hh⟩ := hh
      refine rr_iadd dL_law_418 rfl hz140 ?_
      refine rr_xald dL_law_419 rfl hh (fun n141 hh => ?_)
      refine rr_aload_n dL_law_420 rfl rfl ?_
      refine rr_iload_n dL_law_421 rfl rfl ?_
      refine rr_iconst dL_law_422 rfl ⟨by decide, by decide⟩ ?_
      obtain ⟨hz142, hh⟩ := hh
      refine rr_iadd dL_law_423 rfl hz142 ?_
      refine rr_xald dL_law_424 rfl hh (fun n143 hh => ?_)
      refine rr_aload_n dL_law_425 rfl rfl ?_
      refine rr_iload_n dL_law_426 rfl rfl ?_
      refine rr_iconst dL_law_427 rfl ⟨by decide, by decide⟩ ?_
      obtain ⟨hz144, hh⟩ := hh
      refine rr_iadd dL_law_428 rfl hz144 ?_
      refine rr_xald dL_law_429 rfl hh (fun n145 hh => ?_)
      refine rr_aload_n dL_law_430 rfl rfl ?_
      refine rr_iload_n dL_law_431 rfl rfl ?_
      refine rr_iconst dL_law_432 rfl ⟨by decide, by decide⟩ ?_
      obtain ⟨hz146, hh⟩ := hh
      refine rr_iadd dL_law_433 rfl hz146 ?_
      refine rr_xald dL_law_434 rfl hh (fun n147 hh => ?_)
      refine rr_callW (bc' := (bc - 6)) (bs' := (bs - 70)) (q := x2) (av := [vI n141, vI n143, vI n145, vI n147]) (st := [vI n139]) mf_X10_lend dL_law_435 rfl q_978 q_979 q_980 ⟨_, _, rfl⟩ rfl (show 1 ≤ 8 by decide) (Nat.le_refl _) (Nat.le_refl _) hh (rr_kI fun n149 h148 hh => ?_)
      refine rr_icmp_eq (tgt := 988) dL_law_438 rfl (by decide) (fun hc438 => ?_) (fun hc438 => ?_)
      · have hh := hh.1 hc438
        obtain ⟨hz150, hh⟩ := hh
        refine rr_iinc (ls' := [some (vR x0), some (vR x1), some (vR x2), some (vI (x3 + 7))]) dL_law_988 rfl rfl (by decide) (fun _ z => by cases z) hz150 rfl ?_
        refine rr_goto (pc' := 18) dL_law_991 (by decide) ?_
        exact hh
      · have hh := hh.2 hc438
        refine rr_iconst dL_law_441 rfl ⟨by decide, by decide⟩ ?_
        exact rr_zret dL_law_442 rfl rfl hh
    by_cases hz33_9 : (n3 % 32) = 9
    · have hh := hh.2.2.2.2.2.2.2.2.2.1 hz33_9
      refine rr_tableIn (pc' := 443) 9 dL_law_33 (by rw [hz33_9]; rfl) (by decide) rfl (by decide) ?_
      refine rr_aload_n dL_law_443 rfl rfl ?_
      refine rr_aload_n dL_law_444 rfl rfl ?_
      refine rr_iload_n dL_law_445 rfl rfl ?_
      refine rr_iconst dL_law_446 rfl ⟨by decide, by decide⟩ ?_
      obtain ⟨hz153, hh⟩ := hh
      refine rr_iadd dL_law_447 rfl hz153 ?_
      refine rr_xald dL_law_448 rfl hh (fun n154 hh => ?_)
      obtain ⟨hz155, hz156, hh⟩ := hh
      refine rr_callW (bc' := (bc - 5)) (bs' := (bs - 66)) (q := x1) (av := [vI n154]) (st := []) mf_X9_drop dL_law_449 rfl q_526 q_527 q_528 ⟨_, _, rfl⟩ rfl (by decide) (by show _ + 5 ≤ _; omega) (by show _ + 66 ≤ _; omega) hh (rr_kI fun n158 h157 hh => ?_)
      refine rr_aload_n dL_law_452 rfl rfl ?_
      refine rr_aload_n dL_law_453 rfl rfl ?_
      refine rr_iload_n dL_law_454 rfl rfl ?_
      refine rr_iconst dL_law_455 rfl ⟨by decide, by decide⟩ ?_
      obtain ⟨hz159, hh⟩ := hh
      refine rr_iadd dL_law_456 rfl hz159 ?_
      refine rr_xald dL_law_457 rfl hh (fun n160 hh => ?_)
      refine rr_callW (bc' := (bc - 5)) (bs' := (bs - 66)) (q := x2) (av := [vI n160]) (st := [vI n158]) mf_X10_drop dL_law_458 rfl q_1006 q_1007 q_1008 ⟨_, _, rfl⟩ rfl (show 1 ≤ 8 by decide) (Nat.le_refl _) (Nat.le_refl _) hh (rr_kI fun n162 h161 hh => ?_)
      refine rr_icmp_eq (tgt := 988) dL_law_461 rfl (by decide) (fun hc461 => ?_) (fun hc461 => ?_)
      · have hh := hh.1 hc461
        obtain ⟨hz163, hh⟩ := hh
        refine rr_iinc (ls' := [some (vR x0), some (vR x1), some (vR x2), some (vI (x3 + 7))]) dL_law_988 rfl rfl (by decide) (fun _ z => by cases z) hz163 rfl ?_
        refine rr_goto (pc' := 18) dL_law_991 (by decide) ?_
        exact hh
      · have hh := hh.2 hc461
        refine rr_iconst dL_law_464 rfl ⟨by decide, by decide⟩ ?_
        exact rr_zret dL_law_465 rfl rfl hh
    by_cases hz33_10 : (n3 % 32) = 10
    · have hh := hh.2.2.2.2.2.2.2.2.2.2.1 hz33_10
      refine rr_tableIn (pc' := 466) 10 dL_law_33 (by rw [hz33_10]; rfl) (by decide) rfl (by decide) ?_
      refine rr_aload_n dL_law_466 rfl rfl ?_
      refine rr_callW (bc' := bc) (bs' := bs) (q := x1) (av := []) (st := []) mf_X9_undo dL_law_467 rfl q_535 q_536 q_537 ⟨_, _, rfl⟩ rfl (by decide) (Nat.le_refl _) (Nat.le_refl _) hh (rr_kI fun n167 h166 hh => ?_)
      refine rr_aload_n dL_law_470 rfl rfl ?_
      refine rr_callW (bc' := bc) (bs' := bs) (q := x2) (av := []) (st := [vI n167]) mf_X10_undo dL_law_471 rfl q_1010 q_1011 q_1012 ⟨_, _, rfl⟩ rfl (show 1 ≤ 8 by decide) (Nat.le_refl _) (Nat.le_refl _) hh (rr_kI fun n169 h168 hh => ?_)
      refine rr_icmp_eq (tgt := 988) dL_law_474 rfl (by decide) (fun hc474 => ?_) (fun hc474 => ?_)
      · have hh := hh.1 hc474
        obtain ⟨hz170, hh⟩ := hh
        refine rr_iinc (ls' := [some (vR x0), some (vR x1), some (vR x2), some (vI (x3 + 7))]) dL_law_988 rfl rfl (by decide) (fun _ z => by cases z) hz170 rfl ?_
        refine rr_goto (pc' := 18) dL_law_991 (by decide) ?_
        exact hh
      · have hh := hh.2 hc474
        refine rr_iconst dL_law_477 rfl ⟨by decide, by decide⟩ ?_
        exact rr_zret dL_law_478 rfl rfl hh
    by_cases hz33_11 : (n3 % 32) = 11
    · have hh := hh.2.2.2.2.2.2.2.2.2.2.2.1 hz33_11
      refine rr_tableIn (pc' := 479) 11 dL_law_33 (by rw [hz33_11]; rfl) (by decide) rfl (by decide) ?_
      refine rr_aload_n dL_law_479 rfl rfl ?_
      refine rr_aload_n dL_law_480 rfl rfl ?_
      refine rr_iload_n dL_law_481 rfl rfl ?_
      refine rr_iconst dL_law_482 rfl ⟨by decide, by decide⟩ ?_
      obtain ⟨hz173, hh⟩ := hh
      refine rr_iadd dL_law_483 rfl hz173 ?_
      refine rr_xald dL_law_484 rfl hh (fun n174 hh => ?_)
      refine rr_callW (bc' := bc) (bs' := bs) (q := x1) (av := [vI n174]) (st := []) mf_X9_keep dL_law_485 rfl q_548 q_549 q_550 ⟨_, _, rfl⟩ rfl (by decide) (Nat.le_refl _) (Nat.le_refl _) hh (rr_kI fun n176 h175 hh => ?_)
      refine rr_aload_n dL_law_488 rfl rfl ?_
      refine rr_aload_n dL_law_489 rfl rfl ?_
      refine rr_iload_n dL_law_490 rfl rfl ?_
      refine rr_iconst dL_law_491 rfl ⟨by decide, by decide⟩ ?_
      obtain ⟨hz177, hh⟩ := hh
      refine rr_iadd dL_law_492 rfl hz177 ?_
      refine rr_xald dL_law_493 rfl hh (fun n178 hh => ?_)
      refine rr_callW (bc' := bc) (bs' := bs) (q := x2) (av := [vI n178]) (st := [vI n176]) mf_X10_keep dL_law_494 rfl q_1014 q_1015 q_1016 ⟨_, _, rfl⟩ rfl (show 1 ≤ 8 by decide) (Nat.le_refl _) (Nat.le_refl _) hh (rr_kI fun n180 h179 hh => ?_)
      refine rr_icmp_eq (tgt := 988) dL_law_497 rfl (by decide) (fun hc497 => ?_) (fun hc497 => ?_)
      · have hh := hh.1 hc497
        obtain ⟨hz181, hh⟩ := hh
        refine rr_iinc (ls' := [some (vR x0), some (vR x1), some (vR x2), some (vI (x3 + 7))]) dL_law_988 rfl rfl (by decide) (fun _ z => by cases z) hz181 rfl ?_
        refine rr_goto (pc' := 18) dL_law_991 (by decide) ?_
        exact hh
      · have hh := hh.2 hc497
        refine rr_iconst dL_law_500 rfl ⟨by decide, by decide⟩ ?_
        exact rr_zret dL_law_501 rfl rfl hh
    by_cases hz33_12 : (n3 % 32) = 12
    · have hh := hh.2.2.2.2.2.2.2.2.2.2.2.2.1 hz33_12
      refine rr_tableIn (pc' := 502) 12 dL_law_33 (by rw [hz33_12]; rfl) (by decide) rfl (by decide) ?_
      refine rr_aload_n dL_law_502 rfl rfl ?_
      refine rr_aload_n dL_law_503 rfl rfl ?_
      refine rr_iload_n dL_law_504 rfl rfl ?_
      refine rr_iconst dL_law_505 rfl ⟨by decide, by decide⟩ ?_
      obtain ⟨hz184, hh⟩ := hh
      refine rr_iadd dL_law_506 rfl hz184 ?_
      refine rr_xald dL_law_507 rfl hh (fun n185 hh => ?_)
      refine rr_callW (bc' := bc) (bs' := bs) (q := x1) (av := [vI n185]) (st := []) mf_X9_back dL_law_508 rfl q_552 q_553 q_554 ⟨_, _, rfl⟩ rfl (by decide) (Nat.le_refl _) (Nat.le_refl _) hh (rr_kI fun n187 h186 hh => ?_)
      refine rr_aload_n dL_law_511 rfl rfl ?_
      refine rr_aload_n dL_law_512 rfl rfl ?_
      refine rr_iload_n dL_law_513 rfl rfl ?_
      refine rr_iconst dL_law_514 rfl ⟨by decide, by decide⟩ ?_
      obtain ⟨hz188, hh⟩ := hh
      refine rr_iadd dL_law_515 rfl hz188 ?_
      refine rr_xald dL_law_516 rfl hh (fun n189 hh => ?_)
      refine rr_callW (bc' := bc) (bs' := bs) (q := x2) (av := [vI n189]) (st := [vI n187]) mf_X10_back dL_law_517 rfl q_1018 q_1019 q_1020 ⟨_, _, rfl⟩ rfl (show 1 ≤ 8 by decide) (Nat.le_refl _) (Nat.le_refl _) hh (rr_kI fun n191 h190 hh => ?_)
      refine rr_icmp_eq (tgt := 988) dL_law_520 rfl (by decide) (fun hc520 => ?_) (fun hc520 => ?_)
      · have hh := hh.1 hc520
        obtain ⟨hz192, hh⟩ := hh
        refine rr_iinc (ls' := [some (vR x0), some (vR x1), some (vR x2), some (vI (x3 + 7))]) dL_law_988 rfl rfl (by decide) (fun _ z => by cases z) hz192 rfl ?_
        refine rr_goto (pc' := 18) dL_law_991 (by decide) ?_
        exact hh
      · have hh := hh.2 hc520
        refine rr_iconst dL_law_523 rfl ⟨by decide, by decide⟩ ?_
        exact rr_zret dL_law_524 rfl rfl hh
    by_cases hz33_13 : (n3 % 32) = 13
    · have hh := hh.2.2.2.2.2.2.2.2.2.2.2.2.2.1 hz33_13
      refine rr_tableIn (pc' := 525) 13 dL_law_33 (by rw [hz33_13]; rfl) (by decide) rfl (by decide) ?_
      refine rr_aload_n dL_law_525 rfl rfl ?_
      refine rr_aload_n dL_law_526 rfl rfl ?_
      refine rr_iload_n dL_law_527 rfl rfl ?_
      refine rr_iconst dL_law_528 rfl ⟨by decide, by decide⟩ ?_
      obtain ⟨hz195, hh⟩ := hh
      refine rr_iadd dL_law_529 rfl hz195 ?_
      refine rr_xald dL_law_530 rfl hh (fun n196 hh => ?_)
      refine rr_aload_n dL_law_531 rfl rfl ?_
      refine rr_iload_n dL_law_532 rfl rfl ?_
      refine rr_iconst dL_law_533 rfl ⟨by decide, by decide⟩ ?_
      obtain ⟨hz197, hh⟩ := hh
      refine rr_iadd dL_law_534 rfl hz197 ?_
      refine rr_xald dL_law_535 rfl hh (fun n198 hh => ?_)
      refine rr_callW (bc' := bc) (bs' := bs) (q := x1) (av := [vI n196, vI n198]) (st := []) mf_X9_told dL_law_536 rfl q_556 q_557 q_558 ⟨_, _, rfl⟩ rfl (by decide) (Nat.le_refl _) (Nat.le_refl _) hh (rr_kI fun n200 h199 hh => ?_)
      refine rr_aload_n dL_law_539 rfl rfl ?_
      refine rr_aload_n dL_law_540 rfl rfl ?_
      refine rr_iload_n dL_law_541 rfl rfl ?_
      refine rr_iconst dL_law_542 rfl ⟨by decide, by decide⟩ ?_
      obtain ⟨hz201, hh⟩ := hh
      refine rr_iadd dL_law_543 rfl hz201 ?_
      refine rr_xald dL_law_544 rfl hh (fun n202 hh => ?_)
      refine rr_aload_n dL_law_545 rfl rfl ?_
      refine rr_iload_n dL_law_546 rfl rfl ?_
      refine rr_iconst dL_law_547 rfl ⟨by decide, by decide⟩ ?_
      obtain ⟨hz203, hh⟩ := hh
      refine rr_iadd dL_law_548 rfl hz203 ?_
      refine rr_xald dL_law_549 rfl hh (fun n204 hh => ?_)
      refine rr_callW (bc' := bc) (bs' := bs) (q := x2) (av := [vI n202, vI n204]) (st := [vI n200]) mf_X10_told dL_law_550 rfl q_1022 q_1023 q_1024 ⟨_, _, rfl⟩ rfl (show 1 ≤ 8 by decide) (Nat.le_refl _) (Nat.le_refl _) hh (rr_kI fun n206 h205 hh => ?_)
      refine rr_icmp_eq (tgt := 988) dL_law_553 rfl (by decide) (fun hc553 => ?_) (fun hc553 => ?_)
      · have hh := hh.1 hc553
        obtain ⟨hz207, hh⟩ := hh
        refine rr_iinc (ls' := [some (vR x0), some (vR x1), some (vR x2), some (vI (x3 + 7))]) dL_law_988 rfl rfl (by decide) (fun _ z => by cases z) hz207 rfl ?_
        refine rr_goto (pc' := 18) dL_law_991 (by decide) ?_
        exact hh
      · have hh := hh.2 hc553
        refine rr_iconst dL_law_556 rfl ⟨by decide, by decide⟩ ?_
        exact rr_zret dL_law_557 rfl rfl hh
    by_cases hz33_14 : (n3 % 32) = 14
    · have hh := hh.2.2.2.2.2.2.2.2.2.2.2.2.2.2.1 hz33_14
      refine rr_tableIn (pc' := 558) 14 dL_law_33 (by rw [hz33_14]; rfl) (by decide) rfl (by decide) ?_
      refine rr_aload_n dL_law_558 rfl rfl ?_
      refine rr_aload_n dL_law_559 rfl rfl ?_
      refine rr_iload_n dL_law_560 rfl rfl ?_
      refine rr_iconst dL_law_561 rfl ⟨by decide, by decide⟩ ?_
      obtain ⟨hz210, hh⟩ := hh
      refine rr_iadd dL_law_562 rfl hz210 ?_
      refine rr_xald dL_law_563 rfl hh (fun n211 hh => ?_)
      refine rr_aload_n dL_law_564 rfl rfl ?_
      refine rr_iload_n dL_law_565 rfl rfl ?_
      refine rr_iconst dL_law_566 rfl ⟨by decide, by decide⟩ ?_
      obtain ⟨hz212, hh⟩ := hh
      refine rr_iadd dL_law_567 rfl hz212 ?_
      refine rr_xald dL_law_568 rfl hh (fun n213 hh => ?_)
      refine rr_aload_n dL_law_569 rfl rfl ?_
      refine rr_iload_n dL_law_570 rfl rfl ?_
      refine rr_iconst dL_law_571 rfl ⟨by decide, by decide⟩ ?_
      obtain ⟨hz214, hh⟩ := hh
      refine rr_iadd dL_law_572 rfl hz214 ?_
      refine rr_xald dL_law_573 rfl hh (fun n215 hh => ?_)
      refine rr_callW (bc' := bc) (bs' := bs) (q := x1) (av := [vI n211, vI n213, vI n215]) (st := []) mf_X9_meeting dL_law_574 rfl q_560 q_561 q_562 ⟨_, _, rfl⟩ rfl (by decide) (Nat.le_refl _) (Nat.le_refl _) hh (rr_kI fun n217 h216 hh => ?_)
      refine rr_aload_n dL_law_577 rfl rfl ?_
      refine rr_aload_n dL_law_578 rfl rfl ?_
      refine rr_iload_n dL_law_579 rfl rfl ?_
      refine rr_iconst dL_law_580 rfl ⟨by decide, by decide⟩ ?_
      obtain ⟨hz218, hh⟩ := hh
      refine rr_iadd dL_law_581 rfl hz218 ?_
      refine rr_xald dL_law_582 rfl hh (fun n219 hh => ?_)
      refine rr_aload_n dL_law_583 rfl rfl ?_
      refine rr_iload_n dL_law_584 rfl rfl ?_
      refine rr_iconst dL_law_585 rfl ⟨by decide, by decide⟩ ?_
      obtain ⟨hz220, hh⟩ := hh
      refine rr_iadd dL_law_586 rfl hz220 ?_
      refine rr_xald dL_law_587 rfl hh (fun n221 hh => ?_)
      refine rr_aload_n dL_law_588 rfl rfl ?_
      refine rr_iload_n dL_law_589 rfl rfl ?_
      refine rr_iconst dL_law_590 rfl ⟨by decide, by decide⟩ ?_
      obtain ⟨hz222, hh⟩ := hh
      refine rr_iadd dL_law_591 rfl hz222 ?_
      refine rr_xald dL_law_592 rfl hh (fun n223 hh => ?_)
      refine rr_callW (bc' := bc) (bs' := bs) (q := x2) (av := [vI n219, vI n221, vI n223]) (st := [vI n217]) mf_X10_meeting dL_law_593 rfl q_1027 q_1028 q_1029 ⟨_, _, rfl⟩ rfl (show 1 ≤ 8 by decide) (Nat.le_refl _) (Nat.le_refl _) hh (rr_kI fun n225 h224 hh => ?_)
      refine rr_icmp_eq (tgt := 988) dL_law_596 rfl (by decide) (fun hc596 => ?_) (fun hc596 => ?_)
      · have hh := hh.1 hc596
        obtain ⟨hz226, hh⟩ := hh
        refine rr_iinc (ls' := [some (vR x0), some (vR x1), some (vR x2), some (vI (x3 + 7))]) dL_law_988 rfl rfl (by decide) (fun _ z => by cases z) hz226 rfl ?_
        refine rr_goto (pc' := 18) dL_law_991 (by decide) ?_
        exact hh
      · have hh := hh.2 hc596
        refine rr_iconst dL_law_599 rfl ⟨by decide, by decide⟩ ?_
        exact rr_zret dL_law_600 rfl rfl hh
    by_cases hz33_15 : (n3 % 32) = 15
    · have hh := hh.2.2.2.2.2.2.2.2.2.2.2.2.2.2.2.1 hz33_15
      refine rr_tableIn (pc' := 601) 15 dL_law_33 (by rw [hz33_15]; rfl) (by decide) rfl (by decide) ?_
      refine rr_aload_n dL_law_601 rfl rfl ?_
      refine rr_aload_n dL_law_602 rfl rfl ?_
      refine rr_iload_n dL_law_603 rfl rfl ?_
      refine rr_iconst dL_law_604 rfl ⟨by decide, by decide⟩ ?_
      obtain ⟨hz229, hh⟩ := hh
      refine rr_iadd dL_law_605 rfl hz229 ?_
      refine rr_xald dL_law_606 rfl hh (fun n230 hh => ?_)
      refine rr_aload_n dL_law_607 rfl rfl ?_
      refine rr_iload_n dL_law_608 rfl rfl ?_
      refine rr_iconst dL_law_609 rfl ⟨by decide, by decide⟩ ?_
      obtain ⟨hz231, hh⟩ := hh
      refine rr_iadd dL_law_610 rfl hz231 ?_
      refine rr_xald dL_law_611 rfl hh (fun n232 hh => ?_)
      refine rr_callW (bc' := bc) (bs' := bs) (q := x1) (av := [vI n230, vI n232]) (st := []) mf_X9_loan dL_law_612 rfl q_568 q_569 q_570 ⟨_, _, rfl⟩ rfl (by decide) (Nat.le_refl _) (Nat.le_refl _) hh (rr_kI fun n234 h233 hh => ?_)
      refine rr_aload_n dL_law_615 rfl rfl ?_
      refine rr_aload_n dL_law_616 rfl rfl ?_
      refine rr_iload_n dL_law_617 rfl rfl ?_
      refine rr_iconst dL_law_618 rfl ⟨by decide, by decide⟩ ?_
      obtain ⟨hz235, hh⟩ := hh
      refine rr_iadd dL_law_619 rfl hz235 ?_
      refine rr_xald dL_law_620 rfl hh (fun n236 hh => ?_)
      refine rr_aload_n dL_law_621 rfl rfl ?_
      refine rr_iload_n dL_law_622 rfl rfl ?_
      refine rr_iconst dL_law_623 rfl ⟨by decide, by decide⟩ ?_
      obtain ⟨hz237, hh⟩ := hh
      refine rr_iadd dL_law_624 rfl hz237 ?_
      refine rr_xald dL_law_625 rfl hh (fun n238 hh => ?_)
      refine rr_callW (bc' := bc) (bs' := bs) (q := x2) (av := [vI n236, vI n238]) (st := [vI n234]) mf_X10_loan dL_law_626 rfl q_1031 q_1032 q_1033 ⟨_, _, rfl⟩ rfl (show 1 ≤ 8 by decide) (Nat.le_refl _) (Nat.le_refl _) hh (rr_kI fun n240 h239 hh => ?_)
      refine rr_icmp_eq (tgt := 988) dL_law_629 rfl (by decide) (fun hc629 => ?_) (fun hc629 => ?_)
      · have hh := hh.1 hc629
        obtain ⟨hz241, hh⟩ := hh
        refine rr_iinc (ls' := [some (vR x0), some (vR x1), some (vR x2), some (vI (x3 + 7))]) dL_law_988 rfl rfl (by decide) (fun _ z => by cases z) hz241 rfl ?_
        refine rr_goto (pc' := 18) dL_law_991 (by decide) ?_
        exact hh
      · have hh := hh.2 hc629
        refine rr_iconst dL_law_632 rfl ⟨by decide, by decide⟩ ?_
        exact rr_zret dL_law_633 rfl rfl hh
    by_cases hz33_16 : (n3 % 32) = 16
    · have hh := hh.2.2.2.2.2.2.2.2.2.2.2.2.2.2.2.2.1 hz33_16
      refine rr_tableIn (pc' := 634) 16 dL_law_33 (by rw [hz33_16]; rfl) (by decide) rfl (by decide) ?_
      refine rr_aload_n dL_law_634 rfl rfl ?_
      refine rr_aload_n dL_law_635 rfl rfl ?_
      refine rr_iload_n dL_law_636 rfl rfl ?_
      refine rr_iconst dL_law_637 rfl ⟨by decide, by decide⟩ ?_
      obtain ⟨hz244, hh⟩ := hh
      refine rr_iadd dL_law_638 rfl hz244 ?_
      refine rr_xald dL_law_639 rfl hh (fun n245 hh => ?_)
      refine rr_aload_n dL_law_640 rfl rfl ?_
      refine rr_iload_n dL_law_641 rfl rfl ?_
      refine rr_iconst dL_law_642 rfl ⟨by decide, by decide⟩ ?_
      obtain ⟨hz246, hh⟩ := hh
      refine rr_iadd dL_law_643 rfl hz246 ?_
      refine rr_xald dL_law_644 rfl hh (fun n247 hh => ?_)
      refine rr_aload_n dL_law_645 rfl rfl ?_
      refine rr_iload_n dL_law_646 rfl rfl ?_
      refine rr_iconst dL_law_647 rfl ⟨by decide, by decide⟩ ?_
      obtain ⟨hz248, hh⟩ := hh
      refine rr_iadd dL_law_648 rfl hz248 ?_
      refine rr_xald dL_law_649 rfl hh (fun n249 hh => ?_)
      refine rr_callW (bc' := bc) (bs' := bs) (q := x1) (av := [vI n245, vI n247, vI n249]) (st := []) mf_X9_sound dL_law_650 rfl q_643 q_644 q_645 ⟨_, _, rfl⟩ rfl (by decide) (Nat.le_refl _) (Nat.le_refl _) hh (rr_kI fun n251 h250 hh => ?_)
      refine rr_aload_n dL_law_653 rfl rfl ?_
      refine rr_aload_n dL_law_654 rfl rfl ?_
      refine rr_iload_n dL_law_655 rfl rfl ?_
      refine rr_iconst dL_law_656 rfl ⟨by decide, by decide⟩ ?_
      obtain ⟨hz252, hh⟩ := hh
      refine rr_iadd dL_law_657 rfl hz252 ?_
      refine rr_xald dL_law_658 rfl hh (fun n253 hh => ?_)
      refine rr_aload_n dL_law_659 rfl rfl ?_
      refine rr_iload_n dL_law_660 rfl rfl ?_
      refine rr_iconst dL_law_661 rfl ⟨by decide, by decide⟩ ?_
      obtain ⟨hz254, hh⟩ := hh
      refine rr_iadd dL_law_662 rfl hz254 ?_
      refine rr_xald dL_law_663 rfl hh (fun n255 hh => ?_)
      refine rr_aload_n dL_law_664 rfl rfl ?_
      refine rr_iload_n dL_law_665 rfl rfl ?_
      refine rr_iconst dL_law_666 rfl ⟨by decide, by decide⟩ ?_
      obtain ⟨hz256, hh⟩ := hh
      refine rr_iadd dL_law_667 rfl hz256 ?_
      refine rr_xald dL_law_668 rfl hh (fun n257 hh => ?_)
      refine rr_callW (bc' := bc) (bs' := bs) (q := x2) (av := [vI n253, vI n255, vI n257]) (st := [vI n251]) mf_X10_sound dL_law_669 rfl q_1079 q_1080 q_1081 ⟨_, _, rfl⟩ rfl (show 1 ≤ 8 by decide) (Nat.le_refl _) (Nat.le_refl _) hh (rr_kI fun n259 h258 hh => ?_)
      refine rr_icmp_eq (tgt := 988) dL_law_672 rfl (by decide) (fun hc672 => ?_) (fun hc672 => ?_)
      · have hh := hh.1 hc672
        obtain ⟨hz260, hh⟩ := hh
        refine rr_iinc (ls' := [some (vR x0), some (vR x1), some (vR x2), some (vI (x3 + 7))]) dL_law_988 rfl rfl (by decide) (fun _ z => by cases z) hz260 rfl ?_
        refine rr_goto (pc' := 18) dL_law_991 (by decide) ?_
        exact hh
      · have hh := hh.2 hc672
        refine rr_iconst dL_law_675 rfl ⟨by decide, by decide⟩ ?_
        exact rr_zret dL_law_676 rfl rfl hh
    by_cases hz33_17 : (n3 % 32) = 17
    · have hh := hh.2.2.2.2.2.2.2.2.2.2.2.2.2.2.2.2.2.1 hz33_17
      refine rr_tableIn (pc' := 677) 17 dL_law_33 (by rw [hz33_17]; rfl) (by decide) rfl (by decide) ?_
      refine rr_aload_n dL_law_677 rfl rfl ?_
      refine rr_aload_n dL_law_678 rfl rfl ?_
      refine rr_iload_n dL_law_679 rfl rfl ?_
      refine rr_iconst dL_law_680 rfl ⟨by decide, by decide⟩ ?_
      obtain ⟨hz263, hh⟩ := hh
      refine rr_iadd dL_law_681 rfl hz263 ?_
      refine rr_xald dL_law_682 rfl hh (fun n264 hh => ?_)
      refine rr_aload_n dL_law_683 rfl rfl ?_
      refine rr_iload_n dL_law_684 rfl rfl ?_
      refine rr_iconst dL_law_685 rfl ⟨by decide, by decide⟩ ?_
      obtain ⟨hz265, hh⟩ := hh
      refine rr_iadd dL_law_686 rfl hz265 ?_
      refine rr_xald dL_law_687 rfl hh (fun n266 hh => ?_)
      refine rr_aload_n dL_law_688 rfl rfl ?_
      refine rr_iload_n dL_law_689 rfl rfl ?_
      refine rr_iconst dL_law_690 rfl ⟨by decide, by decide⟩ ?_
      obtain ⟨hz267, hh⟩ := hh
      refine rr_iadd dL_law_691 rfl hz267 ?_
      refine rr_xald dL_law_692 rfl hh (fun n268 hh => ?_)
      refine rr_callW (bc' := bc) (bs' := bs) (q := x1) (av := [vI n264, vI n266, vI n268]) (st := []) mf_X9_window dL_law_693 rfl q_648 q_649 q_650 ⟨_, _, rfl⟩ rfl (by decide) (Nat.le_refl _) (Nat.le_refl _) hh (rr_kI fun n270 h269 hh => ?_)
      refine rr_aload_n dL_law_696 rfl rfl ?_
      refine rr_aload_n dL_law_697 rfl rfl ?_
      refine rr_iload_n dL_law_698 rfl rfl ?_
      refine rr_iconst dL_law_699 rfl ⟨by decide, by decide⟩ ?_
      obtain ⟨hz271, hh⟩ := hh
      refine rr_iadd dL_law_700 rfl hz271 ?_
      refine rr_xald dL_law_701 rfl hh (fun n272 hh => ?_)
      refine rr_aload_n dL_law_702 rfl rfl ?_
      refine rr_iload_n dL_law_703 rfl rfl ?_
      refine rr_iconst dL_law_704 rfl ⟨by decide, by decide⟩ ?_
      obtain ⟨hz273, hh⟩ := hh
      refine rr_iadd dL_law_705 rfl hz273 ?_
      refine rr_xald dL_law_706 rfl hh (fun n274 hh => ?_)
      refine rr_aload_n dL_law_707 rfl rfl ?_
      refine rr_iload_n dL_law_708 rfl rfl ?_
      refine rr_iconst dL_law_709 rfl ⟨by decide, by decide⟩ ?_
      obtain ⟨hz275, hh⟩ := hh
      refine rr_iadd dL_law_710 rfl hz275 ?_
      refine rr_xald dL_law_711 rfl hh (fun n276 hh => ?_)
      refine rr_callW (bc' := bc) (bs' := bs) (q := x2) (av := [vI n272, vI n274, vI n276]) (st := [vI n270]) mf_X10_window dL_law_712 rfl q_1083 q_1084 q_1085 ⟨_, _, rfl⟩ rfl (show 1 ≤ 8 by decide) (Nat.le_refl _) (Nat.le_refl _) hh (rr_kI fun n278 h277 hh => ?_)
      refine rr_icmp_eq (tgt := 988) dL_law_715 rfl (by decide) (fun hc715 => ?_) (fun hc715 => ?_)
      · have hh := hh.1 hc715
        obtain ⟨hz279, hh⟩ := hh
        refine rr_iinc (ls' := [some (vR x0), some (vR x1), some (vR x2), some (vI (x3 + 7))]) dL_law_988 rfl rfl (by decide) (fun _ z => by cases z) hz279 rfl ?_
        refine rr_goto (pc' := 18) dL_law_991 (by decide) ?_
        exact hh
      · have hh := hh.2 hc715
        refine rr_iconst dL_law_718 rfl ⟨by decide, by decide⟩ ?_
        exact rr_zret dL_law_719 rfl rfl hh
    by_cases hz33_18 : (n3 % 32) = 18
    · have hh := hh.2.2.2.2.2.2.2.2.2.2.2.2.2.2.2.2.2.2.1 hz33_18
      refine rr_tableIn (pc' := 720) 18 dL_law_33 (by rw [hz33_18]; rfl) (by decide) rfl (by decide) ?_
      refine rr_aload_n dL_law_720 rfl rfl ?_
      refine rr_aload_n dL_law_721 rfl rfl ?_
      refine rr_iload_n dL_law_722 rfl rfl ?_
      refine rr_iconst dL_law_723 rfl ⟨by decide, by decide⟩ ?_
      obtain ⟨hz282, hh⟩ := hh
      refine rr_iadd dL_law_724 rfl hz282 ?_
      refine rr_xald dL_law_725 rfl hh (fun n283 hh => ?_)
      refine rr_aload_n dL_law_726 rfl rfl ?_
      refine rr_iload_n dL_law_727 rfl rfl ?_
      refine rr_iconst dL_law_728 rfl ⟨by decide, by decide⟩ ?_
      obtain ⟨hz284, hh⟩ := hh
      refine rr_iadd dL_law_729 rfl hz284 ?_
      refine rr_xald dL_law_730 rfl hh (fun n285 hh => ?_)
      refine rr_aload_n dL_law_731 rfl rfl ?_
      refine rr_iload_n dL_law_732 rfl rfl ?_
      refine rr_iconst dL_law_733 rfl ⟨by decide, by decide⟩ ?_
      obtain ⟨hz286, hh⟩ := hh
      refine rr_iadd dL_law_734 rfl hz286 ?_
      refine rr_xald dL_law_735 rfl hh (fun n287 hh => ?_)
      refine rr_callW (bc' := bc) (bs' := bs) (q := x1) (av := [vI n283, vI n285, vI n287]) (st := []) mf_X9_taken dL_law_736 rfl q_654 q_655 q_656 ⟨_, _, rfl⟩ rfl (by decide) (Nat.le_refl _) (Nat.le_refl _) hh (rr_kI fun n289 h288 hh => ?_)
      refine rr_aload_n dL_law_739 rfl rfl ?_
      refine rr_aload_n dL_law_740 rfl rfl ?_
      refine rr_iload_n dL_law_741 rfl rfl ?_
      refine rr_iconst dL_law_742 rfl ⟨by decide, by decide⟩ ?_
      obtain ⟨hz290, hh⟩ := hh
      refine rr_iadd dL_law_743 rfl hz290 ?_
      refine rr_xald dL_law_744 rfl hh (fun n291 hh => ?_)
      refine rr_aload_n dL_law_745 rfl rfl ?_
      refine rr_iload_n dL_law_746 rfl rfl ?_
      refine rr_iconst dL_law_747 rfl ⟨by decide, by decide⟩ ?_
      obtain ⟨hz292, hh⟩ := hh
      refine rr_iadd dL_law_748 rfl hz292 ?_
      refine rr_xald dL_law_749 rfl hh (fun n293 hh => ?_)
      refine rr_aload_n dL_law_750 rfl rfl ?_
      refine rr_iload_n dL_law_751 rfl rfl ?_
      refine rr_iconst dL_law_752 rfl ⟨by decide, by decide⟩ ?_
      obtain ⟨hz294, hh⟩ := hh
      refine rr_iadd dL_law_753 rfl hz294 ?_
      refine rr_xald dL_law_754 rfl hh (fun n295 hh => ?_)
      refine rr_callW (bc' := bc) (bs' := bs) (q := x2) (av := [vI n291, vI n293, vI n295]) (st := [vI n289]) mf_X10_taken dL_law_755 rfl q_1087 q_1088 q_1089 ⟨_, _, rfl⟩ rfl (show 1 ≤ 8 by decide) (Nat.le_refl _) (Nat.le_refl _) hh (rr_kI fun n297 h296 hh => ?_)
      refine rr_icmp_eq (tgt := 988) dL_law_758 rfl (by decide) (fun hc758 => ?_) (fun hc758 => ?_)
      · have hh := hh.1 hc758
        obtain ⟨hz298, hh⟩ := hh
        refine rr_iinc (ls' := [some (vR x0), some (vR x1), some (vR x2), some (vI (x3 + 7))]) dL_law_988 rfl rfl (by decide) (fun _ z => by cases z) hz298 rfl ?_
        refine rr_goto (pc' := 18) dL_law_991 (by decide) ?_
        exact hh
      · have hh := hh.2 hc758
        refine rr_iconst dL_law_761 rfl ⟨by decide, by decide⟩ ?_
        exact rr_zret dL_law_762 rfl rfl hh
    by_cases hz33_19 : (n3 % 32) = 19
    · have hh := hh.2.2.2.2.2.2.2.2.2.2.2.2.2.2.2.2.2.2.2.1 hz33_19
      refine rr_tableIn (pc' := 763) 19 dL_law_33 (by rw [hz33_19]; rfl) (by decide) rfl (by decide) ?_
      refine rr_aload_n dL_law_763 rfl rfl ?_
      refine rr_aload_n dL_law_764 rfl rfl ?_
      refine rr_iload_n dL_law_765 rfl rfl ?_
      refine rr_iconst dL_law_766 rfl ⟨by decide, by decide⟩ ?_
      obtain ⟨hz301, hh⟩ := hh
      refine rr_iadd dL_law_767 rfl hz301 ?_
      refine rr_xald dL_law_768 rfl hh (fun n302 hh => ?_)
      refine rr_aload_n dL_law_769 rfl rfl ?_
      refine rr_iload_n dL_law_770 rfl rfl ?_
      refine rr_iconst dL_law_771 rfl ⟨by decide, by decide⟩ ?_
      obtain ⟨hz303, hh⟩ := hh
      refine rr_iadd dL_law_772 rfl hz303 ?_
      refine rr_xald dL_law_773 rfl hh (fun n304 hh => ?_)
      refine rr_aload_n dL_law_774 rfl rfl ?_
      refine rr_iload_n dL_law_775 rfl rfl ?_
      refine rr_iconst dL_law_776 rfl ⟨by decide, by decide⟩ ?_
      obtain ⟨hz305, hh⟩ := hh
      refine rr_iadd dL_law_777 rfl hz305 ?_
      refine rr_xald dL_law_778 rfl hh (fun n306 hh => ?_)
      refine rr_aload_n dL_law_779 rfl rfl ?_
      refine rr_iload_n dL_law_780 rfl rfl ?_
      refine rr_iconst dL_law_781 rfl ⟨by decide, by decide⟩ ?_
      obtain ⟨hz307, hh⟩ := hh
      refine rr_iadd dL_law_782 rfl hz307 ?_
      refine rr_xald dL_law_783 rfl hh (fun n308 hh => ?_)
      refine rr_aload_n dL_law_784 rfl rfl ?_
      refine rr_iload_n dL_law_785 rfl rfl ?_
      refine rr_iconst dL_law_786 rfl ⟨by decide, by decide⟩ ?_
      obtain ⟨hz309, hh⟩ := hh
      refine rr_iadd dL_law_787 rfl hz309 ?_
      refine rr_xald dL_law_788 rfl hh (fun n310 hh => ?_)
      refine rr_callW (bc' := bc) (bs' := bs) (q := x1) (av := [vI n302, vI n304, vI n306, vI n308, vI n310]) (st := []) mf_X9_gone dL_law_789 rfl q_661 q_662 q_663 ⟨_, _, rfl⟩ rfl (by decide) (Nat.le_refl _) (Nat.le_refl _) hh (rr_kI fun n312 h311 hh => ?_)
      refine rr_aload_n dL_law_792 rfl rfl ?_
      refine rr_aload_n dL_law_793 rfl rfl ?_
      refine rr_iload_n dL_law_794 rfl rfl ?_
      refine rr_iconst dL_law_795 rfl ⟨by decide, by decide⟩ ?_
      obtain ⟨hz313, hh⟩ := hh
      refine rr_iadd dL_law_796 rfl hz313 ?_
      refine rr_xald dL_law_797 rfl hh (fun n314 hh => ?_)
      refine rr_aload_n dL_law_798 rfl rfl ?_
      refine rr_iload_n dL_law_799 rfl rfl ?_
      refine rr_iconst dL_law_800 rfl ⟨by decide, by decide⟩ ?_
      obtain ⟨hz315, hh⟩ := hh
      refine rr_iadd dL_law_801 rfl hz315 ?_
      refine rr_xald dL_law_802 rfl hh (fun n316 hh => ?_)
      refine rr_aload_n dL_law_803 rfl rfl ?_
      refine rr_iload_n dL_law_804 rfl rfl ?_
      refine rr_iconst dL_law_805 rfl ⟨by decide, by decide⟩ ?_
      obtain ⟨hz317, hh⟩ := hh
      refine rr_iadd dL_law_806 rfl hz317 ?_
      refine rr_xald dL_law_807 rfl hh (fun n318 hh => ?_)
      refine rr_aload_n dL_law_808 rfl rfl ?_
      refine rr_iload_n dL_law_809 rfl rfl ?_
      refine rr_iconst dL_law_810 rfl ⟨by decide, by decide⟩ ?_
      obtain ⟨hz319, hh⟩ := hh
      refine rr_iadd dL_law_811 rfl hz319 ?_
      refine rr_xald dL_law_812 rfl hh (fun n320 hh => ?_)
      refine rr_aload_n dL_law_813 rfl rfl ?_
      refine rr_iload_n dL_law_814 rfl rfl ?_
      refine rr_iconst dL_law_815 rfl ⟨by decide, by decide⟩ ?_
      obtain ⟨hz321, hh⟩ := hh
      refine rr_iadd dL_law_816 rfl hz321 ?_
      refine rr_xald dL_law_817 rfl hh (fun n322 hh => ?_)
      refine rr_callW (bc' := bc) (bs' := bs) (q := x2) (av := [vI n314, vI n316, vI n318, vI n320, vI n322]) (st := [vI n312]) mf_X10_gone dL_law_818 rfl q_1095 q_1096 q_1097 ⟨_, _, rfl⟩ rfl (show 1 ≤ 8 by decide) (Nat.le_refl _) (Nat.le_refl _) hh (rr_kI fun n324 h323 hh => ?_)
      refine rr_icmp_eq (tgt := 988) dL_law_821 rfl (by decide) (fun hc821 => ?_) (fun hc821 => ?_)
      · have hh := hh.1 hc821
        obtain ⟨hz325, hh⟩ := hh
        refine rr_iinc (ls' := [some (vR x0), some (vR x1), some (vR x2), some (vI (x3 + 7))]) dL_law_988 rfl rfl (by decide) (fun _ z => by cases z) hz325 rfl ?_
        refine rr_goto (pc' := 18) dL_law_991 (by decide) ?_
        exact hh
      · have hh := hh.2 hc821
        refine rr_iconst dL_law_824 rfl ⟨by decide, by decide⟩ ?_
        exact rr_zret dL_law_825 rfl rfl hh
    by_cases hz33_20 : (n3 % 32) = 20
    · have hh := hh.2.2.2.2.2.2.2.2.2.2.2.2.2.2.2.2.2.2.2.2.1 hz33_20
      refine rr_tableIn (pc' := 826) 20 dL_law_33 (by rw [hz33_20]; rfl) (by decide) rfl (by decide) ?_
      refine rr_aload_n dL_law_826 rfl rfl ?_
      refine rr_aload_n dL_law_827 rfl rfl ?_
      refine rr_iload_n dL_law_828 rfl rfl ?_
      refine rr_iconst dL_law_829 rfl ⟨by decide, by decide⟩ ?_
      obtain ⟨hz328, hh⟩ := hh
      refine rr_iadd dL_law_830 rfl hz328 ?_
      refine rr_xald dL_law_831 rfl hh (fun n329 hh => ?_)
      refine rr_aload_n dL_law_832 rfl rfl ?_
      refine rr_iload_n dL_law_833 rfl rfl ?_
      refine rr_iconst dL_law_834 rfl ⟨by decide, by decide⟩ ?_
      obtain ⟨hz330, hh⟩ := hh
      refine rr_iadd dL_law_835 rfl hz330 ?_
      refine rr_xald dL_law_836 rfl hh (fun n331 hh => ?_)
      refine rr_aload_n dL_law_837 rfl rfl ?_
      refine rr_iload_n dL_law_838 rfl rfl ?_
      refine rr_iconst dL_law_839 rfl ⟨by decide, by decide⟩ ?_
      obtain ⟨hz332, hh⟩ := hh
      refine rr_iadd dL_law_840 rfl hz332 ?_
      refine rr_xald dL_law_841 rfl hh (fun n333 hh => ?_)
      refine rr_callW (bc' := bc) (bs' := bs) (q := x1) (av := [vI n329, vI n331, vI n333]) (st := []) mf_X9_did dL_law_842 rfl q_666 q_667 q_668 ⟨_, _, rfl⟩ rfl (by decide) (Nat.le_refl _) (Nat.le_refl _) hh (rr_kI fun n335 h334 hh => ?_)
      refine rr_aload_n dL_law_845 rfl rfl ?_
      refine rr_aload_n dL_law_846 rfl rfl ?_
      refine rr_iload_n dL_law_847 rfl rfl ?_
      refine rr_iconst dL_law_848 rfl ⟨by decide, by decide⟩ ?_
      obtain ⟨hz336, hh⟩ := hh
      refine rr_iadd dL_law_849 rfl hz336 ?_
      refine rr_xald dL_law_850 rfl hh (fun n337 hh => ?_)
      refine rr_aload_n dL_law_851 rfl rfl ?_
      refine rr_iload_n dL_law_852 rfl rfl ?_
      refine rr_iconst dL_law_853 rfl ⟨by decide, by decide⟩ ?_
      obtain ⟨hz338, hh⟩ := hh
      refine rr_iadd dL_law_854 rfl hz338 ?_
      refine rr_xald dL_law_855 rfl hh (fun n339 hh => ?_)
      refine rr_aload_n dL_law_856 rfl rfl ?_
      refine rr_iload_n dL_law_857 rfl rfl ?_
      refine rr_iconst dL_law_858 rfl ⟨by decide, by decide⟩ ?_
      obtain ⟨hz340, hh⟩ := hh
      refine rr_iadd dL_law_859 rfl hz340 ?_
      refine rr_xald dL_law_860 rfl hh (fun n341 hh => ?_)
      refine rr_callW (bc' := bc) (bs' := bs) (q := x2) (av := [vI n337, vI n339, vI n341]) (st := [vI n335]) mf_X10_did dL_law_861 rfl q_1099 q_1100 q_1101 ⟨_, _, rfl⟩ rfl (show 1 ≤ 8 by decide) (Nat.le_refl _) (Nat.le_refl _) hh (rr_kI fun n343 h342 hh => ?_)
      refine rr_icmp_eq (tgt := 988) dL_law_864 rfl (by decide) (fun hc864 => ?_) (fun hc864 => ?_)
      · have hh := hh.1 hc864
        obtain ⟨hz344, hh⟩ := hh
        refine rr_iinc (ls' := [some (vR x0), some (vR x1), some (vR x2), some (vI (x3 + 7))]) dL_law_988 rfl rfl (by decide) (fun _ z => by cases z) hz344 rfl ?_
        refine rr_goto (pc' := 18) dL_law_991 (by decide) ?_
        exact hh
      · have hh := hh.2 hc864
        refine rr_iconst dL_law_867 rfl ⟨by decide, by decide⟩ ?_
        exact rr_zret dL_law_868 rfl rfl hh
    by_cases hz33_21 : (n3 % 32) = 21
    · have hh := hh.2.2.2.2.2.2.2.2.2.2.2.2.2.2.2.2.2.2.2.2.2.1 hz33_21
      refine rr_tableIn (pc' := 869) 21 dL_law_33 (by rw [hz33_21]; rfl) (by decide) rfl (by decide) ?_
      refine rr_aload_n dL_law_869 rfl rfl ?_
      refine rr_aload_n dL_law_870 rfl rfl ?_
      refine rr_iload_n dL_law_871 rfl rfl ?_
      refine rr_iconst dL_law_872 rfl ⟨by decide, by decide⟩ ?_
      obtain ⟨hz347, hh⟩ := hh
      refine rr_iadd dL_law_873 rfl hz347 ?_
      refine rr_xald dL_law_874 rfl hh (fun n348 hh => ?_)
      refine rr_aload_n dL_law_875 rfl rfl ?_
      refine rr_iload_n dL_law_876 rfl rfl ?_
      refine rr_iconst dL_law_877 rfl ⟨by decide, by decide⟩ ?_
      obtain ⟨hz349, hh⟩ := hh
      refine rr_iadd dL_law_878 rfl hz349 ?_
      refine rr_xald dL_law_879 rfl hh (fun n350 hh => ?_)
      refine rr_callW (bc' := bc) (bs' := bs) (q := x1) (av := [vI n348, vI n350]) (st := []) mf_X9_older dL_law_880 rfl q_675 q_676 q_677 ⟨_, _, rfl⟩ rfl (by decide) (Nat.le_refl _) (Nat.le_refl _) hh (rr_kI fun n352 h351 hh => ?_)
      refine rr_aload_n dL_law_883 rfl rfl ?_
      refine rr_aload_n dL_law_884 rfl rfl ?_
      refine rr_iload_n dL_law_885 rfl rfl ?_
      refine rr_iconst dL_law_886 rfl ⟨by decide, by decide⟩ ?_
      obtain ⟨hz353, hh⟩ := hh
      refine rr_iadd dL_law_887 rfl hz353 ?_
      refine rr_xald dL_law_888 rfl hh (fun n354 hh => ?_)
      refine rr_aload_n dL_law_889 rfl rfl ?_
      refine rr_iload_n dL_law_890 rfl rfl ?_
      refine rr_iconst dL_law_891 rfl ⟨by decide, by decide⟩ ?_
      obtain ⟨hz355, hh⟩ := hh
      refine rr_iadd dL_law_892 rfl hz355 ?_
      refine rr_xald dL_law_893 rfl hh (fun n356 hh => ?_)
      refine rr_callW (bc' := bc) (bs' := bs) (q := x2) (av := [vI n354, vI n356]) (st := [vI n352]) mf_X10_older dL_law_894 rfl q_1103 q_1104 q_1105 ⟨_, _, rfl⟩ rfl (show 1 ≤ 8 by decide) (Nat.le_refl _) (Nat.le_refl _) hh (rr_kI fun n358 h357 hh => ?_)
      refine rr_icmp_eq (tgt := 988) dL_law_897 rfl (by decide) (fun hc897 => ?_) (fun hc897 => ?_)
      · have hh := hh.1 hc897
        obtain ⟨hz359, hh⟩ := hh
        refine rr_iinc (ls' := [some (vR x0), some (vR x1), some (vR x2), some (vI (x3 + 7))]) dL_law_988 rfl rfl (by decide) (fun _ z => by cases z) hz359 rfl ?_
        refine rr_goto (pc' := 18) dL_law_991 (by decide) ?_
        exact hh
      · have hh := hh.2 hc897
        refine rr_iconst dL_law_900 rfl ⟨by decide, by decide⟩ ?_
        exact rr_zret dL_law_901 rfl rfl hh
    by_cases hz33_22 : (n3 % 32) = 22
    · have hh := hh.2.2.2.2.2.2.2.2.2.2.2.2.2.2.2.2.2.2.2.2.2.2.1 hz33_22
      refine rr_tableIn (pc' := 902) 22 dL_law_33 (by rw [hz33_22]; rfl) (by decide) rfl (by decide) ?_
      refine rr_aload_n dL_law_902 rfl rfl ?_
      refine rr_aload_n dL_law_903 rfl rfl ?_
      refine rr_iload_n dL_law_904 rfl rfl ?_
      refine rr_iconst dL_law_905 rfl ⟨by decide, by decide⟩ ?_
      obtain ⟨hz362, hh⟩ := hh
      refine rr_iadd dL_law_906 rfl hz362 ?_
      refine rr_xald dL_law_907 rfl hh (fun n363 hh => ?_)
      refine rr_aload_n dL_law_908 rfl rfl ?_
      refine rr_iload_n dL_law_909 rfl rfl ?_
      refine rr_iconst dL_law_910 rfl ⟨by decide, by decide⟩ ?_
      obtain ⟨hz364, hh⟩ := hh
      refine rr_iadd dL_law_911 rfl hz364 ?_
      refine rr_xald dL_law_912 rfl hh (fun n365 hh => ?_)
      refine rr_aload_n dL_law_913 rfl rfl ?_
      refine rr_iload_n dL_law_914 rfl rfl ?_
      refine rr_iconst dL_law_915 rfl ⟨by decide, by decide⟩ ?_
      obtain ⟨hz366, hh⟩ := hh
      refine rr_iadd dL_law_916 rfl hz366 ?_
      refine rr_xald dL_law_917 rfl hh (fun n367 hh => ?_)
      refine rr_aload_n dL_law_918 rfl rfl ?_
      refine rr_iload_n dL_law_919 rfl rfl ?_
      refine rr_iconst dL_law_920 rfl ⟨by decide, by decide⟩ ?_
      obtain ⟨hz368, hh⟩ := hh
      refine rr_iadd dL_law_921 rfl hz368 ?_
      refine rr_xald dL_law_922 rfl hh (fun n369 hh => ?_)
      refine rr_aload_n dL_law_923 rfl rfl ?_
      refine rr_iload_n dL_law_924 rfl rfl ?_
      refine rr_iconst dL_law_925 rfl ⟨by decide, by decide⟩ ?_
      obtain ⟨hz370, hh⟩ := hh
      refine rr_iadd dL_law_926 rfl hz370 ?_
      refine rr_xald dL_law_927 rfl hh (fun n371 hh => ?_)
      refine rr_callW (bc' := bc) (bs' := bs) (q := x1) (av := [vI n363, vI n365, vI n367, vI n369, vI n371]) (st := []) mf_X9_road dL_law_928 rfl q_680 q_681 q_682 ⟨_, _, rfl⟩ rfl (by decide) (Nat.le_refl _) (Nat.le_refl _) hh (rr_kI fun n373 h372 hh => ?_)
      refine rr_aload_n dL_law_931 rfl rfl ?_
      refine rr_aload_n dL_law_932 rfl rfl ?_
      refine rr_iload_n dL_law_933 rfl rfl ?_
      refine rr_iconst dL_law_934 rfl ⟨by decide, by decide⟩ ?_
      obtain ⟨hz374, hh⟩ := hh
      refine rr_iadd dL_law_935 rfl hz374 ?_
      refine rr_xald dL_law_936 rfl hh (fun n375 hh => ?_)
      refine rr_aload_n dL_law_937 rfl rfl ?_
      refine rr_iload_n dL_law_938 rfl rfl ?_
      refine rr_iconst dL_law_939 rfl ⟨by decide, by decide⟩ ?_
      obtain ⟨hz376, hh⟩ := hh
      refine rr_iadd dL_law_940 rfl hz376 ?_
      refine rr_xald dL_law_941 rfl hh (fun n377 hh => ?_)
      refine rr_aload_n dL_law_942 rfl rfl ?_
      refine rr_iload_n dL_law_943 rfl rfl ?_
      refine rr_iconst dL_law_944 rfl ⟨by decide, by decide⟩ ?_
      obtain ⟨hz378, hh⟩ := hh
      refine rr_iadd dL_law_945 rfl hz378 ?_
      refine rr_xald dL_law_946 rfl hh (fun n379 hh => ?_)
      refine rr_aload_n dL_law_947 rfl rfl ?_
      refine rr_iload_n dL_law_948 rfl rfl ?_
      refine rr_iconst dL_law_949 rfl ⟨by decide, by decide⟩ ?_
      obtain ⟨hz380, hh⟩ := hh
      refine rr_iadd dL_law_950 rfl hz380 ?_
      refine rr_xald dL_law_951 rfl hh (fun n381 hh => ?_)
      refine rr_aload_n dL_law_952 rfl rfl ?_
      refine rr_iload_n dL_law_953 rfl rfl ?_
      refine rr_iconst dL_law_954 rfl ⟨by decide, by decide⟩ ?_
      obtain ⟨hz382, hh⟩ := hh
      refine rr_iadd dL_law_955 rfl hz382 ?_
      refine rr_xald dL_law_956 rfl hh (fun n383 hh => ?_)
      refine rr_callW (bc' := bc) (bs' := bs) (q := x2) (av := [vI n375, vI n377, vI n379, vI n381, vI n383]) (st := [vI n373]) mf_X10_road dL_law_957 rfl q_1107 q_1108 q_1109 ⟨_, _, rfl⟩ rfl (show 1 ≤ 8 by decide) (Nat.le_refl _) (Nat.le_refl _) hh (rr_kI fun n385 h384 hh => ?_)
      refine rr_icmp_eq (tgt := 988) dL_law_960 rfl (by decide) (fun hc960 => ?_) (fun hc960 => ?_)
      · have hh := hh.1 hc960
        obtain ⟨hz386, hh⟩ := hh
        refine rr_iinc (ls' := [some (vR x0), some (vR x1), some (vR x2), some (vI (x3 + 7))]) dL_law_988 rfl rfl (by decide) (fun _ z => by cases z) hz386 rfl ?_
        refine rr_goto (pc' := 18) dL_law_991 (by decide) ?_
        exact hh
      · have hh := hh.2 hc960
        refine rr_iconst dL_law_963 rfl ⟨by decide, by decide⟩ ?_
        exact rr_zret dL_law_964 rfl rfl hh
    by_cases hz33_23 : (n3 % 32) = 23
    · have hh := hh.2.2.2.2.2.2.2.2.2.2.2.2.2.2.2.2.2.2.2.2.2.2.2.1 hz33_23
      refine rr_tableIn (pc' := 965) 23 dL_law_33 (by rw [hz33_23]; rfl) (by decide) rfl (by decide) ?_
      refine rr_aload_n dL_law_965 rfl rfl ?_
      refine rr_aload_n dL_law_966 rfl rfl ?_
      refine rr_iload_n dL_law_967 rfl rfl ?_
      refine rr_iconst dL_law_968 rfl ⟨by decide, by decide⟩ ?_
      obtain ⟨hz389, hh⟩ := hh
      refine rr_iadd dL_law_969 rfl hz389 ?_
      refine rr_xald dL_law_970 rfl hh (fun n390 hh => ?_)
      refine rr_callW (bc' := bc) (bs' := bs) (q := x1) (av := [vI n390]) (st := []) mf_X9_count dL_law_971 rfl q_732 q_733 q_734 ⟨_, _, rfl⟩ rfl (by decide) (Nat.le_refl _) (Nat.le_refl _) hh (rr_kI fun n392 h391 hh => ?_)
      refine rr_aload_n dL_law_974 rfl rfl ?_
      refine rr_aload_n dL_law_975 rfl rfl ?_
      refine rr_iload_n dL_law_976 rfl rfl ?_
      refine rr_iconst dL_law_977 rfl ⟨by decide, by decide⟩ ?_
      obtain ⟨hz393, hh⟩ := hh
      refine rr_iadd dL_law_978 rfl hz393 ?_
      refine rr_xald dL_law_979 rfl hh (fun n394 hh => ?_)
      refine rr_callW (bc' := bc) (bs' := bs) (q := x2) (av := [vI n394]) (st := [vI n392]) mf_X10_count dL_law_980 rfl q_1135 q_1136 q_1137 ⟨_, _, rfl⟩ rfl (show 1 ≤ 8 by decide) (Nat.le_refl _) (Nat.le_refl _) hh (rr_kI fun n396 h395 hh => ?_)
      refine rr_icmp_eq (tgt := 988) dL_law_983 rfl (by decide) (fun hc983 => ?_) (fun hc983 => ?_)
      · have hh := hh.1 hc983
        obtain ⟨hz397, hh⟩ := hh
        refine rr_iinc (ls' := [some (vR x0), some (vR x1), some (vR x2), some (vI (x3 + 7))]) dL_law_988 rfl rfl (by decide) (fun _ z => by cases z) hz397 rfl ?_
        refine rr_goto (pc' := 18) dL_law_991 (by decide) ?_
        exact hh
      · have hh := hh.2 hc983
        refine rr_iconst dL_law_986 rfl ⟨by decide, by decide⟩ ?_
        exact rr_zret dL_law_987 rfl rfl hh
    have hz33_o : (n3 % 32) < 0 ∨ 23 < (n3 % 32) := by omega
    have hh := hh.2.2.2.2.2.2.2.2.2.2.2.2.2.2.2.2.2.2.2.2.2.2.2.2 hz33_o
    refine rr_tableOut (pc' := 988) dL_law_33 hz33_o (by decide) ?_
    obtain ⟨hz400, hh⟩ := hh
    refine rr_iinc (ls' := [some (vR x0), some (vR x1), some (vR x2), some (vI (x3 + 7))]) dL_law_988 rfl rfl (by decide) (fun _ z => by cases z) hz400 rfl ?_
    refine rr_goto (pc' := 18) dL_law_991 (by decide) ?_
    exact hh
