theorem d_Lw_law_0 : decode code 0 = .ok (.new 7, 3) := by decide +kernel
theorem d_Lw_law_3 : decode code 3 = .ok (.dup, 1) := by decide +kernel
theorem d_Lw_law_4 : decode code 4 = .ok (.invokespecial 9, 3) := by decide +kernel
theorem d_Lw_law_7 : decode code 7 = .ok (.astore_n 1, 1) := by decide +kernel
theorem d_Lw_law_8 : decode code 8 = .ok (.new 10, 3) := by decide +kernel
theorem d_Lw_law_11 : decode code 11 = .ok (.dup, 1) := by decide +kernel
theorem d_Lw_law_12 : decode code 12 = .ok (.invokespecial 12, 3) := by decide +kernel
theorem d_Lw_law_15 : decode code 15 = .ok (.astore_n 2, 1) := by decide +kernel
theorem d_Lw_law_16 : decode code 16 = .ok (.iconst 0, 1) := by decide +kernel
theorem d_Lw_law_17 : decode code 17 = .ok (.istore_n 3, 1) := by decide +kernel
theorem d_Lw_law_18 : decode code 18 = .ok (.iload_n 3, 1) := by decide +kernel
theorem d_Lw_law_19 : decode code 19 = .ok (.aload_n 0, 1) := by decide +kernel
theorem d_Lw_law_20 : decode code 20 = .ok (.arraylength, 1) := by decide +kernel
theorem d_Lw_law_21 : decode code 21 = .ok (.bipush 7, 2) := by decide +kernel
theorem d_Lw_law_23 : decode code 23 = .ok (.isub, 1) := by decide +kernel
theorem d_Lw_law_24 : decode code 24 = .ok (.if_icmp .gt 992, 3) := by decide +kernel
theorem d_Lw_law_27 : decode code 27 = .ok (.aload_n 0, 1) := by decide +kernel
theorem d_Lw_law_28 : decode code 28 = .ok (.iload_n 3, 1) := by decide +kernel
theorem d_Lw_law_29 : decode code 29 = .ok (.iaload, 1) := by decide +kernel
theorem d_Lw_law_30 : decode code 30 = .ok (.bipush 31, 2) := by decide +kernel
theorem d_Lw_law_32 : decode code 32 = .ok (.iand, 1) := by decide +kernel
theorem d_Lw_law_33 : decode code 33 = .ok (.tableswitch 977 0 23 #[111, 134, 147, 210, 233, 308, 371, 424, 457, 490, 565, 628, 651, 684, 697, 720, 743, 786, 819, 842, 865, 898, 931, 964], 111) := by decide +kernel
theorem d_Lw_law_144 : decode code 144 = .ok (.aload_n 1, 1) := by decide +kernel
theorem d_Lw_law_145 : decode code 145 = .ok (.aload_n 0, 1) := by decide +kernel
theorem d_Lw_law_146 : decode code 146 = .ok (.iload_n 3, 1) := by decide +kernel
theorem d_Lw_law_147 : decode code 147 = .ok (.iconst 1, 1) := by decide +kernel
theorem d_Lw_law_148 : decode code 148 = .ok (.iadd, 1) := by decide +kernel
theorem d_Lw_law_149 : decode code 149 = .ok (.iaload, 1) := by decide +kernel
theorem d_Lw_law_150 : decode code 150 = .ok (.invokevirtual 13, 3) := by decide +kernel
theorem d_Lw_law_153 : decode code 153 = .ok (.pop, 1) := by decide +kernel
theorem d_Lw_law_154 : decode code 154 = .ok (.aload_n 2, 1) := by decide +kernel
theorem d_Lw_law_155 : decode code 155 = .ok (.aload_n 0, 1) := by decide +kernel
theorem d_Lw_law_156 : decode code 156 = .ok (.iload_n 3, 1) := by decide +kernel
theorem d_Lw_law_157 : decode code 157 = .ok (.iconst 1, 1) := by decide +kernel
theorem d_Lw_law_158 : decode code 158 = .ok (.iadd, 1) := by decide +kernel
theorem d_Lw_law_159 : decode code 159 = .ok (.iaload, 1) := by decide +kernel
theorem d_Lw_law_160 : decode code 160 = .ok (.invokevirtual 17, 3) := by decide +kernel
theorem d_Lw_law_163 : decode code 163 = .ok (.pop, 1) := by decide +kernel
theorem d_Lw_law_164 : decode code 164 = .ok (.goto 846, 3) := by decide +kernel
theorem d_Lw_law_167 : decode code 167 = .ok (.aload_n 1, 1) := by decide +kernel
theorem d_Lw_law_168 : decode code 168 = .ok (.invokevirtual 18, 3) := by decide +kernel
theorem d_Lw_law_171 : decode code 171 = .ok (.pop, 1) := by decide +kernel
theorem d_Lw_law_172 : decode code 172 = .ok (.aload_n 2, 1) := by decide +kernel
theorem d_Lw_law_173 : decode code 173 = .ok (.invokevirtual 22, 3) := by decide +kernel
theorem d_Lw_law_176 : decode code 176 = .ok (.pop, 1) := by decide +kernel
theorem d_Lw_law_177 : decode code 177 = .ok (.goto 833, 3) := by decide +kernel
theorem d_Lw_law_180 : decode code 180 = .ok (.aload_n 1, 1) := by decide +kernel
theorem d_Lw_law_181 : decode code 181 = .ok (.aload_n 0, 1) := by decide +kernel
theorem d_Lw_law_182 : decode code 182 = .ok (.iload_n 3, 1) := by decide +kernel
theorem d_Lw_law_183 : decode code 183 = .ok (.iconst 1, 1) := by decide +kernel
theorem d_Lw_law_184 : decode code 184 = .ok (.iadd, 1) := by decide +kernel
theorem d_Lw_law_185 : decode code 185 = .ok (.iaload, 1) := by decide +kernel
theorem d_Lw_law_186 : decode code 186 = .ok (.aload_n 0, 1) := by decide +kernel
theorem d_Lw_law_187 : decode code 187 = .ok (.iload_n 3, 1) := by decide +kernel
theorem d_Lw_law_188 : decode code 188 = .ok (.iconst 2, 1) := by decide +kernel
theorem d_Lw_law_189 : decode code 189 = .ok (.iadd, 1) := by decide +kernel
theorem d_Lw_law_190 : decode code 190 = .ok (.iaload, 1) := by decide +kernel
theorem d_Lw_law_191 : decode code 191 = .ok (.aload_n 0, 1) := by decide +kernel
theorem d_Lw_law_192 : decode code 192 = .ok (.iload_n 3, 1) := by decide +kernel
theorem d_Lw_law_193 : decode code 193 = .ok (.iconst 3, 1) := by decide +kernel
theorem d_Lw_law_194 : decode code 194 = .ok (.iadd, 1) := by decide +kernel
theorem d_Lw_law_195 : decode code 195 = .ok (.iaload, 1) := by decide +kernel
theorem d_Lw_law_196 : decode code 196 = .ok (.aload_n 0, 1) := by decide +kernel
theorem d_Lw_law_197 : decode code 197 = .ok (.iload_n 3, 1) := by decide +kernel
theorem d_Lw_law_198 : decode code 198 = .ok (.iconst 4, 1) := by decide +kernel
theorem d_Lw_law_199 : decode code 199 = .ok (.iadd, 1) := by decide +kernel
theorem d_Lw_law_200 : decode code 200 = .ok (.iaload, 1) := by decide +kernel
theorem d_Lw_law_201 : decode code 201 = .ok (.aload_n 0, 1) := by decide +kernel
theorem d_Lw_law_202 : decode code 202 = .ok (.iload_n 3, 1) := by decide +kernel
theorem d_Lw_law_203 : decode code 203 = .ok (.iconst 5, 1) := by decide +kernel
theorem d_Lw_law_204 : decode code 204 = .ok (.iadd, 1) := by decide +kernel
theorem d_Lw_law_205 : decode code 205 = .ok (.iaload, 1) := by decide +kernel
theorem d_Lw_law_206 : decode code 206 = .ok (.invokevirtual 23, 3) := by decide +kernel
theorem d_Lw_law_209 : decode code 209 = .ok (.pop, 1) := by decide +kernel
theorem d_Lw_law_210 : decode code 210 = .ok (.aload_n 2, 1) := by decide +kernel
theorem d_Lw_law_211 : decode code 211 = .ok (.aload_n 0, 1) := by decide +kernel
theorem d_Lw_law_212 : decode code 212 = .ok (.iload_n 3, 1) := by decide +kernel
theorem d_Lw_law_213 : decode code 213 = .ok (.iconst 1, 1) := by decide +kernel
theorem d_Lw_law_214 : decode code 214 = .ok (.iadd, 1) := by decide +kernel
theorem d_Lw_law_215 : decode code 215 = .ok (.iaload, 1) := by decide +kernel
theorem d_Lw_law_216 : decode code 216 = .ok (.aload_n 0, 1) := by decide +kernel
theorem d_Lw_law_217 : decode code 217 = .ok (.iload_n 3, 1) := by decide +kernel
theorem d_Lw_law_218 : decode code 218 = .ok (.iconst 2, 1) := by decide +kernel
theorem d_Lw_law_219 : decode code 219 = .ok (.iadd, 1) := by decide +kernel
theorem d_Lw_law_220 : decode code 220 = .ok (.iaload, 1) := by decide +kernel
theorem d_Lw_law_221 : decode code 221 = .ok (.aload_n 0, 1) := by decide +kernel
theorem d_Lw_law_222 : decode code 222 = .ok (.iload_n 3, 1) := by decide +kernel
theorem d_Lw_law_223 : decode code 223 = .ok (.iconst 3, 1) := by decide +kernel
theorem d_Lw_law_224 : decode code 224 = .ok (.iadd, 1) := by decide +kernel
theorem d_Lw_law_225 : decode code 225 = .ok (.iaload, 1) := by decide +kernel
theorem d_Lw_law_226 : decode code 226 = .ok (.aload_n 0, 1) := by decide +kernel
theorem d_Lw_law_227 : decode code 227 = .ok (.iload_n 3, 1) := by decide +kernel
theorem d_Lw_law_228 : decode code 228 = .ok (.iconst 4, 1) := by decide +kernel
theorem d_Lw_law_229 : decode code 229 = .ok (.iadd, 1) := by decide +kernel
theorem d_Lw_law_230 : decode code 230 = .ok (.iaload, 1) := by decide +kernel
theorem d_Lw_law_231 : decode code 231 = .ok (.aload_n 0, 1) := by decide +kernel
theorem d_Lw_law_232 : decode code 232 = .ok (.iload_n 3, 1) := by decide +kernel
theorem d_Lw_law_233 : decode code 233 = .ok (.iconst 5, 1) := by decide +kernel
theorem d_Lw_law_234 : decode code 234 = .ok (.iadd, 1) := by decide +kernel
theorem d_Lw_law_235 : decode code 235 = .ok (.iaload, 1) := by decide +kernel
theorem d_Lw_law_236 : decode code 236 = .ok (.invokevirtual 27, 3) := by decide +kernel
theorem d_Lw_law_239 : decode code 239 = .ok (.pop, 1) := by decide +kernel
theorem d_Lw_law_240 : decode code 240 = .ok (.goto 770, 3) := by decide +kernel
theorem d_Lw_law_243 : decode code 243 = .ok (.aload_n 1, 1) := by decide +kernel
theorem d_Lw_law_244 : decode code 244 = .ok (.aload_n 0, 1) := by decide +kernel
theorem d_Lw_law_245 : decode code 245 = .ok (.iload_n 3, 1) := by decide +kernel
theorem d_Lw_law_246 : decode code 246 = .ok (.iconst 1, 1) := by decide +kernel
theorem d_Lw_law_247 : decode code 247 = .ok (.iadd, 1) := by decide +kernel
theorem d_Lw_law_248 : decode code 248 = .ok (.iaload, 1) := by decide +kernel
theorem d_Lw_law_249 : decode code 249 = .ok (.invokevirtual 28, 3) := by decide +kernel
theorem d_Lw_law_252 : decode code 252 = .ok (.pop, 1) := by decide +kernel
theorem d_Lw_law_253 : decode code 253 = .ok (.aload_n 2, 1) := by decide +kernel
theorem d_Lw_law_254 : decode code 254 = .ok (.aload_n 0, 1) := by decide +kernel
theorem d_Lw_law_255 : decode code 255 = .ok (.iload_n 3, 1) := by decide +kernel
theorem d_Lw_law_256 : decode code 256 = .ok (.iconst 1, 1) := by decide +kernel
theorem d_Lw_law_257 : decode code 257 = .ok (.iadd, 1) := by decide +kernel
theorem d_Lw_law_258 : decode code 258 = .ok (.iaload, 1) := by decide +kernel
theorem d_Lw_law_259 : decode code 259 = .ok (.invokevirtual 31, 3) := by decide +kernel
theorem d_Lw_law_262 : decode code 262 = .ok (.pop, 1) := by decide +kernel
theorem d_Lw_law_263 : decode code 263 = .ok (.goto 747, 3) := by decide +kernel
theorem d_Lw_law_266 : decode code 266 = .ok (.aload_n 1, 1) := by decide +kernel
theorem d_Lw_law_267 : decode code 267 = .ok (.aload_n 0, 1) := by decide +kernel
theorem d_Lw_law_268 : decode code 268 = .ok (.iload_n 3, 1) := by decide +kernel
theorem d_Lw_law_269 : decode code 269 = .ok (.iconst 1, 1) := by decide +kernel
theorem d_Lw_law_270 : decode code 270 = .ok (.iadd, 1) := by decide +kernel
theorem d_Lw_law_271 : decode code 271 = .ok (.iaload, 1) := by decide +kernel
theorem d_Lw_law_272 : decode code 272 = .ok (.aload_n 0, 1) := by decide +kernel
theorem d_Lw_law_273 : decode code 273 = .ok (.iload_n 3, 1) := by decide +kernel
theorem d_Lw_law_274 : decode code 274 = .ok (.iconst 2, 1) := by decide +kernel
theorem d_Lw_law_275 : decode code 275 = .ok (.iadd, 1) := by decide +kernel
theorem d_Lw_law_276 : decode code 276 = .ok (.iaload, 1) := by decide +kernel
theorem d_Lw_law_277 : decode code 277 = .ok (.aload_n 0, 1) := by decide +kernel
theorem d_Lw_law_278 : decode code 278 = .ok (.iload_n 3, 1) := by decide +kernel
theorem d_Lw_law_279 : decode code 279 = .ok (.iconst 3, 1) := by decide +kernel
theorem d_Lw_law_280 : decode code 280 = .ok (.iadd, 1) := by decide +kernel
theorem d_Lw_law_281 : decode code 281 = .ok (.iaload, 1) := by decide +kernel
theorem d_Lw_law_282 : decode code 282 = .ok (.aload_n 0, 1) := by decide +kernel
theorem d_Lw_law_283 : decode code 283 = .ok (.iload_n 3, 1) := by decide +kernel
theorem d_Lw_law_284 : decode code 284 = .ok (.iconst 4, 1) := by decide +kernel
theorem d_Lw_law_285 : decode code 285 = .ok (.iadd, 1) := by decide +kernel
theorem d_Lw_law_286 : decode code 286 = .ok (.iaload, 1) := by decide +kernel
theorem d_Lw_law_287 : decode code 287 = .ok (.aload_n 0, 1) := by decide +kernel
theorem d_Lw_law_288 : decode code 288 = .ok (.iload_n 3, 1) := by decide +kernel
theorem d_Lw_law_289 : decode code 289 = .ok (.iconst 5, 1) := by decide +kernel
theorem d_Lw_law_290 : decode code 290 = .ok (.iadd, 1) := by decide +kernel
theorem d_Lw_law_291 : decode code 291 = .ok (.iaload, 1) := by decide +kernel
theorem d_Lw_law_292 : decode code 292 = .ok (.aload_n 0, 1) := by decide +kernel
theorem d_Lw_law_293 : decode code 293 = .ok (.iload_n 3, 1) := by decide +kernel
theorem d_Lw_law_294 : decode code 294 = .ok (.bipush 6, 2) := by decide +kernel
theorem d_Lw_law_296 : decode code 296 = .ok (.iadd, 1) := by decide +kernel
theorem d_Lw_law_297 : decode code 297 = .ok (.iaload, 1) := by decide +kernel
theorem d_Lw_law_298 : decode code 298 = .ok (.invokevirtual 32, 3) := by decide +kernel
theorem d_Lw_law_301 : decode code 301 = .ok (.pop, 1) := by decide +kernel
theorem d_Lw_law_302 : decode code 302 = .ok (.aload_n 2, 1) := by decide +kernel
theorem d_Lw_law_303 : decode code 303 = .ok (.aload_n 0, 1) := by decide +kernel
theorem d_Lw_law_304 : decode code 304 = .ok (.iload_n 3, 1) := by decide +kernel
theorem d_Lw_law_305 : decode code 305 = .ok (.iconst 1, 1) := by decide +kernel
theorem d_Lw_law_306 : decode code 306 = .ok (.iadd, 1) := by decide +kernel
theorem d_Lw_law_307 : decode code 307 = .ok (.iaload, 1) := by decide +kernel
theorem d_Lw_law_308 : decode code 308 = .ok (.aload_n 0, 1) := by decide +kernel
theorem d_Lw_law_309 : decode code 309 = .ok (.iload_n 3, 1) := by decide +kernel
theorem d_Lw_law_310 : decode code 310 = .ok (.iconst 2, 1) := by decide +kernel
theorem d_Lw_law_311 : decode code 311 = .ok (.iadd, 1) := by decide +kernel
theorem d_Lw_law_312 : decode code 312 = .ok (.iaload, 1) := by decide +kernel
theorem d_Lw_law_313 : decode code 313 = .ok (.aload_n 0, 1) := by decide +kernel
theorem d_Lw_law_314 : decode code 314 = .ok (.iload_n 3, 1) := by decide +kernel
theorem d_Lw_law_315 : decode code 315 = .ok (.iconst 3, 1) := by decide +kernel
theorem d_Lw_law_316 : decode code 316 = .ok (.iadd, 1) := by decide +kernel
theorem d_Lw_law_317 : decode code 317 = .ok (.iaload, 1) := by decide +kernel
theorem d_Lw_law_318 : decode code 318 = .ok (.aload_n 0, 1) := by decide +kernel
theorem d_Lw_law_319 : decode code 319 = .ok (.iload_n 3, 1) := by decide +kernel
theorem d_Lw_law_320 : decode code 320 = .ok (.iconst 4, 1) := by decide +kernel
theorem d_Lw_law_321 : decode code 321 = .ok (.iadd, 1) := by decide +kernel
theorem d_Lw_law_322 : decode code 322 = .ok (.iaload, 1) := by decide +kernel
theorem d_Lw_law_323 : decode code 323 = .ok (.aload_n 0, 1) := by decide +kernel
theorem d_Lw_law_324 : decode code 324 = .ok (.iload_n 3, 1) := by decide +kernel
theorem d_Lw_law_325 : decode code 325 = .ok (.iconst 5, 1) := by decide +kernel
theorem d_Lw_law_326 : decode code 326 = .ok (.iadd, 1) := by decide +kernel
theorem d_Lw_law_327 : decode code 327 = .ok (.iaload, 1) := by decide +kernel
theorem d_Lw_law_328 : decode code 328 = .ok (.aload_n 0, 1) := by decide +kernel
theorem d_Lw_law_329 : decode code 329 = .ok (.iload_n 3, 1) := by decide +kernel
theorem d_Lw_law_330 : decode code 330 = .ok (.bipush 6, 2) := by decide +kernel
theorem d_Lw_law_332 : decode code 332 = .ok (.iadd, 1) := by decide +kernel
theorem d_Lw_law_333 : decode code 333 = .ok (.iaload, 1) := by decide +kernel
theorem d_Lw_law_334 : decode code 334 = .ok (.invokevirtual 36, 3) := by decide +kernel
theorem d_Lw_law_337 : decode code 337 = .ok (.pop, 1) := by decide +kernel
theorem d_Lw_law_338 : decode code 338 = .ok (.goto 672, 3) := by decide +kernel
theorem d_Lw_law_341 : decode code 341 = .ok (.aload_n 1, 1) := by decide +kernel
theorem d_Lw_law_342 : decode code 342 = .ok (.aload_n 0, 1) := by decide +kernel
theorem d_Lw_law_343 : decode code 343 = .ok (.iload_n 3, 1) := by decide +kernel
theorem d_Lw_law_344 : decode code 344 = .ok (.iconst 1, 1) := by decide +kernel
theorem d_Lw_law_345 : decode code 345 = .ok (.iadd, 1) := by decide +kernel
theorem d_Lw_law_346 : decode code 346 = .ok (.iaload, 1) := by decide +kernel
theorem d_Lw_law_347 : decode code 347 = .ok (.aload_n 0, 1) := by decide +kernel
theorem d_Lw_law_348 : decode code 348 = .ok (.iload_n 3, 1) := by decide +kernel
theorem d_Lw_law_349 : decode code 349 = .ok (.iconst 2, 1) := by decide +kernel
theorem d_Lw_law_350 : decode code 350 = .ok (.iadd, 1) := by decide +kernel
theorem d_Lw_law_351 : decode code 351 = .ok (.iaload, 1) := by decide +kernel
theorem d_Lw_law_352 : decode code 352 = .ok (.aload_n 0, 1) := by decide +kernel
theorem d_Lw_law_353 : decode code 353 = .ok (.iload_n 3, 1) := by decide +kernel
theorem d_Lw_law_354 : decode code 354 = .ok (.iconst 3, 1) := by decide +kernel
theorem d_Lw_law_355 : decode code 355 = .ok (.iadd, 1) := by decide +kernel
theorem d_Lw_law_356 : decode code 356 = .ok (.iaload, 1) := by decide +kernel
theorem d_Lw_law_357 : decode code 357 = .ok (.aload_n 0, 1) := by decide +kernel
theorem d_Lw_law_358 : decode code 358 = .ok (.iload_n 3, 1) := by decide +kernel
theorem d_Lw_law_359 : decode code 359 = .ok (.iconst 4, 1) := by decide +kernel
theorem d_Lw_law_360 : decode code 360 = .ok (.iadd, 1) := by decide +kernel
theorem d_Lw_law_361 : decode code 361 = .ok (.iaload, 1) := by decide +kernel
theorem d_Lw_law_362 : decode code 362 = .ok (.aload_n 0, 1) := by decide +kernel
theorem d_Lw_law_363 : decode code 363 = .ok (.iload_n 3, 1) := by decide +kernel
theorem d_Lw_law_364 : decode code 364 = .ok (.iconst 5, 1) := by decide +kernel
theorem d_Lw_law_365 : decode code 365 = .ok (.iadd, 1) := by decide +kernel
theorem d_Lw_law_366 : decode code 366 = .ok (.iaload, 1) := by decide +kernel
theorem d_Lw_law_367 : decode code 367 = .ok (.invokevirtual 37, 3) := by decide +kernel
theorem d_Lw_law_370 : decode code 370 = .ok (.pop, 1) := by decide +kernel
theorem d_Lw_law_371 : decode code 371 = .ok (.aload_n 2, 1) := by decide +kernel
theorem d_Lw_law_372 : decode code 372 = .ok (.aload_n 0, 1) := by decide +kernel
theorem d_Lw_law_373 : decode code 373 = .ok (.iload_n 3, 1) := by decide +kernel
theorem d_Lw_law_374 : decode code 374 = .ok (.iconst 1, 1) := by decide +kernel
theorem d_Lw_law_375 : decode code 375 = .ok (.iadd, 1) := by decide +kernel
theorem d_Lw_law_376 : decode code 376 = .ok (.iaload, 1) := by decide +kernel
theorem d_Lw_law_377 : decode code 377 = .ok (.aload_n 0, 1) := by decide +kernel
theorem d_Lw_law_378 : decode code 378 = .ok (.iload_n 3, 1) := by decide +kernel
theorem d_Lw_law_379 : decode code 379 = .ok (.iconst 2, 1) := by decide +kernel
theorem d_Lw_law_380 : decode code 380 = .ok (.iadd, 1) := by decide +kernel
theorem d_Lw_law_381 : decode code 381 = .ok (.iaload, 1) := by decide +kernel
theorem d_Lw_law_382 : decode code 382 = .ok (.aload_n 0, 1) := by decide +kernel
theorem d_Lw_law_383 : decode code 383 = .ok (.iload_n 3, 1) := by decide +kernel
theorem d_Lw_law_384 : decode code 384 = .ok (.iconst 3, 1) := by decide +kernel
theorem d_Lw_law_385 : decode code 385 = .ok (.iadd, 1) := by decide +kernel
theorem d_Lw_law_386 : decode code 386 = .ok (.iaload, 1) := by decide +kernel
theorem d_Lw_law_387 : decode code 387 = .ok (.aload_n 0, 1) := by decide +kernel
theorem d_Lw_law_388 : decode code 388 = .ok (.iload_n 3, 1) := by decide +kernel
theorem d_Lw_law_389 : decode code 389 = .ok (.iconst 4, 1) := by decide +kernel
theorem d_Lw_law_390 : decode code 390 = .ok (.iadd, 1) := by decide +kernel
theorem d_Lw_law_391 : decode code 391 = .ok (.iaload, 1) := by decide +kernel
theorem d_Lw_law_392 : decode code 392 = .ok (.aload_n 0, 1) := by decide +kernel
theorem d_Lw_law_393 : decode code 393 = .ok (.iload_n 3, 1) := by decide +kernel
theorem d_Lw_law_394 : decode code 394 = .ok (.iconst 5, 1) := by decide +kernel
theorem d_Lw_law_395 : decode code 395 = .ok (.iadd, 1) := by decide +kernel
theorem d_Lw_law_396 : decode code 396 = .ok (.iaload, 1) := by decide +kernel
theorem d_Lw_law_397 : decode code 397 = .ok (.invokevirtual 40, 3) := by decide +kernel
theorem d_Lw_law_400 : decode code 400 = .ok (.pop, 1) := by decide +kernel
theorem d_Lw_law_401 : decode code 401 = .ok (.goto 609, 3) := by decide +kernel
theorem d_Lw_law_404 : decode code 404 = .ok (.aload_n 1, 1) := by decide +kernel
theorem d_Lw_law_405 : decode code 405 = .ok (.aload_n 0, 1) := by decide +kernel
theorem d_Lw_law_406 : decode code 406 = .ok (.iload_n 3, 1) := by decide +kernel
theorem d_Lw_law_407 : decode code 407 = .ok (.iconst 1, 1) := by decide +kernel
theorem d_Lw_law_408 : decode code 408 = .ok (.iadd, 1) := by decide +kernel
theorem d_Lw_law_409 : decode code 409 = .ok (.iaload, 1) := by decide +kernel
theorem d_Lw_law_410 : decode code 410 = .ok (.aload_n 0, 1) := by decide +kernel
theorem d_Lw_law_411 : decode code 411 = .ok (.iload_n 3, 1) := by decide +kernel
theorem d_Lw_law_412 : decode code 412 = .ok (.iconst 2, 1) := by decide +kernel
theorem d_Lw_law_413 : decode code 413 = .ok (.iadd, 1) := by decide +kernel
theorem d_Lw_law_414 : decode code 414 = .ok (.iaload, 1) := by decide +kernel
theorem d_Lw_law_415 : decode code 415 = .ok (.aload_n 0, 1) := by decide +kernel
theorem d_Lw_law_416 : decode code 416 = .ok (.iload_n 3, 1) := by decide +kernel
theorem d_Lw_law_417 : decode code 417 = .ok (.iconst 3, 1) := by decide +kernel
theorem d_Lw_law_418 : decode code 418 = .ok (.iadd, 1) := by decide +kernel
theorem d_Lw_law_419 : decode code 419 = .ok (.iaload, 1) := by decide +kernel
theorem d_Lw_law_420 : decode code 420 = .ok (.aload_n 0, 1) := by decide +kernel
theorem d_Lw_law_421 : decode code 421 = .ok (.iload_n 3, 1) := by decide +kernel
theorem d_Lw_law_422 : decode code 422 = .ok (.iconst 4, 1) := by decide +kernel
theorem d_Lw_law_423 : decode code 423 = .ok (.iadd, 1) := by decide +kernel
theorem d_Lw_law_424 : decode code 424 = .ok (.iaload, 1) := by decide +kernel
theorem d_Lw_law_425 : decode code 425 = .ok (.invokevirtual 41, 3) := by decide +kernel
theorem d_Lw_law_428 : decode code 428 = .ok (.pop, 1) := by decide +kernel
theorem d_Lw_law_429 : decode code 429 = .ok (.aload_n 2, 1) := by decide +kernel
theorem d_Lw_law_430 : decode code 430 = .ok (.aload_n 0, 1) := by decide +kernel
theorem d_Lw_law_431 : decode code 431 = .ok (.iload_n 3, 1) := by decide +kernel
theorem d_Lw_law_432 : decode code 432 = .ok (.iconst 1, 1) := by decide +kernel
theorem d_Lw_law_433 : decode code 433 = .ok (.iadd, 1) := by decide +kernel
theorem d_Lw_law_434 : decode code 434 = .ok (.iaload, 1) := by decide +kernel
theorem d_Lw_law_435 : decode code 435 = .ok (.aload_n 0, 1) := by decide +kernel
theorem d_Lw_law_436 : decode code 436 = .ok (.iload_n 3, 1) := by decide +kernel
theorem d_Lw_law_437 : decode code 437 = .ok (.iconst 2, 1) := by decide +kernel
theorem d_Lw_law_438 : decode code 438 = .ok (.iadd, 1) := by decide +kernel
theorem d_Lw_law_439 : decode code 439 = .ok (.iaload, 1) := by decide +kernel
theorem d_Lw_law_440 : decode code 440 = .ok (.aload_n 0, 1) := by decide +kernel
theorem d_Lw_law_441 : decode code 441 = .ok (.iload_n 3, 1) := by decide +kernel
theorem d_Lw_law_442 : decode code 442 = .ok (.iconst 3, 1) := by decide +kernel
theorem d_Lw_law_443 : decode code 443 = .ok (.iadd, 1) := by decide +kernel
theorem d_Lw_law_444 : decode code 444 = .ok (.iaload, 1) := by decide +kernel
theorem d_Lw_law_445 : decode code 445 = .ok (.aload_n 0, 1) := by decide +kernel
theorem d_Lw_law_446 : decode code 446 = .ok (.iload_n 3, 1) := by decide +kernel
theorem d_Lw_law_447 : decode code 447 = .ok (.iconst 4, 1) := by decide +kernel
theorem d_Lw_law_448 : decode code 448 = .ok (.iadd, 1) := by decide +kernel
theorem d_Lw_law_449 : decode code 449 = .ok (.iaload, 1) := by decide +kernel
theorem d_Lw_law_450 : decode code 450 = .ok (.invokevirtual 45, 3) := by decide +kernel
theorem d_Lw_law_453 : decode code 453 = .ok (.pop, 1) := by decide +kernel
theorem d_Lw_law_454 : decode code 454 = .ok (.goto 556, 3) := by decide +kernel
theorem d_Lw_law_457 : decode code 457 = .ok (.aload_n 1, 1) := by decide +kernel
theorem d_Lw_law_458 : decode code 458 = .ok (.aload_n 0, 1) := by decide +kernel
theorem d_Lw_law_459 : decode code 459 = .ok (.iload_n 3, 1) := by decide +kernel
theorem d_Lw_law_460 : decode code 460 = .ok (.iconst 1, 1) := by decide +kernel
theorem d_Lw_law_461 : decode code 461 = .ok (.iadd, 1) := by decide +kernel
theorem d_Lw_law_462 : decode code 462 = .ok (.iaload, 1) := by decide +kernel
theorem d_Lw_law_463 : decode code 463 = .ok (.aload_n 0, 1) := by decide +kernel
theorem d_Lw_law_464 : decode code 464 = .ok (.iload_n 3, 1) := by decide +kernel
theorem d_Lw_law_465 : decode code 465 = .ok (.iconst 2, 1) := by decide +kernel
theorem d_Lw_law_466 : decode code 466 = .ok (.iadd, 1) := by decide +kernel
theorem d_Lw_law_467 : decode code 467 = .ok (.iaload, 1) := by decide +kernel
theorem d_Lw_law_468 : decode code 468 = .ok (.invokevirtual 46, 3) := by decide +kernel
theorem d_Lw_law_471 : decode code 471 = .ok (.pop, 1) := by decide +kernel
theorem d_Lw_law_472 : decode code 472 = .ok (.aload_n 2, 1) := by decide +kernel
theorem d_Lw_law_473 : decode code 473 = .ok (.aload_n 0, 1) := by decide +kernel
theorem d_Lw_law_474 : decode code 474 = .ok (.iload_n 3, 1) := by decide +kernel
theorem d_Lw_law_475 : decode code 475 = .ok (.iconst 1, 1) := by decide +kernel
theorem d_Lw_law_476 : decode code 476 = .ok (.iadd, 1) := by decide +kernel
theorem d_Lw_law_477 : decode code 477 = .ok (.iaload, 1) := by decide +kernel
theorem d_Lw_law_478 : decode code 478 = .ok (.aload_n 0, 1) := by decide +kernel
theorem d_Lw_law_479 : decode code 479 = .ok (.iload_n 3, 1) := by decide +kernel
theorem d_Lw_law_480 : decode code 480 = .ok (.iconst 2, 1) := by decide +kernel
theorem d_Lw_law_481 : decode code 481 = .ok (.iadd, 1) := by decide +kernel
theorem d_Lw_law_482 : decode code 482 = .ok (.iaload, 1) := by decide +kernel
theorem d_Lw_law_483 : decode code 483 = .ok (.invokevirtual 50, 3) := by decide +kernel
theorem d_Lw_law_486 : decode code 486 = .ok (.pop, 1) := by decide +kernel
theorem d_Lw_law_487 : decode code 487 = .ok (.goto 523, 3) := by decide +kernel
theorem d_Lw_law_490 : decode code 490 = .ok (.aload_n 1, 1) := by decide +kernel
theorem d_Lw_law_491 : decode code 491 = .ok (.aload_n 0, 1) := by decide +kernel
theorem d_Lw_law_492 : decode code 492 = .ok (.iload_n 3, 1) := by decide +kernel
theorem d_Lw_law_493 : decode code 493 = .ok (.iconst 1, 1) := by decide +kernel
theorem d_Lw_law_494 : decode code 494 = .ok (.iadd, 1) := by decide +kernel
theorem d_Lw_law_495 : decode code 495 = .ok (.iaload, 1) := by decide +kernel
theorem d_Lw_law_496 : decode code 496 = .ok (.aload_n 0, 1) := by decide +kernel
theorem d_Lw_law_497 : decode code 497 = .ok (.iload_n 3, 1) := by decide +kernel
theorem d_Lw_law_498 : decode code 498 = .ok (.iconst 2, 1) := by decide +kernel
theorem d_Lw_law_499 : decode code 499 = .ok (.iadd, 1) := by decide +kernel
theorem d_Lw_law_500 : decode code 500 = .ok (.iaload, 1) := by decide +kernel
theorem d_Lw_law_501 : decode code 501 = .ok (.invokevirtual 51, 3) := by decide +kernel
theorem d_Lw_law_504 : decode code 504 = .ok (.pop, 1) := by decide +kernel
theorem d_Lw_law_505 : decode code 505 = .ok (.aload_n 2, 1) := by decide +kernel
theorem d_Lw_law_506 : decode code 506 = .ok (.aload_n 0, 1) := by decide +kernel
theorem d_Lw_law_507 : decode code 507 = .ok (.iload_n 3, 1) := by decide +kernel
theorem d_Lw_law_508 : decode code 508 = .ok (.iconst 1, 1) := by decide +kernel
theorem d_Lw_law_509 : decode code 509 = .ok (.iadd, 1) := by decide +kernel
theorem d_Lw_law_510 : decode code 510 = .ok (.iaload, 1) := by decide +kernel
theorem d_Lw_law_511 : decode code 511 = .ok (.aload_n 0, 1) := by decide +kernel
theorem d_Lw_law_512 : decode code 512 = .ok (.iload_n 3, 1) := by decide +kernel
theorem d_Lw_law_513 : decode code 513 = .ok (.iconst 2, 1) := by decide +kernel
theorem d_Lw_law_514 : decode code 514 = .ok (.iadd, 1) := by decide +kernel
theorem d_Lw_law_515 : decode code 515 = .ok (.iaload, 1) := by decide +kernel
theorem d_Lw_law_516 : decode code 516 = .ok (.invokevirtual 54, 3) := by decide +kernel
theorem d_Lw_law_519 : decode code 519 = .ok (.pop, 1) := by decide +kernel
theorem d_Lw_law_520 : decode code 520 = .ok (.goto 490, 3) := by decide +kernel
theorem d_Lw_law_523 : decode code 523 = .ok (.aload_n 1, 1) := by decide +kernel
theorem d_Lw_law_524 : decode code 524 = .ok (.aload_n 0, 1) := by decide +kernel
theorem d_Lw_law_525 : decode code 525 = .ok (.iload_n 3, 1) := by decide +kernel
theorem d_Lw_law_526 : decode code 526 = .ok (.iconst 1, 1) := by decide +kernel
theorem d_Lw_law_527 : decode code 527 = .ok (.iadd, 1) := by decide +kernel
theorem d_Lw_law_528 : decode code 528 = .ok (.iaload, 1) := by decide +kernel
theorem d_Lw_law_529 : decode code 529 = .ok (.aload_n 0, 1) := by decide +kernel
theorem d_Lw_law_530 : decode code 530 = .ok (.iload_n 3, 1) := by decide +kernel
theorem d_Lw_law_531 : decode code 531 = .ok (.iconst 2, 1) := by decide +kernel
theorem d_Lw_law_532 : decode code 532 = .ok (.iadd, 1) := by decide +kernel
theorem d_Lw_law_533 : decode code 533 = .ok (.iaload, 1) := by decide +kernel
theorem d_Lw_law_534 : decode code 534 = .ok (.aload_n 0, 1) := by decide +kernel
theorem d_Lw_law_535 : decode code 535 = .ok (.iload_n 3, 1) := by decide +kernel
theorem d_Lw_law_536 : decode code 536 = .ok (.iconst 3, 1) := by decide +kernel
theorem d_Lw_law_537 : decode code 537 = .ok (.iadd, 1) := by decide +kernel
theorem d_Lw_law_538 : decode code 538 = .ok (.iaload, 1) := by decide +kernel
theorem d_Lw_law_539 : decode code 539 = .ok (.aload_n 0, 1) := by decide +kernel
theorem d_Lw_law_540 : decode code 540 = .ok (.iload_n 3, 1) := by decide +kernel
theorem d_Lw_law_541 : decode code 541 = .ok (.iconst 4, 1) := by decide +kernel
theorem d_Lw_law_542 : decode code 542 = .ok (.iadd, 1) := by decide +kernel
theorem d_Lw_law_543 : decode code 543 = .ok (.iaload, 1) := by decide +kernel
theorem d_Lw_law_544 : decode code 544 = .ok (.aload_n 0, 1) := by decide +kernel
theorem d_Lw_law_545 : decode code 545 = .ok (.iload_n 3, 1) := by decide +kernel
theorem d_Lw_law_546 : decode code 546 = .ok (.iconst 5, 1) := by decide +kernel
theorem d_Lw_law_547 : decode code 547 = .ok (.iadd, 1) := by decide +kernel
theorem d_Lw_law_548 : decode code 548 = .ok (.iaload, 1) := by decide +kernel
theorem d_Lw_law_549 : decode code 549 = .ok (.aload_n 0, 1) := by decide +kernel
theorem d_Lw_law_550 : decode code 550 = .ok (.iload_n 3, 1) := by decide +kernel
theorem d_Lw_law_551 : decode code 551 = .ok (.bipush 6, 2) := by decide +kernel
theorem d_Lw_law_553 : decode code 553 = .ok (.iadd, 1) := by decide +kernel
theorem d_Lw_law_554 : decode code 554 = .ok (.iaload, 1) := by decide +kernel
theorem d_Lw_law_555 : decode code 555 = .ok (.invokevirtual 55, 3) := by decide +kernel
theorem d_Lw_law_558 : decode code 558 = .ok (.pop, 1) := by decide +kernel
theorem d_Lw_law_559 : decode code 559 = .ok (.aload_n 2, 1) := by decide +kernel
theorem d_Lw_law_560 : decode code 560 = .ok (.aload_n 0, 1) := by decide +kernel
theorem d_Lw_law_561 : decode code 561 = .ok (.iload_n 3, 1) := by decide +kernel
theorem d_Lw_law_562 : decode code 562 = .ok (.iconst 1, 1) := by decide +kernel
theorem d_Lw_law_563 : decode code 563 = .ok (.iadd, 1) := by decide +kernel
theorem d_Lw_law_564 : decode code 564 = .ok (.iaload, 1) := by decide +kernel
theorem d_Lw_law_565 : decode code 565 = .ok (.aload_n 0, 1) := by decide +kernel
theorem d_Lw_law_566 : decode code 566 = .ok (.iload_n 3, 1) := by decide +kernel
theorem d_Lw_law_567 : decode code 567 = .ok (.iconst 2, 1) := by decide +kernel
theorem d_Lw_law_568 : decode code 568 = .ok (.iadd, 1) := by decide +kernel
theorem d_Lw_law_569 : decode code 569 = .ok (.iaload, 1) := by decide +kernel
theorem d_Lw_law_570 : decode code 570 = .ok (.aload_n 0, 1) := by decide +kernel
theorem d_Lw_law_571 : decode code 571 = .ok (.iload_n 3, 1) := by decide +kernel
theorem d_Lw_law_572 : decode code 572 = .ok (.iconst 3, 1) := by decide +kernel
theorem d_Lw_law_573 : decode code 573 = .ok (.iadd, 1) := by decide +kernel
theorem d_Lw_law_574 : decode code 574 = .ok (.iaload, 1) := by decide +kernel
theorem d_Lw_law_575 : decode code 575 = .ok (.aload_n 0, 1) := by decide +kernel
theorem d_Lw_law_576 : decode code 576 = .ok (.iload_n 3, 1) := by decide +kernel
theorem d_Lw_law_577 : decode code 577 = .ok (.iconst 4, 1) := by decide +kernel
theorem d_Lw_law_578 : decode code 578 = .ok (.iadd, 1) := by decide +kernel
theorem d_Lw_law_579 : decode code 579 = .ok (.iaload, 1) := by decide +kernel
theorem d_Lw_law_580 : decode code 580 = .ok (.aload_n 0, 1) := by decide +kernel
theorem d_Lw_law_581 : decode code 581 = .ok (.iload_n 3, 1) := by decide +kernel
theorem d_Lw_law_582 : decode code 582 = .ok (.iconst 5, 1) := by decide +kernel
theorem d_Lw_law_583 : decode code 583 = .ok (.iadd, 1) := by decide +kernel
theorem d_Lw_law_584 : decode code 584 = .ok (.iaload, 1) := by decide +kernel
theorem d_Lw_law_585 : decode code 585 = .ok (.aload_n 0, 1) := by decide +kernel
theorem d_Lw_law_586 : decode code 586 = .ok (.iload_n 3, 1) := by decide +kernel
theorem d_Lw_law_587 : decode code 587 = .ok (.bipush 6, 2) := by decide +kernel
theorem d_Lw_law_589 : decode code 589 = .ok (.iadd, 1) := by decide +kernel
theorem d_Lw_law_590 : decode code 590 = .ok (.iaload, 1) := by decide +kernel
theorem d_Lw_law_591 : decode code 591 = .ok (.invokevirtual 58, 3) := by decide +kernel
theorem d_Lw_law_594 : decode code 594 = .ok (.pop, 1) := by decide +kernel
theorem d_Lw_law_595 : decode code 595 = .ok (.goto 415, 3) := by decide +kernel
theorem d_Lw_law_598 : decode code 598 = .ok (.aload_n 1, 1) := by decide +kernel
theorem d_Lw_law_599 : decode code 599 = .ok (.aload_n 0, 1) := by decide +kernel
theorem d_Lw_law_600 : decode code 600 = .ok (.iload_n 3, 1) := by decide +kernel
theorem d_Lw_law_601 : decode code 601 = .ok (.iconst 1, 1) := by decide +kernel
theorem d_Lw_law_602 : decode code 602 = .ok (.iadd, 1) := by decide +kernel
theorem d_Lw_law_603 : decode code 603 = .ok (.iaload, 1) := by decide +kernel
theorem d_Lw_law_604 : decode code 604 = .ok (.aload_n 0, 1) := by decide +kernel
theorem d_Lw_law_605 : decode code 605 = .ok (.iload_n 3, 1) := by decide +kernel
theorem d_Lw_law_606 : decode code 606 = .ok (.iconst 2, 1) := by decide +kernel
theorem d_Lw_law_607 : decode code 607 = .ok (.iadd, 1) := by decide +kernel
theorem d_Lw_law_608 : decode code 608 = .ok (.iaload, 1) := by decide +kernel
theorem d_Lw_law_609 : decode code 609 = .ok (.aload_n 0, 1) := by decide +kernel
theorem d_Lw_law_610 : decode code 610 = .ok (.iload_n 3, 1) := by decide +kernel
theorem d_Lw_law_611 : decode code 611 = .ok (.iconst 3, 1) := by decide +kernel
theorem d_Lw_law_612 : decode code 612 = .ok (.iadd, 1) := by decide +kernel
theorem d_Lw_law_613 : decode code 613 = .ok (.iaload, 1) := by decide +kernel
theorem d_Lw_law_614 : decode code 614 = .ok (.aload_n 0, 1) := by decide +kernel
theorem d_Lw_law_615 : decode code 615 = .ok (.iload_n 3, 1) := by decide +kernel
theorem d_Lw_law_616 : decode code 616 = .ok (.iconst 4, 1) := by decide +kernel
theorem d_Lw_law_617 : decode code 617 = .ok (.iadd, 1) := by decide +kernel
theorem d_Lw_law_618 : decode code 618 = .ok (.iaload, 1) := by decide +kernel
theorem d_Lw_law_619 : decode code 619 = .ok (.aload_n 0, 1) := by decide +kernel
theorem d_Lw_law_620 : decode code 620 = .ok (.iload_n 3, 1) := by decide +kernel
theorem d_Lw_law_621 : decode code 621 = .ok (.iconst 5, 1) := by decide +kernel
theorem d_Lw_law_622 : decode code 622 = .ok (.iadd, 1) := by decide +kernel
theorem d_Lw_law_623 : decode code 623 = .ok (.iaload, 1) := by decide +kernel
theorem d_Lw_law_624 : decode code 624 = .ok (.invokevirtual 59, 3) := by decide +kernel
theorem d_Lw_law_627 : decode code 627 = .ok (.pop, 1) := by decide +kernel
theorem d_Lw_law_628 : decode code 628 = .ok (.aload_n 2, 1) := by decide +kernel
theorem d_Lw_law_629 : decode code 629 = .ok (.aload_n 0, 1) := by decide +kernel
theorem d_Lw_law_630 : decode code 630 = .ok (.iload_n 3, 1) := by decide +kernel
theorem d_Lw_law_631 : decode code 631 = .ok (.iconst 1, 1) := by decide +kernel
theorem d_Lw_law_632 : decode code 632 = .ok (.iadd, 1) := by decide +kernel
theorem d_Lw_law_633 : decode code 633 = .ok (.iaload, 1) := by decide +kernel
theorem d_Lw_law_634 : decode code 634 = .ok (.aload_n 0, 1) := by decide +kernel
theorem d_Lw_law_635 : decode code 635 = .ok (.iload_n 3, 1) := by decide +kernel
theorem d_Lw_law_636 : decode code 636 = .ok (.iconst 2, 1) := by decide +kernel
theorem d_Lw_law_637 : decode code 637 = .ok (.iadd, 1) := by decide +kernel
theorem d_Lw_law_638 : decode code 638 = .ok (.iaload, 1) := by decide +kernel
theorem d_Lw_law_639 : decode code 639 = .ok (.aload_n 0, 1) := by decide +kernel
theorem d_Lw_law_640 : decode code 640 = .ok (.iload_n 3, 1) := by decide +kernel
theorem d_Lw_law_641 : decode code 641 = .ok (.iconst 3, 1) := by decide +kernel
theorem d_Lw_law_642 : decode code 642 = .ok (.iadd, 1) := by decide +kernel
theorem d_Lw_law_643 : decode code 643 = .ok (.iaload, 1) := by decide +kernel
theorem d_Lw_law_644 : decode code 644 = .ok (.aload_n 0, 1) := by decide +kernel
theorem d_Lw_law_645 : decode code 645 = .ok (.iload_n 3, 1) := by decide +kernel
theorem d_Lw_law_646 : decode code 646 = .ok (.iconst 4, 1) := by decide +kernel
theorem d_Lw_law_647 : decode code 647 = .ok (.iadd, 1) := by decide +kernel
theorem d_Lw_law_648 : decode code 648 = .ok (.iaload, 1) := by decide +kernel
theorem d_Lw_law_649 : decode code 649 = .ok (.aload_n 0, 1) := by decide +kernel
theorem d_Lw_law_650 : decode code 650 = .ok (.iload_n 3, 1) := by decide +kernel
theorem d_Lw_law_651 : decode code 651 = .ok (.iconst 5, 1) := by decide +kernel
theorem d_Lw_law_652 : decode code 652 = .ok (.iadd, 1) := by decide +kernel
theorem d_Lw_law_653 : decode code 653 = .ok (.iaload, 1) := by decide +kernel
theorem d_Lw_law_654 : decode code 654 = .ok (.invokevirtual 62, 3) := by decide +kernel
theorem d_Lw_law_657 : decode code 657 = .ok (.pop, 1) := by decide +kernel
theorem d_Lw_law_658 : decode code 658 = .ok (.goto 352, 3) := by decide +kernel
theorem d_Lw_law_661 : decode code 661 = .ok (.aload_n 1, 1) := by decide +kernel
theorem d_Lw_law_662 : decode code 662 = .ok (.aload_n 0, 1) := by decide +kernel
theorem d_Lw_law_663 : decode code 663 = .ok (.iload_n 3, 1) := by decide +kernel
theorem d_Lw_law_664 : decode code 664 = .ok (.iconst 1, 1) := by decide +kernel
theorem d_Lw_law_665 : decode code 665 = .ok (.iadd, 1) := by decide +kernel
theorem d_Lw_law_666 : decode code 666 = .ok (.iaload, 1) := by decide +kernel
theorem d_Lw_law_667 : decode code 667 = .ok (.invokevirtual 63, 3) := by decide +kernel
theorem d_Lw_law_670 : decode code 670 = .ok (.pop, 1) := by decide +kernel
theorem d_Lw_law_671 : decode code 671 = .ok (.aload_n 2, 1) := by decide +kernel
theorem d_Lw_law_672 : decode code 672 = .ok (.aload_n 0, 1) := by decide +kernel
theorem d_Lw_law_673 : decode code 673 = .ok (.iload_n 3, 1) := by decide +kernel
theorem d_Lw_law_674 : decode code 674 = .ok (.iconst 1, 1) := by decide +kernel
theorem d_Lw_law_675 : decode code 675 = .ok (.iadd, 1) := by decide +kernel
theorem d_Lw_law_676 : decode code 676 = .ok (.iaload, 1) := by decide +kernel
theorem d_Lw_law_677 : decode code 677 = .ok (.invokevirtual 66, 3) := by decide +kernel
theorem d_Lw_law_680 : decode code 680 = .ok (.pop, 1) := by decide +kernel
theorem d_Lw_law_681 : decode code 681 = .ok (.goto 329, 3) := by decide +kernel
theorem d_Lw_law_684 : decode code 684 = .ok (.aload_n 1, 1) := by decide +kernel
theorem d_Lw_law_685 : decode code 685 = .ok (.aload_n 0, 1) := by decide +kernel
theorem d_Lw_law_686 : decode code 686 = .ok (.iload_n 3, 1) := by decide +kernel
theorem d_Lw_law_687 : decode code 687 = .ok (.iconst 1, 1) := by decide +kernel
theorem d_Lw_law_688 : decode code 688 = .ok (.iadd, 1) := by decide +kernel
theorem d_Lw_law_689 : decode code 689 = .ok (.iaload, 1) := by decide +kernel
theorem d_Lw_law_690 : decode code 690 = .ok (.aload_n 0, 1) := by decide +kernel
theorem d_Lw_law_691 : decode code 691 = .ok (.iload_n 3, 1) := by decide +kernel
theorem d_Lw_law_692 : decode code 692 = .ok (.iconst 2, 1) := by decide +kernel
theorem d_Lw_law_693 : decode code 693 = .ok (.iadd, 1) := by decide +kernel
theorem d_Lw_law_694 : decode code 694 = .ok (.iaload, 1) := by decide +kernel
theorem d_Lw_law_695 : decode code 695 = .ok (.invokevirtual 67, 3) := by decide +kernel
theorem d_Lw_law_698 : decode code 698 = .ok (.pop, 1) := by decide +kernel
theorem d_Lw_law_699 : decode code 699 = .ok (.aload_n 2, 1) := by decide +kernel
theorem d_Lw_law_700 : decode code 700 = .ok (.aload_n 0, 1) := by decide +kernel
theorem d_Lw_law_701 : decode code 701 = .ok (.iload_n 3, 1) := by decide +kernel
theorem d_Lw_law_702 : decode code 702 = .ok (.iconst 1, 1) := by decide +kernel
theorem d_Lw_law_703 : decode code 703 = .ok (.iadd, 1) := by decide +kernel
theorem d_Lw_law_704 : decode code 704 = .ok (.iaload, 1) := by decide +kernel
theorem d_Lw_law_705 : decode code 705 = .ok (.aload_n 0, 1) := by decide +kernel
theorem d_Lw_law_706 : decode code 706 = .ok (.iload_n 3, 1) := by decide +kernel
theorem d_Lw_law_707 : decode code 707 = .ok (.iconst 2, 1) := by decide +kernel
theorem d_Lw_law_708 : decode code 708 = .ok (.iadd, 1) := by decide +kernel
theorem d_Lw_law_709 : decode code 709 = .ok (.iaload, 1) := by decide +kernel
theorem d_Lw_law_710 : decode code 710 = .ok (.invokevirtual 70, 3) := by decide +kernel
theorem d_Lw_law_713 : decode code 713 = .ok (.pop, 1) := by decide +kernel
theorem d_Lw_law_714 : decode code 714 = .ok (.goto 296, 3) := by decide +kernel
theorem d_Lw_law_717 : decode code 717 = .ok (.aload_n 1, 1) := by decide +kernel
theorem d_Lw_law_718 : decode code 718 = .ok (.invokevirtual 71, 3) := by decide +kernel
theorem d_Lw_law_721 : decode code 721 = .ok (.pop, 1) := by decide +kernel
theorem d_Lw_law_722 : decode code 722 = .ok (.aload_n 2, 1) := by decide +kernel
theorem d_Lw_law_723 : decode code 723 = .ok (.invokevirtual 74, 3) := by decide +kernel
theorem d_Lw_law_726 : decode code 726 = .ok (.pop, 1) := by decide +kernel
theorem d_Lw_law_727 : decode code 727 = .ok (.goto 283, 3) := by decide +kernel
theorem d_Lw_law_730 : decode code 730 = .ok (.aload_n 1, 1) := by decide +kernel
theorem d_Lw_law_731 : decode code 731 = .ok (.aload_n 0, 1) := by decide +kernel
theorem d_Lw_law_732 : decode code 732 = .ok (.iload_n 3, 1) := by decide +kernel
theorem d_Lw_law_733 : decode code 733 = .ok (.iconst 1, 1) := by decide +kernel
theorem d_Lw_law_734 : decode code 734 = .ok (.iadd, 1) := by decide +kernel
theorem d_Lw_law_735 : decode code 735 = .ok (.iaload, 1) := by decide +kernel
theorem d_Lw_law_736 : decode code 736 = .ok (.invokevirtual 75, 3) := by decide +kernel
theorem d_Lw_law_739 : decode code 739 = .ok (.pop, 1) := by decide +kernel
theorem d_Lw_law_740 : decode code 740 = .ok (.aload_n 2, 1) := by decide +kernel
theorem d_Lw_law_741 : decode code 741 = .ok (.aload_n 0, 1) := by decide +kernel
theorem d_Lw_law_742 : decode code 742 = .ok (.iload_n 3, 1) := by decide +kernel
theorem d_Lw_law_743 : decode code 743 = .ok (.iconst 1, 1) := by decide +kernel
theorem d_Lw_law_744 : decode code 744 = .ok (.iadd, 1) := by decide +kernel
theorem d_Lw_law_745 : decode code 745 = .ok (.iaload, 1) := by decide +kernel
theorem d_Lw_law_746 : decode code 746 = .ok (.invokevirtual 78, 3) := by decide +kernel
theorem d_Lw_law_749 : decode code 749 = .ok (.pop, 1) := by decide +kernel
theorem d_Lw_law_750 : decode code 750 = .ok (.goto 260, 3) := by decide +kernel
theorem d_Lw_law_753 : decode code 753 = .ok (.aload_n 1, 1) := by decide +kernel
theorem d_Lw_law_754 : decode code 754 = .ok (.aload_n 0, 1) := by decide +kernel
theorem d_Lw_law_755 : decode code 755 = .ok (.iload_n 3, 1) := by decide +kernel
theorem d_Lw_law_756 : decode code 756 = .ok (.iconst 1, 1) := by decide +kernel
theorem d_Lw_law_757 : decode code 757 = .ok (.iadd, 1) := by decide +kernel
theorem d_Lw_law_758 : decode code 758 = .ok (.iaload, 1) := by decide +kernel
theorem d_Lw_law_759 : decode code 759 = .ok (.invokevirtual 79, 3) := by decide +kernel
theorem d_Lw_law_762 : decode code 762 = .ok (.pop, 1) := by decide +kernel
theorem d_Lw_law_763 : decode code 763 = .ok (.aload_n 2, 1) := by decide +kernel
theorem d_Lw_law_764 : decode code 764 = .ok (.aload_n 0, 1) := by decide +kernel
theorem d_Lw_law_765 : decode code 765 = .ok (.iload_n 3, 1) := by decide +kernel
theorem d_Lw_law_766 : decode code 766 = .ok (.iconst 1, 1) := by decide +kernel
theorem d_Lw_law_767 : decode code 767 = .ok (.iadd, 1) := by decide +kernel
theorem d_Lw_law_768 : decode code 768 = .ok (.iaload, 1) := by decide +kernel
theorem d_Lw_law_769 : decode code 769 = .ok (.invokevirtual 82, 3) := by decide +kernel
theorem d_Lw_law_772 : decode code 772 = .ok (.pop, 1) := by decide +kernel
theorem d_Lw_law_773 : decode code 773 = .ok (.goto 237, 3) := by decide +kernel
theorem d_Lw_law_776 : decode code 776 = .ok (.aload_n 1, 1) := by decide +kernel
theorem d_Lw_law_777 : decode code 777 = .ok (.aload_n 0, 1) := by decide +kernel
theorem d_Lw_law_778 : decode code 778 = .ok (.iload_n 3, 1) := by decide +kernel
theorem d_Lw_law_779 : decode code 779 = .ok (.iconst 1, 1) := by decide +kernel
theorem d_Lw_law_780 : decode code 780 = .ok (.iadd, 1) := by decide +kernel
theorem d_Lw_law_781 : decode code 781 = .ok (.iaload, 1) := by decide +kernel
theorem d_Lw_law_782 : decode code 782 = .ok (.aload_n 0, 1) := by decide +kernel
theorem d_Lw_law_783 : decode code 783 = .ok (.iload_n 3, 1) := by decide +kernel
theorem d_Lw_law_784 : decode code 784 = .ok (.iconst 2, 1) := by decide +kernel
theorem d_Lw_law_785 : decode code 785 = .ok (.iadd, 1) := by decide +kernel
theorem d_Lw_law_786 : decode code 786 = .ok (.iaload, 1) := by decide +kernel
theorem d_Lw_law_787 : decode code 787 = .ok (.aload_n 0, 1) := by decide +kernel
theorem d_Lw_law_788 : decode code 788 = .ok (.iload_n 3, 1) := by decide +kernel
theorem d_Lw_law_789 : decode code 789 = .ok (.iconst 3, 1) := by decide +kernel
theorem d_Lw_law_790 : decode code 790 = .ok (.iadd, 1) := by decide +kernel
theorem d_Lw_law_791 : decode code 791 = .ok (.iaload, 1) := by decide +kernel
theorem d_Lw_law_792 : decode code 792 = .ok (.invokevirtual 83, 3) := by decide +kernel
theorem d_Lw_law_795 : decode code 795 = .ok (.pop, 1) := by decide +kernel
theorem d_Lw_law_796 : decode code 796 = .ok (.aload_n 2, 1) := by decide +kernel
theorem d_Lw_law_797 : decode code 797 = .ok (.aload_n 0, 1) := by decide +kernel
theorem d_Lw_law_798 : decode code 798 = .ok (.iload_n 3, 1) := by decide +kernel
theorem d_Lw_law_799 : decode code 799 = .ok (.iconst 1, 1) := by decide +kernel
theorem d_Lw_law_800 : decode code 800 = .ok (.iadd, 1) := by decide +kernel
theorem d_Lw_law_801 : decode code 801 = .ok (.iaload, 1) := by decide +kernel
theorem d_Lw_law_802 : decode code 802 = .ok (.aload_n 0, 1) := by decide +kernel
theorem d_Lw_law_803 : decode code 803 = .ok (.iload_n 3, 1) := by decide +kernel
theorem d_Lw_law_804 : decode code 804 = .ok (.iconst 2, 1) := by decide +kernel
theorem d_Lw_law_805 : decode code 805 = .ok (.iadd, 1) := by decide +kernel
theorem d_Lw_law_806 : decode code 806 = .ok (.iaload, 1) := by decide +kernel
theorem d_Lw_law_807 : decode code 807 = .ok (.aload_n 0, 1) := by decide +kernel
theorem d_Lw_law_808 : decode code 808 = .ok (.iload_n 3, 1) := by decide +kernel
theorem d_Lw_law_809 : decode code 809 = .ok (.iconst 3, 1) := by decide +kernel
theorem d_Lw_law_810 : decode code 810 = .ok (.iadd, 1) := by decide +kernel
theorem d_Lw_law_811 : decode code 811 = .ok (.iaload, 1) := by decide +kernel
theorem d_Lw_law_812 : decode code 812 = .ok (.invokevirtual 87, 3) := by decide +kernel
theorem d_Lw_law_815 : decode code 815 = .ok (.pop, 1) := by decide +kernel
theorem d_Lw_law_816 : decode code 816 = .ok (.goto 194, 3) := by decide +kernel
theorem d_Lw_law_819 : decode code 819 = .ok (.aload_n 1, 1) := by decide +kernel
theorem d_Lw_law_820 : decode code 820 = .ok (.aload_n 0, 1) := by decide +kernel
theorem d_Lw_law_821 : decode code 821 = .ok (.iload_n 3, 1) := by decide +kernel
theorem d_Lw_law_822 : decode code 822 = .ok (.iconst 1, 1) := by decide +kernel
theorem d_Lw_law_823 : decode code 823 = .ok (.iadd, 1) := by decide +kernel
theorem d_Lw_law_824 : decode code 824 = .ok (.iaload, 1) := by decide +kernel
theorem d_Lw_law_825 : decode code 825 = .ok (.aload_n 0, 1) := by decide +kernel
theorem d_Lw_law_826 : decode code 826 = .ok (.iload_n 3, 1) := by decide +kernel
theorem d_Lw_law_827 : decode code 827 = .ok (.iconst 2, 1) := by decide +kernel
theorem d_Lw_law_828 : decode code 828 = .ok (.iadd, 1) := by decide +kernel
theorem d_Lw_law_829 : decode code 829 = .ok (.iaload, 1) := by decide +kernel
theorem d_Lw_law_830 : decode code 830 = .ok (.invokevirtual 88, 3) := by decide +kernel
theorem d_Lw_law_833 : decode code 833 = .ok (.pop2, 1) := by decide +kernel
theorem d_Lw_law_834 : decode code 834 = .ok (.aload_n 2, 1) := by decide +kernel
theorem d_Lw_law_835 : decode code 835 = .ok (.aload_n 0, 1) := by decide +kernel
theorem d_Lw_law_836 : decode code 836 = .ok (.iload_n 3, 1) := by decide +kernel
theorem d_Lw_law_837 : decode code 837 = .ok (.iconst 1, 1) := by decide +kernel
theorem d_Lw_law_838 : decode code 838 = .ok (.iadd, 1) := by decide +kernel
theorem d_Lw_law_839 : decode code 839 = .ok (.iaload, 1) := by decide +kernel
theorem d_Lw_law_840 : decode code 840 = .ok (.aload_n 0, 1) := by decide +kernel
theorem d_Lw_law_841 : decode code 841 = .ok (.iload_n 3, 1) := by decide +kernel
theorem d_Lw_law_842 : decode code 842 = .ok (.iconst 2, 1) := by decide +kernel
theorem d_Lw_law_843 : decode code 843 = .ok (.iadd, 1) := by decide +kernel
theorem d_Lw_law_844 : decode code 844 = .ok (.iaload, 1) := by decide +kernel
theorem d_Lw_law_845 : decode code 845 = .ok (.invokevirtual 92, 3) := by decide +kernel
theorem d_Lw_law_848 : decode code 848 = .ok (.pop2, 1) := by decide +kernel
theorem d_Lw_law_849 : decode code 849 = .ok (.goto 161, 3) := by decide +kernel
theorem d_Lw_law_852 : decode code 852 = .ok (.aload_n 1, 1) := by decide +kernel
theorem d_Lw_law_853 : decode code 853 = .ok (.aload_n 0, 1) := by decide +kernel
theorem d_Lw_law_854 : decode code 854 = .ok (.iload_n 3, 1) := by decide +kernel
theorem d_Lw_law_855 : decode code 855 = .ok (.iconst 1, 1) := by decide +kernel
theorem d_Lw_law_856 : decode code 856 = .ok (.iadd, 1) := by decide +kernel
theorem d_Lw_law_857 : decode code 857 = .ok (.iaload, 1) := by decide +kernel
theorem d_Lw_law_858 : decode code 858 = .ok (.invokevirtual 93, 3) := by decide +kernel
theorem d_Lw_law_861 : decode code 861 = .ok (.pop, 1) := by decide +kernel
theorem d_Lw_law_862 : decode code 862 = .ok (.aload_n 2, 1) := by decide +kernel
theorem d_Lw_law_863 : decode code 863 = .ok (.aload_n 0, 1) := by decide +kernel
theorem d_Lw_law_864 : decode code 864 = .ok (.iload_n 3, 1) := by decide +kernel
theorem d_Lw_law_865 : decode code 865 = .ok (.iconst 1, 1) := by decide +kernel
theorem d_Lw_law_866 : decode code 866 = .ok (.iadd, 1) := by decide +kernel
theorem d_Lw_law_867 : decode code 867 = .ok (.iaload, 1) := by decide +kernel
theorem d_Lw_law_868 : decode code 868 = .ok (.invokevirtual 96, 3) := by decide +kernel
theorem d_Lw_law_871 : decode code 871 = .ok (.pop, 1) := by decide +kernel
theorem d_Lw_law_872 : decode code 872 = .ok (.goto 138, 3) := by decide +kernel
theorem d_Lw_law_875 : decode code 875 = .ok (.aload_n 1, 1) := by decide +kernel
theorem d_Lw_law_876 : decode code 876 = .ok (.aload_n 0, 1) := by decide +kernel
theorem d_Lw_law_877 : decode code 877 = .ok (.iload_n 3, 1) := by decide +kernel
theorem d_Lw_law_878 : decode code 878 = .ok (.iconst 1, 1) := by decide +kernel
theorem d_Lw_law_879 : decode code 879 = .ok (.iadd, 1) := by decide +kernel
theorem d_Lw_law_880 : decode code 880 = .ok (.iaload, 1) := by decide +kernel
theorem d_Lw_law_881 : decode code 881 = .ok (.invokevirtual 97, 3) := by decide +kernel
theorem d_Lw_law_884 : decode code 884 = .ok (.pop, 1) := by decide +kernel
theorem d_Lw_law_885 : decode code 885 = .ok (.aload_n 2, 1) := by decide +kernel
theorem d_Lw_law_886 : decode code 886 = .ok (.aload_n 0, 1) := by decide +kernel
theorem d_Lw_law_887 : decode code 887 = .ok (.iload_n 3, 1) := by decide +kernel
theorem d_Lw_law_888 : decode code 888 = .ok (.iconst 1, 1) := by decide +kernel
theorem d_Lw_law_889 : decode code 889 = .ok (.iadd, 1) := by decide +kernel
theorem d_Lw_law_890 : decode code 890 = .ok (.iaload, 1) := by decide +kernel
theorem d_Lw_law_891 : decode code 891 = .ok (.invokevirtual 100, 3) := by decide +kernel
theorem d_Lw_law_894 : decode code 894 = .ok (.pop, 1) := by decide +kernel
theorem d_Lw_law_895 : decode code 895 = .ok (.goto 115, 3) := by decide +kernel
theorem d_Lw_law_898 : decode code 898 = .ok (.aload_n 1, 1) := by decide +kernel
theorem d_Lw_law_899 : decode code 899 = .ok (.aload_n 0, 1) := by decide +kernel
theorem d_Lw_law_900 : decode code 900 = .ok (.iload_n 3, 1) := by decide +kernel
theorem d_Lw_law_901 : decode code 901 = .ok (.iconst 1, 1) := by decide +kernel
theorem d_Lw_law_902 : decode code 902 = .ok (.iadd, 1) := by decide +kernel
theorem d_Lw_law_903 : decode code 903 = .ok (.iaload, 1) := by decide +kernel
theorem d_Lw_law_904 : decode code 904 = .ok (.aload_n 0, 1) := by decide +kernel
theorem d_Lw_law_905 : decode code 905 = .ok (.iload_n 3, 1) := by decide +kernel
theorem d_Lw_law_906 : decode code 906 = .ok (.iconst 2, 1) := by decide +kernel
theorem d_Lw_law_907 : decode code 907 = .ok (.iadd, 1) := by decide +kernel
theorem d_Lw_law_908 : decode code 908 = .ok (.iaload, 1) := by decide +kernel
theorem d_Lw_law_909 : decode code 909 = .ok (.invokevirtual 101, 3) := by decide +kernel
theorem d_Lw_law_912 : decode code 912 = .ok (.pop, 1) := by decide +kernel
theorem d_Lw_law_913 : decode code 913 = .ok (.aload_n 2, 1) := by decide +kernel
theorem d_Lw_law_914 : decode code 914 = .ok (.aload_n 0, 1) := by decide +kernel
theorem d_Lw_law_915 : decode code 915 = .ok (.iload_n 3, 1) := by decide +kernel
theorem d_Lw_law_916 : decode code 916 = .ok (.iconst 1, 1) := by decide +kernel
theorem d_Lw_law_917 : decode code 917 = .ok (.iadd, 1) := by decide +kernel
theorem d_Lw_law_918 : decode code 918 = .ok (.iaload, 1) := by decide +kernel
theorem d_Lw_law_919 : decode code 919 = .ok (.aload_n 0, 1) := by decide +kernel
theorem d_Lw_law_920 : decode code 920 = .ok (.iload_n 3, 1) := by decide +kernel
theorem d_Lw_law_921 : decode code 921 = .ok (.iconst 2, 1) := by decide +kernel
theorem d_Lw_law_922 : decode code 922 = .ok (.iadd, 1) := by decide +kernel
theorem d_Lw_law_923 : decode code 923 = .ok (.iaload, 1) := by decide +kernel
theorem d_Lw_law_924 : decode code 924 = .ok (.invokevirtual 104, 3) := by decide +kernel
theorem d_Lw_law_927 : decode code 927 = .ok (.pop, 1) := by decide +kernel
theorem d_Lw_law_928 : decode code 928 = .ok (.goto 82, 3) := by decide +kernel
theorem d_Lw_law_931 : decode code 931 = .ok (.aload_n 1, 1) := by decide +kernel
theorem d_Lw_law_932 : decode code 932 = .ok (.aload_n 0, 1) := by decide +kernel
theorem d_Lw_law_933 : decode code 933 = .ok (.iload_n 3, 1) := by decide +kernel
theorem d_Lw_law_934 : decode code 934 = .ok (.iconst 1, 1) := by decide +kernel
theorem d_Lw_law_935 : decode code 935 = .ok (.iadd, 1) := by decide +kernel
theorem d_Lw_law_936 : decode code 936 = .ok (.iaload, 1) := by decide +kernel
theorem d_Lw_law_937 : decode code 937 = .ok (.aload_n 0, 1) := by decide +kernel
theorem d_Lw_law_938 : decode code 938 = .ok (.iload_n 3, 1) := by decide +kernel
theorem d_Lw_law_939 : decode code 939 = .ok (.iconst 2, 1) := by decide +kernel
theorem d_Lw_law_940 : decode code 940 = .ok (.iadd, 1) := by decide +kernel
theorem d_Lw_law_941 : decode code 941 = .ok (.iaload, 1) := by decide +kernel
theorem d_Lw_law_942 : decode code 942 = .ok (.invokevirtual 105, 3) := by decide +kernel
theorem d_Lw_law_945 : decode code 945 = .ok (.pop, 1) := by decide +kernel
theorem d_Lw_law_946 : decode code 946 = .ok (.aload_n 2, 1) := by decide +kernel
theorem d_Lw_law_947 : decode code 947 = .ok (.aload_n 0, 1) := by decide +kernel
theorem d_Lw_law_948 : decode code 948 = .ok (.iload_n 3, 1) := by decide +kernel
theorem d_Lw_law_949 : decode code 949 = .ok (.iconst 1, 1) := by decide +kernel
theorem d_Lw_law_950 : decode code 950 = .ok (.iadd, 1) := by decide +kernel
theorem d_Lw_law_951 : decode code 951 = .ok (.iaload, 1) := by decide +kernel
theorem d_Lw_law_952 : decode code 952 = .ok (.aload_n 0, 1) := by decide +kernel
theorem d_Lw_law_953 : decode code 953 = .ok (.iload_n 3, 1) := by decide +kernel
