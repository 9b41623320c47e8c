theorem d_Law_law_0 : decode code 0 = .ok (.new 7, 3) := by decide +kernel
theorem d_Law_law_3 : decode code 3 = .ok (.dup, 1) := by decide +kernel
theorem d_Law_law_4 : decode code 4 = .ok (.invokespecial 9, 3) := by decide +kernel
theorem d_Law_law_7 : decode code 7 = .ok (.astore_n 1, 1) := by decide +kernel
theorem d_Law_law_8 : decode code 8 = .ok (.new 10, 3) := by decide +kernel
theorem d_Law_law_11 : decode code 11 = .ok (.dup, 1) := by decide +kernel
theorem d_Law_law_12 : decode code 12 = .ok (.invokespecial 12, 3) := by decide +kernel
theorem d_Law_law_15 : decode code 15 = .ok (.astore_n 2, 1) := by decide +kernel
theorem d_Law_law_16 : decode code 16 = .ok (.iconst 0, 1) := by decide +kernel
theorem d_Law_law_17 : decode code 17 = .ok (.istore_n 3, 1) := by decide +kernel
theorem d_Law_law_18 : decode code 18 = .ok (.iload_n 3, 1) := by decide +kernel
theorem d_Law_law_19 : decode code 19 = .ok (.aload_n 0, 1) := by decide +kernel
theorem d_Law_law_20 : decode code 20 = .ok (.arraylength, 1) := by decide +kernel
theorem d_Law_law_21 : decode code 21 = .ok (.iconst 5, 1) := by decide +kernel
theorem d_Law_law_22 : decode code 22 = .ok (.isub, 1) := by decide +kernel
theorem d_Law_law_23 : decode code 23 = .ok (.if_icmp .gt 744, 3) := by decide +kernel
theorem d_Law_law_26 : decode code 26 = .ok (.aload_n 0, 1) := by decide +kernel
theorem d_Law_law_27 : decode code 27 = .ok (.iload_n 3, 1) := by decide +kernel
theorem d_Law_law_28 : decode code 28 = .ok (.iaload, 1) := by decide +kernel
theorem d_Law_law_29 : decode code 29 = .ok (.bipush 31, 2) := by decide +kernel
theorem d_Law_law_31 : decode code 31 = .ok (.iand, 1) := by decide +kernel
theorem d_Law_law_32 : decode code 32 = .ok (.tableswitch 729 0 17 #[88, 131, 190, 213, 272, 305, 348, 401, 454, 477, 500, 523, 536, 579, 602, 639, 662, 696], 88) := by decide +kernel
theorem d_Law_law_120 : decode code 120 = .ok (.aload_n 1, 1) := by decide +kernel
theorem d_Law_law_121 : decode code 121 = .ok (.aload_n 0, 1) := by decide +kernel
theorem d_Law_law_122 : decode code 122 = .ok (.iload_n 3, 1) := by decide +kernel
theorem d_Law_law_123 : decode code 123 = .ok (.iconst 1, 1) := by decide +kernel
theorem d_Law_law_124 : decode code 124 = .ok (.iadd, 1) := by decide +kernel
theorem d_Law_law_125 : decode code 125 = .ok (.iaload, 1) := by decide +kernel
theorem d_Law_law_126 : decode code 126 = .ok (.aload_n 0, 1) := by decide +kernel
theorem d_Law_law_127 : decode code 127 = .ok (.iload_n 3, 1) := by decide +kernel
theorem d_Law_law_128 : decode code 128 = .ok (.iconst 2, 1) := by decide +kernel
theorem d_Law_law_129 : decode code 129 = .ok (.iadd, 1) := by decide +kernel
theorem d_Law_law_130 : decode code 130 = .ok (.iaload, 1) := by decide +kernel
theorem d_Law_law_131 : decode code 131 = .ok (.aload_n 0, 1) := by decide +kernel
theorem d_Law_law_132 : decode code 132 = .ok (.iload_n 3, 1) := by decide +kernel
theorem d_Law_law_133 : decode code 133 = .ok (.iconst 3, 1) := by decide +kernel
theorem d_Law_law_134 : decode code 134 = .ok (.iadd, 1) := by decide +kernel
theorem d_Law_law_135 : decode code 135 = .ok (.iaload, 1) := by decide +kernel
theorem d_Law_law_136 : decode code 136 = .ok (.invokevirtual 13, 3) := by decide +kernel
theorem d_Law_law_139 : decode code 139 = .ok (.aload_n 2, 1) := by decide +kernel
theorem d_Law_law_140 : decode code 140 = .ok (.aload_n 0, 1) := by decide +kernel
theorem d_Law_law_141 : decode code 141 = .ok (.iload_n 3, 1) := by decide +kernel
theorem d_Law_law_142 : decode code 142 = .ok (.iconst 1, 1) := by decide +kernel
theorem d_Law_law_143 : decode code 143 = .ok (.iadd, 1) := by decide +kernel
theorem d_Law_law_144 : decode code 144 = .ok (.iaload, 1) := by decide +kernel
theorem d_Law_law_145 : decode code 145 = .ok (.aload_n 0, 1) := by decide +kernel
theorem d_Law_law_146 : decode code 146 = .ok (.iload_n 3, 1) := by decide +kernel
theorem d_Law_law_147 : decode code 147 = .ok (.iconst 2, 1) := by decide +kernel
theorem d_Law_law_148 : decode code 148 = .ok (.iadd, 1) := by decide +kernel
theorem d_Law_law_149 : decode code 149 = .ok (.iaload, 1) := by decide +kernel
theorem d_Law_law_150 : decode code 150 = .ok (.aload_n 0, 1) := by decide +kernel
theorem d_Law_law_151 : decode code 151 = .ok (.iload_n 3, 1) := by decide +kernel
theorem d_Law_law_152 : decode code 152 = .ok (.iconst 3, 1) := by decide +kernel
theorem d_Law_law_153 : decode code 153 = .ok (.iadd, 1) := by decide +kernel
theorem d_Law_law_154 : decode code 154 = .ok (.iaload, 1) := by decide +kernel
theorem d_Law_law_155 : decode code 155 = .ok (.invokevirtual 17, 3) := by decide +kernel
theorem d_Law_law_158 : decode code 158 = .ok (.if_icmp .eq 603, 3) := by decide +kernel
theorem d_Law_law_161 : decode code 161 = .ok (.iconst 0, 1) := by decide +kernel
theorem d_Law_law_162 : decode code 162 = .ok (.ireturn, 1) := by decide +kernel
theorem d_Law_law_163 : decode code 163 = .ok (.aload_n 1, 1) := by decide +kernel
theorem d_Law_law_164 : decode code 164 = .ok (.aload_n 0, 1) := by decide +kernel
theorem d_Law_law_165 : decode code 165 = .ok (.iload_n 3, 1) := by decide +kernel
theorem d_Law_law_166 : decode code 166 = .ok (.iconst 1, 1) := by decide +kernel
theorem d_Law_law_167 : decode code 167 = .ok (.iadd, 1) := by decide +kernel
theorem d_Law_law_168 : decode code 168 = .ok (.iaload, 1) := by decide +kernel
theorem d_Law_law_169 : decode code 169 = .ok (.ifCond .eq 7, 3) := by decide +kernel
theorem d_Law_law_172 : decode code 172 = .ok (.iconst 1, 1) := by decide +kernel
theorem d_Law_law_173 : decode code 173 = .ok (.goto 4, 3) := by decide +kernel
theorem d_Law_law_176 : decode code 176 = .ok (.iconst 0, 1) := by decide +kernel
theorem d_Law_law_177 : decode code 177 = .ok (.aload_n 0, 1) := by decide +kernel
theorem d_Law_law_178 : decode code 178 = .ok (.iload_n 3, 1) := by decide +kernel
theorem d_Law_law_179 : decode code 179 = .ok (.iconst 2, 1) := by decide +kernel
theorem d_Law_law_180 : decode code 180 = .ok (.iadd, 1) := by decide +kernel
theorem d_Law_law_181 : decode code 181 = .ok (.iaload, 1) := by decide +kernel
theorem d_Law_law_182 : decode code 182 = .ok (.aload_n 0, 1) := by decide +kernel
theorem d_Law_law_183 : decode code 183 = .ok (.iload_n 3, 1) := by decide +kernel
theorem d_Law_law_184 : decode code 184 = .ok (.iconst 3, 1) := by decide +kernel
theorem d_Law_law_185 : decode code 185 = .ok (.iadd, 1) := by decide +kernel
theorem d_Law_law_186 : decode code 186 = .ok (.iaload, 1) := by decide +kernel
theorem d_Law_law_187 : decode code 187 = .ok (.invokevirtual 18, 3) := by decide +kernel
theorem d_Law_law_190 : decode code 190 = .ok (.aload_n 2, 1) := by decide +kernel
theorem d_Law_law_191 : decode code 191 = .ok (.aload_n 0, 1) := by decide +kernel
theorem d_Law_law_192 : decode code 192 = .ok (.iload_n 3, 1) := by decide +kernel
theorem d_Law_law_193 : decode code 193 = .ok (.iconst 1, 1) := by decide +kernel
theorem d_Law_law_194 : decode code 194 = .ok (.iadd, 1) := by decide +kernel
theorem d_Law_law_195 : decode code 195 = .ok (.iaload, 1) := by decide +kernel
theorem d_Law_law_196 : decode code 196 = .ok (.ifCond .eq 7, 3) := by decide +kernel
theorem d_Law_law_199 : decode code 199 = .ok (.iconst 1, 1) := by decide +kernel
theorem d_Law_law_200 : decode code 200 = .ok (.goto 4, 3) := by decide +kernel
theorem d_Law_law_203 : decode code 203 = .ok (.iconst 0, 1) := by decide +kernel
theorem d_Law_law_204 : decode code 204 = .ok (.aload_n 0, 1) := by decide +kernel
theorem d_Law_law_205 : decode code 205 = .ok (.iload_n 3, 1) := by decide +kernel
theorem d_Law_law_206 : decode code 206 = .ok (.iconst 2, 1) := by decide +kernel
theorem d_Law_law_207 : decode code 207 = .ok (.iadd, 1) := by decide +kernel
theorem d_Law_law_208 : decode code 208 = .ok (.iaload, 1) := by decide +kernel
theorem d_Law_law_209 : decode code 209 = .ok (.aload_n 0, 1) := by decide +kernel
theorem d_Law_law_210 : decode code 210 = .ok (.iload_n 3, 1) := by decide +kernel
theorem d_Law_law_211 : decode code 211 = .ok (.iconst 3, 1) := by decide +kernel
theorem d_Law_law_212 : decode code 212 = .ok (.iadd, 1) := by decide +kernel
theorem d_Law_law_213 : decode code 213 = .ok (.iaload, 1) := by decide +kernel
theorem d_Law_law_214 : decode code 214 = .ok (.invokevirtual 22, 3) := by decide +kernel
theorem d_Law_law_217 : decode code 217 = .ok (.if_icmp .eq 544, 3) := by decide +kernel
theorem d_Law_law_220 : decode code 220 = .ok (.iconst 0, 1) := by decide +kernel
theorem d_Law_law_221 : decode code 221 = .ok (.ireturn, 1) := by decide +kernel
theorem d_Law_law_222 : decode code 222 = .ok (.aload_n 1, 1) := by decide +kernel
theorem d_Law_law_223 : decode code 223 = .ok (.aload_n 0, 1) := by decide +kernel
theorem d_Law_law_224 : decode code 224 = .ok (.iload_n 3, 1) := by decide +kernel
theorem d_Law_law_225 : decode code 225 = .ok (.iconst 1, 1) := by decide +kernel
theorem d_Law_law_226 : decode code 226 = .ok (.iadd, 1) := by decide +kernel
theorem d_Law_law_227 : decode code 227 = .ok (.iaload, 1) := by decide +kernel
theorem d_Law_law_228 : decode code 228 = .ok (.invokevirtual 23, 3) := by decide +kernel
theorem d_Law_law_231 : decode code 231 = .ok (.aload_n 2, 1) := by decide +kernel
theorem d_Law_law_232 : decode code 232 = .ok (.aload_n 0, 1) := by decide +kernel
theorem d_Law_law_233 : decode code 233 = .ok (.iload_n 3, 1) := by decide +kernel
theorem d_Law_law_234 : decode code 234 = .ok (.iconst 1, 1) := by decide +kernel
theorem d_Law_law_235 : decode code 235 = .ok (.iadd, 1) := by decide +kernel
theorem d_Law_law_236 : decode code 236 = .ok (.iaload, 1) := by decide +kernel
theorem d_Law_law_237 : decode code 237 = .ok (.invokevirtual 27, 3) := by decide +kernel
theorem d_Law_law_240 : decode code 240 = .ok (.if_icmp .eq 521, 3) := by decide +kernel
theorem d_Law_law_243 : decode code 243 = .ok (.iconst 0, 1) := by decide +kernel
theorem d_Law_law_244 : decode code 244 = .ok (.ireturn, 1) := by decide +kernel
theorem d_Law_law_245 : decode code 245 = .ok (.aload_n 1, 1) := by decide +kernel
theorem d_Law_law_246 : decode code 246 = .ok (.aload_n 0, 1) := by decide +kernel
theorem d_Law_law_247 : decode code 247 = .ok (.iload_n 3, 1) := by decide +kernel
theorem d_Law_law_248 : decode code 248 = .ok (.iconst 1, 1) := by decide +kernel
theorem d_Law_law_249 : decode code 249 = .ok (.iadd, 1) := by decide +kernel
theorem d_Law_law_250 : decode code 250 = .ok (.iaload, 1) := by decide +kernel
theorem d_Law_law_251 : decode code 251 = .ok (.ifCond .eq 7, 3) := by decide +kernel
theorem d_Law_law_254 : decode code 254 = .ok (.iconst 1, 1) := by decide +kernel
theorem d_Law_law_255 : decode code 255 = .ok (.goto 4, 3) := by decide +kernel
theorem d_Law_law_258 : decode code 258 = .ok (.iconst 0, 1) := by decide +kernel
theorem d_Law_law_259 : decode code 259 = .ok (.aload_n 0, 1) := by decide +kernel
theorem d_Law_law_260 : decode code 260 = .ok (.iload_n 3, 1) := by decide +kernel
theorem d_Law_law_261 : decode code 261 = .ok (.iconst 2, 1) := by decide +kernel
theorem d_Law_law_262 : decode code 262 = .ok (.iadd, 1) := by decide +kernel
theorem d_Law_law_263 : decode code 263 = .ok (.iaload, 1) := by decide +kernel
theorem d_Law_law_264 : decode code 264 = .ok (.aload_n 0, 1) := by decide +kernel
theorem d_Law_law_265 : decode code 265 = .ok (.iload_n 3, 1) := by decide +kernel
theorem d_Law_law_266 : decode code 266 = .ok (.iconst 3, 1) := by decide +kernel
theorem d_Law_law_267 : decode code 267 = .ok (.iadd, 1) := by decide +kernel
theorem d_Law_law_268 : decode code 268 = .ok (.iaload, 1) := by decide +kernel
theorem d_Law_law_269 : decode code 269 = .ok (.invokevirtual 28, 3) := by decide +kernel
theorem d_Law_law_272 : decode code 272 = .ok (.aload_n 2, 1) := by decide +kernel
theorem d_Law_law_273 : decode code 273 = .ok (.aload_n 0, 1) := by decide +kernel
theorem d_Law_law_274 : decode code 274 = .ok (.iload_n 3, 1) := by decide +kernel
theorem d_Law_law_275 : decode code 275 = .ok (.iconst 1, 1) := by decide +kernel
theorem d_Law_law_276 : decode code 276 = .ok (.iadd, 1) := by decide +kernel
theorem d_Law_law_277 : decode code 277 = .ok (.iaload, 1) := by decide +kernel
theorem d_Law_law_278 : decode code 278 = .ok (.ifCond .eq 7, 3) := by decide +kernel
theorem d_Law_law_281 : decode code 281 = .ok (.iconst 1, 1) := by decide +kernel
theorem d_Law_law_282 : decode code 282 = .ok (.goto 4, 3) := by decide +kernel
theorem d_Law_law_285 : decode code 285 = .ok (.iconst 0, 1) := by decide +kernel
theorem d_Law_law_286 : decode code 286 = .ok (.aload_n 0, 1) := by decide +kernel
theorem d_Law_law_287 : decode code 287 = .ok (.iload_n 3, 1) := by decide +kernel
theorem d_Law_law_288 : decode code 288 = .ok (.iconst 2, 1) := by decide +kernel
theorem d_Law_law_289 : decode code 289 = .ok (.iadd, 1) := by decide +kernel
theorem d_Law_law_290 : decode code 290 = .ok (.iaload, 1) := by decide +kernel
theorem d_Law_law_291 : decode code 291 = .ok (.aload_n 0, 1) := by decide +kernel
theorem d_Law_law_292 : decode code 292 = .ok (.iload_n 3, 1) := by decide +kernel
theorem d_Law_law_293 : decode code 293 = .ok (.iconst 3, 1) := by decide +kernel
theorem d_Law_law_294 : decode code 294 = .ok (.iadd, 1) := by decide +kernel
theorem d_Law_law_295 : decode code 295 = .ok (.iaload, 1) := by decide +kernel
theorem d_Law_law_296 : decode code 296 = .ok (.invokevirtual 31, 3) := by decide +kernel
theorem d_Law_law_299 : decode code 299 = .ok (.if_icmp .eq 462, 3) := by decide +kernel
theorem d_Law_law_302 : decode code 302 = .ok (.iconst 0, 1) := by decide +kernel
theorem d_Law_law_303 : decode code 303 = .ok (.ireturn, 1) := by decide +kernel
theorem d_Law_law_304 : decode code 304 = .ok (.aload_n 1, 1) := by decide +kernel
theorem d_Law_law_305 : decode code 305 = .ok (.aload_n 0, 1) := by decide +kernel
theorem d_Law_law_306 : decode code 306 = .ok (.iload_n 3, 1) := by decide +kernel
theorem d_Law_law_307 : decode code 307 = .ok (.iconst 1, 1) := by decide +kernel
theorem d_Law_law_308 : decode code 308 = .ok (.iadd, 1) := by decide +kernel
theorem d_Law_law_309 : decode code 309 = .ok (.iaload, 1) := by decide +kernel
theorem d_Law_law_310 : decode code 310 = .ok (.aload_n 0, 1) := by decide +kernel
theorem d_Law_law_311 : decode code 311 = .ok (.iload_n 3, 1) := by decide +kernel
theorem d_Law_law_312 : decode code 312 = .ok (.iconst 2, 1) := by decide +kernel
theorem d_Law_law_313 : decode code 313 = .ok (.iadd, 1) := by decide +kernel
theorem d_Law_law_314 : decode code 314 = .ok (.iaload, 1) := by decide +kernel
theorem d_Law_law_315 : decode code 315 = .ok (.invokevirtual 32, 3) := by decide +kernel
theorem d_Law_law_318 : decode code 318 = .ok (.aload_n 2, 1) := by decide +kernel
theorem d_Law_law_319 : decode code 319 = .ok (.aload_n 0, 1) := by decide +kernel
theorem d_Law_law_320 : decode code 320 = .ok (.iload_n 3, 1) := by decide +kernel
theorem d_Law_law_321 : decode code 321 = .ok (.iconst 1, 1) := by decide +kernel
theorem d_Law_law_322 : decode code 322 = .ok (.iadd, 1) := by decide +kernel
theorem d_Law_law_323 : decode code 323 = .ok (.iaload, 1) := by decide +kernel
theorem d_Law_law_324 : decode code 324 = .ok (.aload_n 0, 1) := by decide +kernel
theorem d_Law_law_325 : decode code 325 = .ok (.iload_n 3, 1) := by decide +kernel
theorem d_Law_law_326 : decode code 326 = .ok (.iconst 2, 1) := by decide +kernel
theorem d_Law_law_327 : decode code 327 = .ok (.iadd, 1) := by decide +kernel
theorem d_Law_law_328 : decode code 328 = .ok (.iaload, 1) := by decide +kernel
theorem d_Law_law_329 : decode code 329 = .ok (.invokevirtual 36, 3) := by decide +kernel
theorem d_Law_law_332 : decode code 332 = .ok (.if_icmp .eq 429, 3) := by decide +kernel
theorem d_Law_law_335 : decode code 335 = .ok (.iconst 0, 1) := by decide +kernel
theorem d_Law_law_336 : decode code 336 = .ok (.ireturn, 1) := by decide +kernel
theorem d_Law_law_337 : decode code 337 = .ok (.aload_n 1, 1) := by decide +kernel
theorem d_Law_law_338 : decode code 338 = .ok (.aload_n 0, 1) := by decide +kernel
theorem d_Law_law_339 : decode code 339 = .ok (.iload_n 3, 1) := by decide +kernel
theorem d_Law_law_340 : decode code 340 = .ok (.iconst 1, 1) := by decide +kernel
theorem d_Law_law_341 : decode code 341 = .ok (.iadd, 1) := by decide +kernel
theorem d_Law_law_342 : decode code 342 = .ok (.iaload, 1) := by decide +kernel
theorem d_Law_law_343 : decode code 343 = .ok (.aload_n 0, 1) := by decide +kernel
theorem d_Law_law_344 : decode code 344 = .ok (.iload_n 3, 1) := by decide +kernel
theorem d_Law_law_345 : decode code 345 = .ok (.iconst 2, 1) := by decide +kernel
theorem d_Law_law_346 : decode code 346 = .ok (.iadd, 1) := by decide +kernel
theorem d_Law_law_347 : decode code 347 = .ok (.iaload, 1) := by decide +kernel
theorem d_Law_law_348 : decode code 348 = .ok (.aload_n 0, 1) := by decide +kernel
theorem d_Law_law_349 : decode code 349 = .ok (.iload_n 3, 1) := by decide +kernel
theorem d_Law_law_350 : decode code 350 = .ok (.iconst 3, 1) := by decide +kernel
theorem d_Law_law_351 : decode code 351 = .ok (.iadd, 1) := by decide +kernel
theorem d_Law_law_352 : decode code 352 = .ok (.iaload, 1) := by decide +kernel
theorem d_Law_law_353 : decode code 353 = .ok (.invokevirtual 37, 3) := by decide +kernel
theorem d_Law_law_356 : decode code 356 = .ok (.aload_n 2, 1) := by decide +kernel
theorem d_Law_law_357 : decode code 357 = .ok (.aload_n 0, 1) := by decide +kernel
theorem d_Law_law_358 : decode code 358 = .ok (.iload_n 3, 1) := by decide +kernel
theorem d_Law_law_359 : decode code 359 = .ok (.iconst 1, 1) := by decide +kernel
theorem d_Law_law_360 : decode code 360 = .ok (.iadd, 1) := by decide +kernel
theorem d_Law_law_361 : decode code 361 = .ok (.iaload, 1) := by decide +kernel
theorem d_Law_law_362 : decode code 362 = .ok (.aload_n 0, 1) := by decide +kernel
theorem d_Law_law_363 : decode code 363 = .ok (.iload_n 3, 1) := by decide +kernel
theorem d_Law_law_364 : decode code 364 = .ok (.iconst 2, 1) := by decide +kernel
theorem d_Law_law_365 : decode code 365 = .ok (.iadd, 1) := by decide +kernel
theorem d_Law_law_366 : decode code 366 = .ok (.iaload, 1) := by decide +kernel
theorem d_Law_law_367 : decode code 367 = .ok (.aload_n 0, 1) := by decide +kernel
theorem d_Law_law_368 : decode code 368 = .ok (.iload_n 3, 1) := by decide +kernel
theorem d_Law_law_369 : decode code 369 = .ok (.iconst 3, 1) := by decide +kernel
theorem d_Law_law_370 : decode code 370 = .ok (.iadd, 1) := by decide +kernel
theorem d_Law_law_371 : decode code 371 = .ok (.iaload, 1) := by decide +kernel
theorem d_Law_law_372 : decode code 372 = .ok (.invokevirtual 40, 3) := by decide +kernel
theorem d_Law_law_375 : decode code 375 = .ok (.if_icmp .eq 386, 3) := by decide +kernel
theorem d_Law_law_378 : decode code 378 = .ok (.iconst 0, 1) := by decide +kernel
theorem d_Law_law_379 : decode code 379 = .ok (.ireturn, 1) := by decide +kernel
theorem d_Law_law_380 : decode code 380 = .ok (.aload_n 1, 1) := by decide +kernel
theorem d_Law_law_381 : decode code 381 = .ok (.aload_n 0, 1) := by decide +kernel
theorem d_Law_law_382 : decode code 382 = .ok (.iload_n 3, 1) := by decide +kernel
theorem d_Law_law_383 : decode code 383 = .ok (.iconst 1, 1) := by decide +kernel
theorem d_Law_law_384 : decode code 384 = .ok (.iadd, 1) := by decide +kernel
theorem d_Law_law_385 : decode code 385 = .ok (.iaload, 1) := by decide +kernel
theorem d_Law_law_386 : decode code 386 = .ok (.aload_n 0, 1) := by decide +kernel
theorem d_Law_law_387 : decode code 387 = .ok (.iload_n 3, 1) := by decide +kernel
theorem d_Law_law_388 : decode code 388 = .ok (.iconst 2, 1) := by decide +kernel
theorem d_Law_law_389 : decode code 389 = .ok (.iadd, 1) := by decide +kernel
theorem d_Law_law_390 : decode code 390 = .ok (.iaload, 1) := by decide +kernel
theorem d_Law_law_391 : decode code 391 = .ok (.aload_n 0, 1) := by decide +kernel
theorem d_Law_law_392 : decode code 392 = .ok (.iload_n 3, 1) := by decide +kernel
theorem d_Law_law_393 : decode code 393 = .ok (.iconst 3, 1) := by decide +kernel
theorem d_Law_law_394 : decode code 394 = .ok (.iadd, 1) := by decide +kernel
theorem d_Law_law_395 : decode code 395 = .ok (.iaload, 1) := by decide +kernel
theorem d_Law_law_396 : decode code 396 = .ok (.aload_n 0, 1) := by decide +kernel
theorem d_Law_law_397 : decode code 397 = .ok (.iload_n 3, 1) := by decide +kernel
theorem d_Law_law_398 : decode code 398 = .ok (.iconst 4, 1) := by decide +kernel
theorem d_Law_law_399 : decode code 399 = .ok (.iadd, 1) := by decide +kernel
theorem d_Law_law_400 : decode code 400 = .ok (.iaload, 1) := by decide +kernel
theorem d_Law_law_401 : decode code 401 = .ok (.invokevirtual 41, 3) := by decide +kernel
theorem d_Law_law_404 : decode code 404 = .ok (.aload_n 2, 1) := by decide +kernel
theorem d_Law_law_405 : decode code 405 = .ok (.aload_n 0, 1) := by decide +kernel
theorem d_Law_law_406 : decode code 406 = .ok (.iload_n 3, 1) := by decide +kernel
theorem d_Law_law_407 : decode code 407 = .ok (.iconst 1, 1) := by decide +kernel
theorem d_Law_law_408 : decode code 408 = .ok (.iadd, 1) := by decide +kernel
theorem d_Law_law_409 : decode code 409 = .ok (.iaload, 1) := by decide +kernel
theorem d_Law_law_410 : decode code 410 = .ok (.aload_n 0, 1) := by decide +kernel
theorem d_Law_law_411 : decode code 411 = .ok (.iload_n 3, 1) := by decide +kernel
theorem d_Law_law_412 : decode code 412 = .ok (.iconst 2, 1) := by decide +kernel
theorem d_Law_law_413 : decode code 413 = .ok (.iadd, 1) := by decide +kernel
theorem d_Law_law_414 : decode code 414 = .ok (.iaload, 1) := by decide +kernel
theorem d_Law_law_415 : decode code 415 = .ok (.aload_n 0, 1) := by decide +kernel
theorem d_Law_law_416 : decode code 416 = .ok (.iload_n 3, 1) := by decide +kernel
theorem d_Law_law_417 : decode code 417 = .ok (.iconst 3, 1) := by decide +kernel
theorem d_Law_law_418 : decode code 418 = .ok (.iadd, 1) := by decide +kernel
theorem d_Law_law_419 : decode code 419 = .ok (.iaload, 1) := by decide +kernel
theorem d_Law_law_420 : decode code 420 = .ok (.aload_n 0, 1) := by decide +kernel
theorem d_Law_law_421 : decode code 421 = .ok (.iload_n 3, 1) := by decide +kernel
theorem d_Law_law_422 : decode code 422 = .ok (.iconst 4, 1) := by decide +kernel
theorem d_Law_law_423 : decode code 423 = .ok (.iadd, 1) := by decide +kernel
theorem d_Law_law_424 : decode code 424 = .ok (.iaload, 1) := by decide +kernel
theorem d_Law_law_425 : decode code 425 = .ok (.invokevirtual 45, 3) := by decide +kernel
theorem d_Law_law_428 : decode code 428 = .ok (.if_icmp .eq 333, 3) := by decide +kernel
theorem d_Law_law_431 : decode code 431 = .ok (.iconst 0, 1) := by decide +kernel
theorem d_Law_law_432 : decode code 432 = .ok (.ireturn, 1) := by decide +kernel
theorem d_Law_law_433 : decode code 433 = .ok (.aload_n 1, 1) := by decide +kernel
theorem d_Law_law_434 : decode code 434 = .ok (.aload_n 0, 1) := by decide +kernel
theorem d_Law_law_435 : decode code 435 = .ok (.iload_n 3, 1) := by decide +kernel
theorem d_Law_law_436 : decode code 436 = .ok (.iconst 1, 1) := by decide +kernel
theorem d_Law_law_437 : decode code 437 = .ok (.iadd, 1) := by decide +kernel
theorem d_Law_law_438 : decode code 438 = .ok (.iaload, 1) := by decide +kernel
theorem d_Law_law_439 : decode code 439 = .ok (.aload_n 0, 1) := by decide +kernel
theorem d_Law_law_440 : decode code 440 = .ok (.iload_n 3, 1) := by decide +kernel
theorem d_Law_law_441 : decode code 441 = .ok (.iconst 2, 1) := by decide +kernel
theorem d_Law_law_442 : decode code 442 = .ok (.iadd, 1) := by decide +kernel
theorem d_Law_law_443 : decode code 443 = .ok (.iaload, 1) := by decide +kernel
theorem d_Law_law_444 : decode code 444 = .ok (.aload_n 0, 1) := by decide +kernel
theorem d_Law_law_445 : decode code 445 = .ok (.iload_n 3, 1) := by decide +kernel
theorem d_Law_law_446 : decode code 446 = .ok (.iconst 3, 1) := by decide +kernel
theorem d_Law_law_447 : decode code 447 = .ok (.iadd, 1) := by decide +kernel
theorem d_Law_law_448 : decode code 448 = .ok (.iaload, 1) := by decide +kernel
theorem d_Law_law_449 : decode code 449 = .ok (.aload_n 0, 1) := by decide +kernel
theorem d_Law_law_450 : decode code 450 = .ok (.iload_n 3, 1) := by decide +kernel
theorem d_Law_law_451 : decode code 451 = .ok (.iconst 4, 1) := by decide +kernel
theorem d_Law_law_452 : decode code 452 = .ok (.iadd, 1) := by decide +kernel
theorem d_Law_law_453 : decode code 453 = .ok (.iaload, 1) := by decide +kernel
theorem d_Law_law_454 : decode code 454 = .ok (.invokevirtual 46, 3) := by decide +kernel
theorem d_Law_law_457 : decode code 457 = .ok (.aload_n 2, 1) := by decide +kernel
theorem d_Law_law_458 : decode code 458 = .ok (.aload_n 0, 1) := by decide +kernel
theorem d_Law_law_459 : decode code 459 = .ok (.iload_n 3, 1) := by decide +kernel
theorem d_Law_law_460 : decode code 460 = .ok (.iconst 1, 1) := by decide +kernel
theorem d_Law_law_461 : decode code 461 = .ok (.iadd, 1) := by decide +kernel
theorem d_Law_law_462 : decode code 462 = .ok (.iaload, 1) := by decide +kernel
theorem d_Law_law_463 : decode code 463 = .ok (.aload_n 0, 1) := by decide +kernel
theorem d_Law_law_464 : decode code 464 = .ok (.iload_n 3, 1) := by decide +kernel
theorem d_Law_law_465 : decode code 465 = .ok (.iconst 2, 1) := by decide +kernel
theorem d_Law_law_466 : decode code 466 = .ok (.iadd, 1) := by decide +kernel
theorem d_Law_law_467 : decode code 467 = .ok (.iaload, 1) := by decide +kernel
theorem d_Law_law_468 : decode code 468 = .ok (.aload_n 0, 1) := by decide +kernel
theorem d_Law_law_469 : decode code 469 = .ok (.iload_n 3, 1) := by decide +kernel
theorem d_Law_law_470 : decode code 470 = .ok (.iconst 3, 1) := by decide +kernel
theorem d_Law_law_471 : decode code 471 = .ok (.iadd, 1) := by decide +kernel
theorem d_Law_law_472 : decode code 472 = .ok (.iaload, 1) := by decide +kernel
theorem d_Law_law_473 : decode code 473 = .ok (.aload_n 0, 1) := by decide +kernel
theorem d_Law_law_474 : decode code 474 = .ok (.iload_n 3, 1) := by decide +kernel
theorem d_Law_law_475 : decode code 475 = .ok (.iconst 4, 1) := by decide +kernel
theorem d_Law_law_476 : decode code 476 = .ok (.iadd, 1) := by decide +kernel
theorem d_Law_law_477 : decode code 477 = .ok (.iaload, 1) := by decide +kernel
theorem d_Law_law_478 : decode code 478 = .ok (.invokevirtual 49, 3) := by decide +kernel
theorem d_Law_law_481 : decode code 481 = .ok (.if_icmp .eq 280, 3) := by decide +kernel
theorem d_Law_law_484 : decode code 484 = .ok (.iconst 0, 1) := by decide +kernel
theorem d_Law_law_485 : decode code 485 = .ok (.ireturn, 1) := by decide +kernel
theorem d_Law_law_486 : decode code 486 = .ok (.aload_n 1, 1) := by decide +kernel
theorem d_Law_law_487 : decode code 487 = .ok (.aload_n 0, 1) := by decide +kernel
theorem d_Law_law_488 : decode code 488 = .ok (.iload_n 3, 1) := by decide +kernel
theorem d_Law_law_489 : decode code 489 = .ok (.iconst 1, 1) := by decide +kernel
theorem d_Law_law_490 : decode code 490 = .ok (.iadd, 1) := by decide +kernel
theorem d_Law_law_491 : decode code 491 = .ok (.iaload, 1) := by decide +kernel
theorem d_Law_law_492 : decode code 492 = .ok (.invokevirtual 50, 3) := by decide +kernel
theorem d_Law_law_495 : decode code 495 = .ok (.aload_n 2, 1) := by decide +kernel
theorem d_Law_law_496 : decode code 496 = .ok (.aload_n 0, 1) := by decide +kernel
theorem d_Law_law_497 : decode code 497 = .ok (.iload_n 3, 1) := by decide +kernel
theorem d_Law_law_498 : decode code 498 = .ok (.iconst 1, 1) := by decide +kernel
theorem d_Law_law_499 : decode code 499 = .ok (.iadd, 1) := by decide +kernel
theorem d_Law_law_500 : decode code 500 = .ok (.iaload, 1) := by decide +kernel
theorem d_Law_law_501 : decode code 501 = .ok (.invokevirtual 53, 3) := by decide +kernel
theorem d_Law_law_504 : decode code 504 = .ok (.if_icmp .eq 257, 3) := by decide +kernel
theorem d_Law_law_507 : decode code 507 = .ok (.iconst 0, 1) := by decide +kernel
theorem d_Law_law_508 : decode code 508 = .ok (.ireturn, 1) := by decide +kernel
theorem d_Law_law_509 : decode code 509 = .ok (.aload_n 1, 1) := by decide +kernel
theorem d_Law_law_510 : decode code 510 = .ok (.aload_n 0, 1) := by decide +kernel
theorem d_Law_law_511 : decode code 511 = .ok (.iload_n 3, 1) := by decide +kernel
theorem d_Law_law_512 : decode code 512 = .ok (.iconst 1, 1) := by decide +kernel
theorem d_Law_law_513 : decode code 513 = .ok (.iadd, 1) := by decide +kernel
theorem d_Law_law_514 : decode code 514 = .ok (.iaload, 1) := by decide +kernel
theorem d_Law_law_515 : decode code 515 = .ok (.invokevirtual 54, 3) := by decide +kernel
theorem d_Law_law_518 : decode code 518 = .ok (.aload_n 2, 1) := by decide +kernel
theorem d_Law_law_519 : decode code 519 = .ok (.aload_n 0, 1) := by decide +kernel
theorem d_Law_law_520 : decode code 520 = .ok (.iload_n 3, 1) := by decide +kernel
theorem d_Law_law_521 : decode code 521 = .ok (.iconst 1, 1) := by decide +kernel
theorem d_Law_law_522 : decode code 522 = .ok (.iadd, 1) := by decide +kernel
theorem d_Law_law_523 : decode code 523 = .ok (.iaload, 1) := by decide +kernel
theorem d_Law_law_524 : decode code 524 = .ok (.invokevirtual 57, 3) := by decide +kernel
theorem d_Law_law_527 : decode code 527 = .ok (.if_icmp .eq 234, 3) := by decide +kernel
theorem d_Law_law_530 : decode code 530 = .ok (.iconst 0, 1) := by decide +kernel
theorem d_Law_law_531 : decode code 531 = .ok (.ireturn, 1) := by decide +kernel
theorem d_Law_law_532 : decode code 532 = .ok (.aload_n 1, 1) := by decide +kernel
theorem d_Law_law_533 : decode code 533 = .ok (.aload_n 0, 1) := by decide +kernel
theorem d_Law_law_534 : decode code 534 = .ok (.iload_n 3, 1) := by decide +kernel
theorem d_Law_law_535 : decode code 535 = .ok (.iconst 1, 1) := by decide +kernel
theorem d_Law_law_536 : decode code 536 = .ok (.iadd, 1) := by decide +kernel
theorem d_Law_law_537 : decode code 537 = .ok (.iaload, 1) := by decide +kernel
theorem d_Law_law_538 : decode code 538 = .ok (.invokevirtual 58, 3) := by decide +kernel
theorem d_Law_law_541 : decode code 541 = .ok (.aload_n 2, 1) := by decide +kernel
theorem d_Law_law_542 : decode code 542 = .ok (.aload_n 0, 1) := by decide +kernel
theorem d_Law_law_543 : decode code 543 = .ok (.iload_n 3, 1) := by decide +kernel
theorem d_Law_law_544 : decode code 544 = .ok (.iconst 1, 1) := by decide +kernel
theorem d_Law_law_545 : decode code 545 = .ok (.iadd, 1) := by decide +kernel
theorem d_Law_law_546 : decode code 546 = .ok (.iaload, 1) := by decide +kernel
theorem d_Law_law_547 : decode code 547 = .ok (.invokevirtual 62, 3) := by decide +kernel
theorem d_Law_law_550 : decode code 550 = .ok (.if_icmp .eq 211, 3) := by decide +kernel
theorem d_Law_law_553 : decode code 553 = .ok (.iconst 0, 1) := by decide +kernel
theorem d_Law_law_554 : decode code 554 = .ok (.ireturn, 1) := by decide +kernel
theorem d_Law_law_555 : decode code 555 = .ok (.aload_n 1, 1) := by decide +kernel
theorem d_Law_law_556 : decode code 556 = .ok (.invokevirtual 63, 3) := by decide +kernel
theorem d_Law_law_559 : decode code 559 = .ok (.aload_n 2, 1) := by decide +kernel
theorem d_Law_law_560 : decode code 560 = .ok (.invokevirtual 67, 3) := by decide +kernel
theorem d_Law_law_563 : decode code 563 = .ok (.if_icmp .eq 198, 3) := by decide +kernel
theorem d_Law_law_566 : decode code 566 = .ok (.iconst 0, 1) := by decide +kernel
theorem d_Law_law_567 : decode code 567 = .ok (.ireturn, 1) := by decide +kernel
theorem d_Law_law_568 : decode code 568 = .ok (.aload_n 1, 1) := by decide +kernel
theorem d_Law_law_569 : decode code 569 = .ok (.aload_n 0, 1) := by decide +kernel
theorem d_Law_law_570 : decode code 570 = .ok (.iload_n 3, 1) := by decide +kernel
theorem d_Law_law_571 : decode code 571 = .ok (.iconst 1, 1) := by decide +kernel
theorem d_Law_law_572 : decode code 572 = .ok (.iadd, 1) := by decide +kernel
theorem d_Law_law_573 : decode code 573 = .ok (.iaload, 1) := by decide +kernel
theorem d_Law_law_574 : decode code 574 = .ok (.aload_n 0, 1) := by decide +kernel
theorem d_Law_law_575 : decode code 575 = .ok (.iload_n 3, 1) := by decide +kernel
theorem d_Law_law_576 : decode code 576 = .ok (.iconst 2, 1) := by decide +kernel
theorem d_Law_law_577 : decode code 577 = .ok (.iadd, 1) := by decide +kernel
theorem d_Law_law_578 : decode code 578 = .ok (.iaload, 1) := by decide +kernel
theorem d_Law_law_579 : decode code 579 = .ok (.aload_n 0, 1) := by decide +kernel
theorem d_Law_law_580 : decode code 580 = .ok (.iload_n 3, 1) := by decide +kernel
theorem d_Law_law_581 : decode code 581 = .ok (.iconst 3, 1) := by decide +kernel
theorem d_Law_law_582 : decode code 582 = .ok (.iadd, 1) := by decide +kernel
theorem d_Law_law_583 : decode code 583 = .ok (.iaload, 1) := by decide +kernel
theorem d_Law_law_584 : decode code 584 = .ok (.invokevirtual 68, 3) := by decide +kernel
theorem d_Law_law_587 : decode code 587 = .ok (.aload_n 2, 1) := by decide +kernel
theorem d_Law_law_588 : decode code 588 = .ok (.aload_n 0, 1) := by decide +kernel
theorem d_Law_law_589 : decode code 589 = .ok (.iload_n 3, 1) := by decide +kernel
theorem d_Law_law_590 : decode code 590 = .ok (.iconst 1, 1) := by decide +kernel
theorem d_Law_law_591 : decode code 591 = .ok (.iadd, 1) := by decide +kernel
theorem d_Law_law_592 : decode code 592 = .ok (.iaload, 1) := by decide +kernel
theorem d_Law_law_593 : decode code 593 = .ok (.aload_n 0, 1) := by decide +kernel
theorem d_Law_law_594 : decode code 594 = .ok (.iload_n 3, 1) := by decide +kernel
theorem d_Law_law_595 : decode code 595 = .ok (.iconst 2, 1) := by decide +kernel
theorem d_Law_law_596 : decode code 596 = .ok (.iadd, 1) := by decide +kernel
theorem d_Law_law_597 : decode code 597 = .ok (.iaload, 1) := by decide +kernel
theorem d_Law_law_598 : decode code 598 = .ok (.aload_n 0, 1) := by decide +kernel
theorem d_Law_law_599 : decode code 599 = .ok (.iload_n 3, 1) := by decide +kernel
theorem d_Law_law_600 : decode code 600 = .ok (.iconst 3, 1) := by decide +kernel
theorem d_Law_law_601 : decode code 601 = .ok (.iadd, 1) := by decide +kernel
theorem d_Law_law_602 : decode code 602 = .ok (.iaload, 1) := by decide +kernel
theorem d_Law_law_603 : decode code 603 = .ok (.invokevirtual 72, 3) := by decide +kernel
theorem d_Law_law_606 : decode code 606 = .ok (.if_icmp .eq 155, 3) := by decide +kernel
theorem d_Law_law_609 : decode code 609 = .ok (.iconst 0, 1) := by decide +kernel
theorem d_Law_law_610 : decode code 610 = .ok (.ireturn, 1) := by decide +kernel
theorem d_Law_law_611 : decode code 611 = .ok (.aload_n 1, 1) := by decide +kernel
theorem d_Law_law_612 : decode code 612 = .ok (.aload_n 0, 1) := by decide +kernel
theorem d_Law_law_613 : decode code 613 = .ok (.iload_n 3, 1) := by decide +kernel
theorem d_Law_law_614 : decode code 614 = .ok (.iconst 1, 1) := by decide +kernel
theorem d_Law_law_615 : decode code 615 = .ok (.iadd, 1) := by decide +kernel
theorem d_Law_law_616 : decode code 616 = .ok (.iaload, 1) := by decide +kernel
theorem d_Law_law_617 : decode code 617 = .ok (.invokevirtual 73, 3) := by decide +kernel
theorem d_Law_law_620 : decode code 620 = .ok (.aload_n 2, 1) := by decide +kernel
theorem d_Law_law_621 : decode code 621 = .ok (.aload_n 0, 1) := by decide +kernel
theorem d_Law_law_622 : decode code 622 = .ok (.iload_n 3, 1) := by decide +kernel
theorem d_Law_law_623 : decode code 623 = .ok (.iconst 1, 1) := by decide +kernel
theorem d_Law_law_624 : decode code 624 = .ok (.iadd, 1) := by decide +kernel
theorem d_Law_law_625 : decode code 625 = .ok (.iaload, 1) := by decide +kernel
theorem d_Law_law_626 : decode code 626 = .ok (.invokevirtual 76, 3) := by decide +kernel
theorem d_Law_law_629 : decode code 629 = .ok (.if_icmp .eq 132, 3) := by decide +kernel
theorem d_Law_law_632 : decode code 632 = .ok (.iconst 0, 1) := by decide +kernel
theorem d_Law_law_633 : decode code 633 = .ok (.ireturn, 1) := by decide +kernel
theorem d_Law_law_634 : decode code 634 = .ok (.aload_n 1, 1) := by decide +kernel
theorem d_Law_law_635 : decode code 635 = .ok (.aload_n 0, 1) := by decide +kernel
theorem d_Law_law_636 : decode code 636 = .ok (.iload_n 3, 1) := by decide +kernel
theorem d_Law_law_637 : decode code 637 = .ok (.iconst 1, 1) := by decide +kernel
theorem d_Law_law_638 : decode code 638 = .ok (.iadd, 1) := by decide +kernel
theorem d_Law_law_639 : decode code 639 = .ok (.iaload, 1) := by decide +kernel
theorem d_Law_law_640 : decode code 640 = .ok (.ifCond .eq 7, 3) := by decide +kernel
theorem d_Law_law_643 : decode code 643 = .ok (.iconst 1, 1) := by decide +kernel
theorem d_Law_law_644 : decode code 644 = .ok (.goto 4, 3) := by decide +kernel
theorem d_Law_law_647 : decode code 647 = .ok (.iconst 0, 1) := by decide +kernel
theorem d_Law_law_648 : decode code 648 = .ok (.invokevirtual 77, 3) := by decide +kernel
theorem d_Law_law_651 : decode code 651 = .ok (.aload_n 2, 1) := by decide +kernel
theorem d_Law_law_652 : decode code 652 = .ok (.aload_n 0, 1) := by decide +kernel
theorem d_Law_law_653 : decode code 653 = .ok (.iload_n 3, 1) := by decide +kernel
theorem d_Law_law_654 : decode code 654 = .ok (.iconst 1, 1) := by decide +kernel
theorem d_Law_law_655 : decode code 655 = .ok (.iadd, 1) := by decide +kernel
theorem d_Law_law_656 : decode code 656 = .ok (.iaload, 1) := by decide +kernel
theorem d_Law_law_657 : decode code 657 = .ok (.ifCond .eq 7, 3) := by decide +kernel
theorem d_Law_law_660 : decode code 660 = .ok (.iconst 1, 1) := by decide +kernel
theorem d_Law_law_661 : decode code 661 = .ok (.goto 4, 3) := by decide +kernel
theorem d_Law_law_664 : decode code 664 = .ok (.iconst 0, 1) := by decide +kernel
theorem d_Law_law_665 : decode code 665 = .ok (.invokevirtual 81, 3) := by decide +kernel
theorem d_Law_law_668 : decode code 668 = .ok (.goto 93, 3) := by decide +kernel
theorem d_Law_law_671 : decode code 671 = .ok (.aload_n 1, 1) := by decide +kernel
theorem d_Law_law_672 : decode code 672 = .ok (.aload_n 0, 1) := by decide +kernel
theorem d_Law_law_673 : decode code 673 = .ok (.iload_n 3, 1) := by decide +kernel
theorem d_Law_law_674 : decode code 674 = .ok (.iconst 1, 1) := by decide +kernel
theorem d_Law_law_675 : decode code 675 = .ok (.iadd, 1) := by decide +kernel
theorem d_Law_law_676 : decode code 676 = .ok (.iaload, 1) := by decide +kernel
theorem d_Law_law_677 : decode code 677 = .ok (.invokevirtual 82, 3) := by decide +kernel
theorem d_Law_law_680 : decode code 680 = .ok (.aload_n 2, 1) := by decide +kernel
theorem d_Law_law_681 : decode code 681 = .ok (.aload_n 0, 1) := by decide +kernel
theorem d_Law_law_682 : decode code 682 = .ok (.iload_n 3, 1) := by decide +kernel
theorem d_Law_law_683 : decode code 683 = .ok (.iconst 1, 1) := by decide +kernel
theorem d_Law_law_684 : decode code 684 = .ok (.iadd, 1) := by decide +kernel
theorem d_Law_law_685 : decode code 685 = .ok (.iaload, 1) := by decide +kernel
theorem d_Law_law_686 : decode code 686 = .ok (.invokevirtual 85, 3) := by decide +kernel
theorem d_Law_law_689 : decode code 689 = .ok (.if_icmp .eq 72, 3) := by decide +kernel
theorem d_Law_law_692 : decode code 692 = .ok (.iconst 0, 1) := by decide +kernel
theorem d_Law_law_693 : decode code 693 = .ok (.ireturn, 1) := by decide +kernel
theorem d_Law_law_694 : decode code 694 = .ok (.aload_n 1, 1) := by decide +kernel
theorem d_Law_law_695 : decode code 695 = .ok (.aload_n 0, 1) := by decide +kernel
theorem d_Law_law_696 : decode code 696 = .ok (.iload_n 3, 1) := by decide +kernel
theorem d_Law_law_697 : decode code 697 = .ok (.iconst 1, 1) := by decide +kernel
theorem d_Law_law_698 : decode code 698 = .ok (.iadd, 1) := by decide +kernel
theorem d_Law_law_699 : decode code 699 = .ok (.iaload, 1) := by decide +kernel
theorem d_Law_law_700 : decode code 700 = .ok (.aload_n 0, 1) := by decide +kernel
theorem d_Law_law_701 : decode code 701 = .ok (.iload_n 3, 1) := by decide +kernel
theorem d_Law_law_702 : decode code 702 = .ok (.iconst 2, 1) := by decide +kernel
theorem d_Law_law_703 : decode code 703 = .ok (.iadd, 1) := by decide +kernel
theorem d_Law_law_704 : decode code 704 = .ok (.iaload, 1) := by decide +kernel
theorem d_Law_law_705 : decode code 705 = .ok (.invokevirtual 86, 3) := by decide +kernel
theorem d_Law_law_708 : decode code 708 = .ok (.aload_n 2, 1) := by decide +kernel
theorem d_Law_law_709 : decode code 709 = .ok (.aload_n 0, 1) := by decide +kernel
theorem d_Law_law_710 : decode code 710 = .ok (.iload_n 3, 1) := by decide +kernel
theorem d_Law_law_711 : decode code 711 = .ok (.iconst 1, 1) := by decide +kernel
theorem d_Law_law_712 : decode code 712 = .ok (.iadd, 1) := by decide +kernel
theorem d_Law_law_713 : decode code 713 = .ok (.iaload, 1) := by decide +kernel
theorem d_Law_law_714 : decode code 714 = .ok (.aload_n 0, 1) := by decide +kernel
theorem d_Law_law_715 : decode code 715 = .ok (.iload_n 3, 1) := by decide +kernel
theorem d_Law_law_716 : decode code 716 = .ok (.iconst 2, 1) := by decide +kernel
theorem d_Law_law_717 : decode code 717 = .ok (.iadd, 1) := by decide +kernel
theorem d_Law_law_718 : decode code 718 = .ok (.iaload, 1) := by decide +kernel
theorem d_Law_law_719 : decode code 719 = .ok (.invokevirtual 90, 3) := by decide +kernel
theorem d_Law_law_722 : decode code 722 = .ok (.lcmp, 1) := by decide +kernel
theorem d_Law_law_723 : decode code 723 = .ok (.ifCond .eq 38, 3) := by decide +kernel
theorem d_Law_law_726 : decode code 726 = .ok (.iconst 0, 1) := by decide +kernel
theorem d_Law_law_727 : decode code 727 = .ok (.ireturn, 1) := by decide +kernel
theorem d_Law_law_728 : decode code 728 = .ok (.aload_n 1, 1) := by decide +kernel
theorem d_Law_law_729 : decode code 729 = .ok (.aload_n 0, 1) := by decide +kernel
theorem d_Law_law_730 : decode code 730 = .ok (.iload_n 3, 1) := by decide +kernel
theorem d_Law_law_731 : decode code 731 = .ok (.iconst 1, 1) := by decide +kernel
theorem d_Law_law_732 : decode code 732 = .ok (.iadd, 1) := by decide +kernel
theorem d_Law_law_733 : decode code 733 = .ok (.iaload, 1) := by decide +kernel
theorem d_Law_law_734 : decode code 734 = .ok (.aload_n 0, 1) := by decide +kernel
theorem d_Law_law_735 : decode code 735 = .ok (.iload_n 3, 1) := by decide +kernel
theorem d_Law_law_736 : decode code 736 = .ok (.iconst 2, 1) := by decide +kernel
theorem d_Law_law_737 : decode code 737 = .ok (.iadd, 1) := by decide +kernel
theorem d_Law_law_738 : decode code 738 = .ok (.iaload, 1) := by decide +kernel
theorem d_Law_law_739 : decode code 739 = .ok (.invokevirtual 91, 3) := by decide +kernel
theorem d_Law_law_742 : decode code 742 = .ok (.aload_n 2, 1) := by decide +kernel
theorem d_Law_law_743 : decode code 743 = .ok (.aload_n 0, 1) := by decide +kernel
theorem d_Law_law_744 : decode code 744 = .ok (.iload_n 3, 1) := by decide +kernel
theorem d_Law_law_745 : decode code 745 = .ok (.iconst 1, 1) := by decide +kernel
theorem d_Law_law_746 : decode code 746 = .ok (.iadd, 1) := by decide +kernel
theorem d_Law_law_747 : decode code 747 = .ok (.iaload, 1) := by decide +kernel
theorem d_Law_law_748 : decode code 748 = .ok (.aload_n 0, 1) := by decide +kernel
theorem d_Law_law_749 : decode code 749 = .ok (.iload_n 3, 1) := by decide +kernel
theorem d_Law_law_750 : decode code 750 = .ok (.iconst 2, 1) := by decide +kernel
theorem d_Law_law_751 : decode code 751 = .ok (.iadd, 1) := by decide +kernel
theorem d_Law_law_752 : decode code 752 = .ok (.iaload, 1) := by decide +kernel
theorem d_Law_law_753 : decode code 753 = .ok (.invokevirtual 94, 3) := by decide +kernel
theorem d_Law_law_756 : decode code 756 = .ok (.if_icmp .eq 5, 3) := by decide +kernel
theorem d_Law_law_759 : decode code 759 = .ok (.iconst 0, 1) := by decide +kernel
theorem d_Law_law_760 : decode code 760 = .ok (.ireturn, 1) := by decide +kernel
theorem d_Law_law_761 : decode code 761 = .ok (.iinc 3 5, 3) := by decide +kernel
theorem d_Law_law_764 : decode code 764 = .ok (.goto (-746), 3) := by decide +kernel
theorem d_Law_law_767 : decode code 767 = .ok (.iconst 1, 1) := by decide +kernel
theorem d_Law_law_768 : decode code 768 = .ok (.ireturn, 1) := by decide +kernel
