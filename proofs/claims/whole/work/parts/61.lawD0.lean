/-! DECODE ROWS of the law, by program. -/
theorem dd_L_law_0 : decode L_law.2.1 0 = .ok (.new 7, 3) := by decide +kernel
theorem dd_L_law_3 : decode L_law.2.1 3 = .ok (.dup, 1) := by decide +kernel
theorem dd_L_law_4 : decode L_law.2.1 4 = .ok (.invokespecial 9, 3) := by decide +kernel
theorem dd_L_law_7 : decode L_law.2.1 7 = .ok (.astore_n 1, 1) := by decide +kernel
theorem dd_L_law_8 : decode L_law.2.1 8 = .ok (.new 10, 3) := by decide +kernel
theorem dd_L_law_11 : decode L_law.2.1 11 = .ok (.dup, 1) := by decide +kernel
theorem dd_L_law_12 : decode L_law.2.1 12 = .ok (.invokespecial 12, 3) := by decide +kernel
theorem dd_L_law_15 : decode L_law.2.1 15 = .ok (.astore_n 2, 1) := by decide +kernel
theorem dd_L_law_16 : decode L_law.2.1 16 = .ok (.iconst 0, 1) := by decide +kernel
theorem dd_L_law_17 : decode L_law.2.1 17 = .ok (.istore_n 3, 1) := by decide +kernel
theorem dd_L_law_18 : decode L_law.2.1 18 = .ok (.iload_n 3, 1) := by decide +kernel
theorem dd_L_law_19 : decode L_law.2.1 19 = .ok (.aload_n 0, 1) := by decide +kernel
theorem dd_L_law_20 : decode L_law.2.1 20 = .ok (.arraylength, 1) := by decide +kernel
theorem dd_L_law_21 : decode L_law.2.1 21 = .ok (.iconst 4, 1) := by decide +kernel
theorem dd_L_law_22 : decode L_law.2.1 22 = .ok (.isub, 1) := by decide +kernel
theorem dd_L_law_23 : decode L_law.2.1 23 = .ok (.if_icmp .gt 974, 3) := by decide +kernel
theorem dd_L_law_26 : decode L_law.2.1 26 = .ok (.aload_n 0, 1) := by decide +kernel
theorem dd_L_law_27 : decode L_law.2.1 27 = .ok (.iload_n 3, 1) := by decide +kernel
theorem dd_L_law_28 : decode L_law.2.1 28 = .ok (.iaload, 1) := by decide +kernel
theorem dd_L_law_29 : decode L_law.2.1 29 = .ok (.bipush 31, 2) := by decide +kernel
theorem dd_L_law_31 : decode L_law.2.1 31 = .ok (.iand, 1) := by decide +kernel
theorem dd_L_law_32 : decode L_law.2.1 32 = .ok (.tableswitch 959 0 28 #[132, 155, 168, 181, 194, 227, 260, 303, 336, 359, 392, 405, 428, 451, 484, 507, 540, 573, 606, 629, 662, 685, 728, 761, 794, 837, 870, 913, 936], 132) := by decide +kernel
theorem dd_L_law_164 : decode L_law.2.1 164 = .ok (.aload_n 1, 1) := by decide +kernel
theorem dd_L_law_165 : decode L_law.2.1 165 = .ok (.aload_n 0, 1) := by decide +kernel
theorem dd_L_law_166 : decode L_law.2.1 166 = .ok (.iload_n 3, 1) := by decide +kernel
theorem dd_L_law_167 : decode L_law.2.1 167 = .ok (.iconst 1, 1) := by decide +kernel
theorem dd_L_law_168 : decode L_law.2.1 168 = .ok (.iadd, 1) := by decide +kernel
theorem dd_L_law_169 : decode L_law.2.1 169 = .ok (.iaload, 1) := by decide +kernel
theorem dd_L_law_170 : decode L_law.2.1 170 = .ok (.invokevirtual 13, 3) := by decide +kernel
theorem dd_L_law_173 : decode L_law.2.1 173 = .ok (.aload_n 2, 1) := by decide +kernel
theorem dd_L_law_174 : decode L_law.2.1 174 = .ok (.aload_n 0, 1) := by decide +kernel
theorem dd_L_law_175 : decode L_law.2.1 175 = .ok (.iload_n 3, 1) := by decide +kernel
theorem dd_L_law_176 : decode L_law.2.1 176 = .ok (.iconst 1, 1) := by decide +kernel
theorem dd_L_law_177 : decode L_law.2.1 177 = .ok (.iadd, 1) := by decide +kernel
theorem dd_L_law_178 : decode L_law.2.1 178 = .ok (.iaload, 1) := by decide +kernel
theorem dd_L_law_179 : decode L_law.2.1 179 = .ok (.invokevirtual 17, 3) := by decide +kernel
theorem dd_L_law_182 : decode L_law.2.1 182 = .ok (.if_icmp .eq 809, 3) := by decide +kernel
theorem dd_L_law_187 : decode L_law.2.1 187 = .ok (.aload_n 1, 1) := by decide +kernel
theorem dd_L_law_188 : decode L_law.2.1 188 = .ok (.invokevirtual 18, 3) := by decide +kernel
theorem dd_L_law_191 : decode L_law.2.1 191 = .ok (.aload_n 2, 1) := by decide +kernel
theorem dd_L_law_192 : decode L_law.2.1 192 = .ok (.invokevirtual 22, 3) := by decide +kernel
theorem dd_L_law_195 : decode L_law.2.1 195 = .ok (.if_icmp .eq 796, 3) := by decide +kernel
theorem dd_L_law_200 : decode L_law.2.1 200 = .ok (.aload_n 1, 1) := by decide +kernel
theorem dd_L_law_201 : decode L_law.2.1 201 = .ok (.invokevirtual 23, 3) := by decide +kernel
theorem dd_L_law_204 : decode L_law.2.1 204 = .ok (.aload_n 2, 1) := by decide +kernel
theorem dd_L_law_205 : decode L_law.2.1 205 = .ok (.invokevirtual 26, 3) := by decide +kernel
theorem dd_L_law_208 : decode L_law.2.1 208 = .ok (.if_icmp .eq 783, 3) := by decide +kernel
theorem dd_L_law_213 : decode L_law.2.1 213 = .ok (.aload_n 1, 1) := by decide +kernel
theorem dd_L_law_214 : decode L_law.2.1 214 = .ok (.invokevirtual 27, 3) := by decide +kernel
theorem dd_L_law_217 : decode L_law.2.1 217 = .ok (.aload_n 2, 1) := by decide +kernel
theorem dd_L_law_218 : decode L_law.2.1 218 = .ok (.invokevirtual 30, 3) := by decide +kernel
theorem dd_L_law_221 : decode L_law.2.1 221 = .ok (.if_icmp .eq 770, 3) := by decide +kernel
theorem dd_L_law_226 : decode L_law.2.1 226 = .ok (.aload_n 1, 1) := by decide +kernel
theorem dd_L_law_227 : decode L_law.2.1 227 = .ok (.aload_n 0, 1) := by decide +kernel
theorem dd_L_law_228 : decode L_law.2.1 228 = .ok (.iload_n 3, 1) := by decide +kernel
theorem dd_L_law_229 : decode L_law.2.1 229 = .ok (.iconst 1, 1) := by decide +kernel
theorem dd_L_law_230 : decode L_law.2.1 230 = .ok (.iadd, 1) := by decide +kernel
theorem dd_L_law_231 : decode L_law.2.1 231 = .ok (.iaload, 1) := by decide +kernel
theorem dd_L_law_232 : decode L_law.2.1 232 = .ok (.aload_n 0, 1) := by decide +kernel
theorem dd_L_law_233 : decode L_law.2.1 233 = .ok (.iload_n 3, 1) := by decide +kernel
theorem dd_L_law_234 : decode L_law.2.1 234 = .ok (.iconst 2, 1) := by decide +kernel
theorem dd_L_law_235 : decode L_law.2.1 235 = .ok (.iadd, 1) := by decide +kernel
theorem dd_L_law_236 : decode L_law.2.1 236 = .ok (.iaload, 1) := by decide +kernel
theorem dd_L_law_237 : decode L_law.2.1 237 = .ok (.invokevirtual 31, 3) := by decide +kernel
theorem dd_L_law_240 : decode L_law.2.1 240 = .ok (.aload_n 2, 1) := by decide +kernel
theorem dd_L_law_241 : decode L_law.2.1 241 = .ok (.aload_n 0, 1) := by decide +kernel
theorem dd_L_law_242 : decode L_law.2.1 242 = .ok (.iload_n 3, 1) := by decide +kernel
theorem dd_L_law_243 : decode L_law.2.1 243 = .ok (.iconst 1, 1) := by decide +kernel
theorem dd_L_law_244 : decode L_law.2.1 244 = .ok (.iadd, 1) := by decide +kernel
theorem dd_L_law_245 : decode L_law.2.1 245 = .ok (.iaload, 1) := by decide +kernel
theorem dd_L_law_246 : decode L_law.2.1 246 = .ok (.aload_n 0, 1) := by decide +kernel
theorem dd_L_law_247 : decode L_law.2.1 247 = .ok (.iload_n 3, 1) := by decide +kernel
theorem dd_L_law_248 : decode L_law.2.1 248 = .ok (.iconst 2, 1) := by decide +kernel
theorem dd_L_law_249 : decode L_law.2.1 249 = .ok (.iadd, 1) := by decide +kernel
theorem dd_L_law_250 : decode L_law.2.1 250 = .ok (.iaload, 1) := by decide +kernel
theorem dd_L_law_251 : decode L_law.2.1 251 = .ok (.invokevirtual 35, 3) := by decide +kernel
theorem dd_L_law_254 : decode L_law.2.1 254 = .ok (.if_icmp .eq 737, 3) := by decide +kernel
theorem dd_L_law_259 : decode L_law.2.1 259 = .ok (.aload_n 1, 1) := by decide +kernel
theorem dd_L_law_260 : decode L_law.2.1 260 = .ok (.aload_n 0, 1) := by decide +kernel
theorem dd_L_law_261 : decode L_law.2.1 261 = .ok (.iload_n 3, 1) := by decide +kernel
theorem dd_L_law_262 : decode L_law.2.1 262 = .ok (.iconst 1, 1) := by decide +kernel
theorem dd_L_law_263 : decode L_law.2.1 263 = .ok (.iadd, 1) := by decide +kernel
theorem dd_L_law_264 : decode L_law.2.1 264 = .ok (.iaload, 1) := by decide +kernel
theorem dd_L_law_265 : decode L_law.2.1 265 = .ok (.aload_n 0, 1) := by decide +kernel
theorem dd_L_law_266 : decode L_law.2.1 266 = .ok (.iload_n 3, 1) := by decide +kernel
theorem dd_L_law_267 : decode L_law.2.1 267 = .ok (.iconst 2, 1) := by decide +kernel
theorem dd_L_law_268 : decode L_law.2.1 268 = .ok (.iadd, 1) := by decide +kernel
theorem dd_L_law_269 : decode L_law.2.1 269 = .ok (.iaload, 1) := by decide +kernel
theorem dd_L_law_270 : decode L_law.2.1 270 = .ok (.invokevirtual 36, 3) := by decide +kernel
theorem dd_L_law_273 : decode L_law.2.1 273 = .ok (.aload_n 2, 1) := by decide +kernel
theorem dd_L_law_274 : decode L_law.2.1 274 = .ok (.aload_n 0, 1) := by decide +kernel
theorem dd_L_law_275 : decode L_law.2.1 275 = .ok (.iload_n 3, 1) := by decide +kernel
theorem dd_L_law_276 : decode L_law.2.1 276 = .ok (.iconst 1, 1) := by decide +kernel
theorem dd_L_law_277 : decode L_law.2.1 277 = .ok (.iadd, 1) := by decide +kernel
theorem dd_L_law_278 : decode L_law.2.1 278 = .ok (.iaload, 1) := by decide +kernel
theorem dd_L_law_279 : decode L_law.2.1 279 = .ok (.aload_n 0, 1) := by decide +kernel
theorem dd_L_law_280 : decode L_law.2.1 280 = .ok (.iload_n 3, 1) := by decide +kernel
theorem dd_L_law_281 : decode L_law.2.1 281 = .ok (.iconst 2, 1) := by decide +kernel
theorem dd_L_law_282 : decode L_law.2.1 282 = .ok (.iadd, 1) := by decide +kernel
theorem dd_L_law_283 : decode L_law.2.1 283 = .ok (.iaload, 1) := by decide +kernel
theorem dd_L_law_284 : decode L_law.2.1 284 = .ok (.invokevirtual 39, 3) := by decide +kernel
theorem dd_L_law_287 : decode L_law.2.1 287 = .ok (.if_icmp .eq 704, 3) := by decide +kernel
theorem dd_L_law_292 : decode L_law.2.1 292 = .ok (.aload_n 1, 1) := by decide +kernel
theorem dd_L_law_293 : decode L_law.2.1 293 = .ok (.aload_n 0, 1) := by decide +kernel
theorem dd_L_law_294 : decode L_law.2.1 294 = .ok (.iload_n 3, 1) := by decide +kernel
theorem dd_L_law_295 : decode L_law.2.1 295 = .ok (.iconst 1, 1) := by decide +kernel
theorem dd_L_law_296 : decode L_law.2.1 296 = .ok (.iadd, 1) := by decide +kernel
theorem dd_L_law_297 : decode L_law.2.1 297 = .ok (.iaload, 1) := by decide +kernel
theorem dd_L_law_298 : decode L_law.2.1 298 = .ok (.aload_n 0, 1) := by decide +kernel
theorem dd_L_law_299 : decode L_law.2.1 299 = .ok (.iload_n 3, 1) := by decide +kernel
theorem dd_L_law_300 : decode L_law.2.1 300 = .ok (.iconst 2, 1) := by decide +kernel
theorem dd_L_law_301 : decode L_law.2.1 301 = .ok (.iadd, 1) := by decide +kernel
theorem dd_L_law_302 : decode L_law.2.1 302 = .ok (.iaload, 1) := by decide +kernel
theorem dd_L_law_303 : decode L_law.2.1 303 = .ok (.aload_n 0, 1) := by decide +kernel
theorem dd_L_law_304 : decode L_law.2.1 304 = .ok (.iload_n 3, 1) := by decide +kernel
theorem dd_L_law_305 : decode L_law.2.1 305 = .ok (.iconst 3, 1) := by decide +kernel
theorem dd_L_law_306 : decode L_law.2.1 306 = .ok (.iadd, 1) := by decide +kernel
theorem dd_L_law_307 : decode L_law.2.1 307 = .ok (.iaload, 1) := by decide +kernel
theorem dd_L_law_308 : decode L_law.2.1 308 = .ok (.invokevirtual 40, 3) := by decide +kernel
theorem dd_L_law_311 : decode L_law.2.1 311 = .ok (.aload_n 2, 1) := by decide +kernel
theorem dd_L_law_312 : decode L_law.2.1 312 = .ok (.aload_n 0, 1) := by decide +kernel
theorem dd_L_law_313 : decode L_law.2.1 313 = .ok (.iload_n 3, 1) := by decide +kernel
theorem dd_L_law_314 : decode L_law.2.1 314 = .ok (.iconst 1, 1) := by decide +kernel
theorem dd_L_law_315 : decode L_law.2.1 315 = .ok (.iadd, 1) := by decide +kernel
theorem dd_L_law_316 : decode L_law.2.1 316 = .ok (.iaload, 1) := by decide +kernel
theorem dd_L_law_317 : decode L_law.2.1 317 = .ok (.aload_n 0, 1) := by decide +kernel
theorem dd_L_law_318 : decode L_law.2.1 318 = .ok (.iload_n 3, 1) := by decide +kernel
theorem dd_L_law_319 : decode L_law.2.1 319 = .ok (.iconst 2, 1) := by decide +kernel
theorem dd_L_law_320 : decode L_law.2.1 320 = .ok (.iadd, 1) := by decide +kernel
theorem dd_L_law_321 : decode L_law.2.1 321 = .ok (.iaload, 1) := by decide +kernel
theorem dd_L_law_322 : decode L_law.2.1 322 = .ok (.aload_n 0, 1) := by decide +kernel
theorem dd_L_law_323 : decode L_law.2.1 323 = .ok (.iload_n 3, 1) := by decide +kernel
theorem dd_L_law_324 : decode L_law.2.1 324 = .ok (.iconst 3, 1) := by decide +kernel
theorem dd_L_law_325 : decode L_law.2.1 325 = .ok (.iadd, 1) := by decide +kernel
theorem dd_L_law_326 : decode L_law.2.1 326 = .ok (.iaload, 1) := by decide +kernel
theorem dd_L_law_327 : decode L_law.2.1 327 = .ok (.invokevirtual 44, 3) := by decide +kernel
theorem dd_L_law_330 : decode L_law.2.1 330 = .ok (.if_icmp .eq 661, 3) := by decide +kernel
theorem dd_L_law_335 : decode L_law.2.1 335 = .ok (.aload_n 1, 1) := by decide +kernel
theorem dd_L_law_336 : decode L_law.2.1 336 = .ok (.aload_n 0, 1) := by decide +kernel
theorem dd_L_law_337 : decode L_law.2.1 337 = .ok (.iload_n 3, 1) := by decide +kernel
theorem dd_L_law_338 : decode L_law.2.1 338 = .ok (.iconst 1, 1) := by decide +kernel
theorem dd_L_law_339 : decode L_law.2.1 339 = .ok (.iadd, 1) := by decide +kernel
theorem dd_L_law_340 : decode L_law.2.1 340 = .ok (.iaload, 1) := by decide +kernel
theorem dd_L_law_341 : decode L_law.2.1 341 = .ok (.aload_n 0, 1) := by decide +kernel
theorem dd_L_law_342 : decode L_law.2.1 342 = .ok (.iload_n 3, 1) := by decide +kernel
theorem dd_L_law_343 : decode L_law.2.1 343 = .ok (.iconst 2, 1) := by decide +kernel
theorem dd_L_law_344 : decode L_law.2.1 344 = .ok (.iadd, 1) := by decide +kernel
theorem dd_L_law_345 : decode L_law.2.1 345 = .ok (.iaload, 1) := by decide +kernel
theorem dd_L_law_346 : decode L_law.2.1 346 = .ok (.invokevirtual 45, 3) := by decide +kernel
theorem dd_L_law_349 : decode L_law.2.1 349 = .ok (.aload_n 2, 1) := by decide +kernel
theorem dd_L_law_350 : decode L_law.2.1 350 = .ok (.aload_n 0, 1) := by decide +kernel
theorem dd_L_law_351 : decode L_law.2.1 351 = .ok (.iload_n 3, 1) := by decide +kernel
theorem dd_L_law_352 : decode L_law.2.1 352 = .ok (.iconst 1, 1) := by decide +kernel
theorem dd_L_law_353 : decode L_law.2.1 353 = .ok (.iadd, 1) := by decide +kernel
theorem dd_L_law_354 : decode L_law.2.1 354 = .ok (.iaload, 1) := by decide +kernel
theorem dd_L_law_355 : decode L_law.2.1 355 = .ok (.aload_n 0, 1) := by decide +kernel
theorem dd_L_law_356 : decode L_law.2.1 356 = .ok (.iload_n 3, 1) := by decide +kernel
theorem dd_L_law_357 : decode L_law.2.1 357 = .ok (.iconst 2, 1) := by decide +kernel
theorem dd_L_law_358 : decode L_law.2.1 358 = .ok (.iadd, 1) := by decide +kernel
theorem dd_L_law_359 : decode L_law.2.1 359 = .ok (.iaload, 1) := by decide +kernel
