theorem dLL_law_217 : decode cLL_law 217 = .ok (.iadd, 1) := by decide +kernel
theorem dLL_law_218 : decode cLL_law 218 = .ok (.iaload, 1) := by decide +kernel
theorem dLL_law_219 : decode cLL_law 219 = .ok (.aload_n 3, 1) := by decide +kernel
theorem dLL_law_220 : decode cLL_law 220 = .ok (.invokestatic 46, 3) := by decide +kernel
theorem dLL_law_223 : decode cLL_law 223 = .ok (.istore 5, 2) := by decide +kernel
theorem dLL_law_225 : decode cLL_law 225 = .ok (.aload_n 2, 1) := by decide +kernel
theorem dLL_law_226 : decode cLL_law 226 = .ok (.aload_n 0, 1) := by decide +kernel
theorem dLL_law_227 : decode cLL_law 227 = .ok (.iload 4, 2) := by decide +kernel
theorem dLL_law_229 : decode cLL_law 229 = .ok (.iconst 1, 1) := by decide +kernel
theorem dLL_law_230 : decode cLL_law 230 = .ok (.iadd, 1) := by decide +kernel
theorem dLL_law_231 : decode cLL_law 231 = .ok (.iaload, 1) := by decide +kernel
theorem dLL_law_232 : decode cLL_law 232 = .ok (.aload_n 0, 1) := by decide +kernel
theorem dLL_law_233 : decode cLL_law 233 = .ok (.iload 4, 2) := by decide +kernel
theorem dLL_law_235 : decode cLL_law 235 = .ok (.iconst 2, 1) := by decide +kernel
theorem dLL_law_236 : decode cLL_law 236 = .ok (.iadd, 1) := by decide +kernel
theorem dLL_law_237 : decode cLL_law 237 = .ok (.iaload, 1) := by decide +kernel
theorem dLL_law_238 : decode cLL_law 238 = .ok (.invokevirtual 51, 3) := by decide +kernel
theorem dLL_law_241 : decode cLL_law 241 = .ok (.istore 6, 2) := by decide +kernel
theorem dLL_law_243 : decode cLL_law 243 = .ok (.aload_n 2, 1) := by decide +kernel
theorem dLL_law_244 : decode cLL_law 244 = .ok (.invokevirtual 52, 3) := by decide +kernel
theorem dLL_law_247 : decode cLL_law 247 = .ok (.iload 5, 2) := by decide +kernel
theorem dLL_law_249 : decode cLL_law 249 = .ok (.if_icmp .eq 5, 3) := by decide +kernel
theorem dLL_law_252 : decode cLL_law 252 = .ok (.iconst 0, 1) := by decide +kernel
theorem dLL_law_253 : decode cLL_law 253 = .ok (.ireturn, 1) := by decide +kernel
theorem dLL_law_254 : decode cLL_law 254 = .ok (.iload 5, 2) := by decide +kernel
theorem dLL_law_256 : decode cLL_law 256 = .ok (.ifCond .ne 15, 3) := by decide +kernel
theorem dLL_law_259 : decode cLL_law 259 = .ok (.aload_n 3, 1) := by decide +kernel
theorem dLL_law_260 : decode cLL_law 260 = .ok (.iconst 0, 1) := by decide +kernel
theorem dLL_law_261 : decode cLL_law 261 = .ok (.laload, 1) := by decide +kernel
theorem dLL_law_262 : decode cLL_law 262 = .ok (.iload 6, 2) := by decide +kernel
theorem dLL_law_264 : decode cLL_law 264 = .ok (.i2l, 1) := by decide +kernel
theorem dLL_law_265 : decode cLL_law 265 = .ok (.lcmp, 1) := by decide +kernel
theorem dLL_law_266 : decode cLL_law 266 = .ok (.ifCond .eq 5, 3) := by decide +kernel
theorem dLL_law_269 : decode cLL_law 269 = .ok (.iconst 0, 1) := by decide +kernel
theorem dLL_law_270 : decode cLL_law 270 = .ok (.ireturn, 1) := by decide +kernel
theorem dLL_law_271 : decode cLL_law 271 = .ok (.goto 352, 3) := by decide +kernel
theorem dLL_law_274 : decode cLL_law 274 = .ok (.aload_n 1, 1) := by decide +kernel
theorem dLL_law_275 : decode cLL_law 275 = .ok (.invokevirtual 55, 3) := by decide +kernel
theorem dLL_law_278 : decode cLL_law 278 = .ok (.aload_n 2, 1) := by decide +kernel
theorem dLL_law_279 : decode cLL_law 279 = .ok (.invokevirtual 58, 3) := by decide +kernel
theorem dLL_law_282 : decode cLL_law 282 = .ok (.goto 341, 3) := by decide +kernel
theorem dLL_law_285 : decode cLL_law 285 = .ok (.aload_n 1, 1) := by decide +kernel
theorem dLL_law_286 : decode cLL_law 286 = .ok (.invokevirtual 59, 3) := by decide +kernel
theorem dLL_law_289 : decode cLL_law 289 = .ok (.aload_n 2, 1) := by decide +kernel
theorem dLL_law_290 : decode cLL_law 290 = .ok (.invokevirtual 63, 3) := by decide +kernel
theorem dLL_law_293 : decode cLL_law 293 = .ok (.lcmp, 1) := by decide +kernel
theorem dLL_law_294 : decode cLL_law 294 = .ok (.ifCond .eq 329, 3) := by decide +kernel
theorem dLL_law_297 : decode cLL_law 297 = .ok (.iconst 0, 1) := by decide +kernel
theorem dLL_law_298 : decode cLL_law 298 = .ok (.ireturn, 1) := by decide +kernel
theorem dLL_law_299 : decode cLL_law 299 = .ok (.aload_n 1, 1) := by decide +kernel
theorem dLL_law_300 : decode cLL_law 300 = .ok (.aload_n 0, 1) := by decide +kernel
theorem dLL_law_301 : decode cLL_law 301 = .ok (.iload 4, 2) := by decide +kernel
theorem dLL_law_303 : decode cLL_law 303 = .ok (.iconst 1, 1) := by decide +kernel
theorem dLL_law_304 : decode cLL_law 304 = .ok (.iadd, 1) := by decide +kernel
theorem dLL_law_305 : decode cLL_law 305 = .ok (.iaload, 1) := by decide +kernel
theorem dLL_law_306 : decode cLL_law 306 = .ok (.invokevirtual 64, 3) := by decide +kernel
theorem dLL_law_309 : decode cLL_law 309 = .ok (.aload_n 2, 1) := by decide +kernel
theorem dLL_law_310 : decode cLL_law 310 = .ok (.aload_n 0, 1) := by decide +kernel
theorem dLL_law_311 : decode cLL_law 311 = .ok (.iload 4, 2) := by decide +kernel
theorem dLL_law_313 : decode cLL_law 313 = .ok (.iconst 1, 1) := by decide +kernel
theorem dLL_law_314 : decode cLL_law 314 = .ok (.iadd, 1) := by decide +kernel
theorem dLL_law_315 : decode cLL_law 315 = .ok (.iaload, 1) := by decide +kernel
theorem dLL_law_316 : decode cLL_law 316 = .ok (.invokevirtual 67, 3) := by decide +kernel
theorem dLL_law_319 : decode cLL_law 319 = .ok (.if_icmp .eq 304, 3) := by decide +kernel
theorem dLL_law_322 : decode cLL_law 322 = .ok (.iconst 0, 1) := by decide +kernel
theorem dLL_law_323 : decode cLL_law 323 = .ok (.ireturn, 1) := by decide +kernel
theorem dLL_law_324 : decode cLL_law 324 = .ok (.aload_n 1, 1) := by decide +kernel
theorem dLL_law_325 : decode cLL_law 325 = .ok (.aload_n 0, 1) := by decide +kernel
theorem dLL_law_326 : decode cLL_law 326 = .ok (.iload 4, 2) := by decide +kernel
theorem dLL_law_328 : decode cLL_law 328 = .ok (.iconst 1, 1) := by decide +kernel
theorem dLL_law_329 : decode cLL_law 329 = .ok (.iadd, 1) := by decide +kernel
theorem dLL_law_330 : decode cLL_law 330 = .ok (.iaload, 1) := by decide +kernel
theorem dLL_law_331 : decode cLL_law 331 = .ok (.invokevirtual 68, 3) := by decide +kernel
theorem dLL_law_334 : decode cLL_law 334 = .ok (.aload_n 2, 1) := by decide +kernel
theorem dLL_law_335 : decode cLL_law 335 = .ok (.aload_n 0, 1) := by decide +kernel
theorem dLL_law_336 : decode cLL_law 336 = .ok (.iload 4, 2) := by decide +kernel
theorem dLL_law_338 : decode cLL_law 338 = .ok (.iconst 1, 1) := by decide +kernel
theorem dLL_law_339 : decode cLL_law 339 = .ok (.iadd, 1) := by decide +kernel
theorem dLL_law_340 : decode cLL_law 340 = .ok (.iaload, 1) := by decide +kernel
theorem dLL_law_341 : decode cLL_law 341 = .ok (.invokevirtual 71, 3) := by decide +kernel
theorem dLL_law_344 : decode cLL_law 344 = .ok (.if_icmp .eq 279, 3) := by decide +kernel
theorem dLL_law_347 : decode cLL_law 347 = .ok (.iconst 0, 1) := by decide +kernel
theorem dLL_law_348 : decode cLL_law 348 = .ok (.ireturn, 1) := by decide +kernel
theorem dLL_law_349 : decode cLL_law 349 = .ok (.aload_n 1, 1) := by decide +kernel
theorem dLL_law_350 : decode cLL_law 350 = .ok (.aload_n 0, 1) := by decide +kernel
theorem dLL_law_351 : decode cLL_law 351 = .ok (.iload 4, 2) := by decide +kernel
theorem dLL_law_353 : decode cLL_law 353 = .ok (.iconst 1, 1) := by decide +kernel
theorem dLL_law_354 : decode cLL_law 354 = .ok (.iadd, 1) := by decide +kernel
theorem dLL_law_355 : decode cLL_law 355 = .ok (.iaload, 1) := by decide +kernel
theorem dLL_law_356 : decode cLL_law 356 = .ok (.aload_n 0, 1) := by decide +kernel
