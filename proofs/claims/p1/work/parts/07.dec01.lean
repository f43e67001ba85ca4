theorem d_Law_exported_18 : decode b_Law_exported 18 = .ok (.ireturn, 1) := by decide +kernel
theorem d_Law_fault_0 : decode b_Law_fault 0 = .ok (.aload_n 2, 1) := by decide +kernel
theorem d_Law_fault_1 : decode b_Law_fault 1 = .ok (.iconst 0, 1) := by decide +kernel
theorem d_Law_fault_2 : decode b_Law_fault 2 = .ok (.aload_n 0, 1) := by decide +kernel
theorem d_Law_fault_3 : decode b_Law_fault 3 = .ok (.iload_n 1, 1) := by decide +kernel
theorem d_Law_fault_4 : decode b_Law_fault 4 = .ok (.invokevirtual 25, 3) := by decide +kernel
theorem d_Law_fault_7 : decode b_Law_fault 7 = .ok (.i2l, 1) := by decide +kernel
theorem d_Law_fault_8 : decode b_Law_fault 8 = .ok (.lastore, 1) := by decide +kernel
theorem d_Law_fault_9 : decode b_Law_fault 9 = .ok (.goto 6, 3) := by decide +kernel
theorem d_Law_fault_12 : decode b_Law_fault 12 = .ok (.astore_n 3, 1) := by decide +kernel
theorem d_Law_fault_13 : decode b_Law_fault 13 = .ok (.iconst 1, 1) := by decide +kernel
theorem d_Law_fault_14 : decode b_Law_fault 14 = .ok (.ireturn, 1) := by decide +kernel
theorem d_Law_fault_15 : decode b_Law_fault 15 = .ok (.iconst 0, 1) := by decide +kernel
theorem d_Law_fault_16 : decode b_Law_fault 16 = .ok (.ireturn, 1) := by decide +kernel
theorem d_Law_feed_0 : decode b_Law_feed 0 = .ok (.aload 6, 2) := by decide +kernel
theorem d_Law_feed_2 : decode b_Law_feed 2 = .ok (.iconst 0, 1) := by decide +kernel
theorem d_Law_feed_3 : decode b_Law_feed 3 = .ok (.aload_n 0, 1) := by decide +kernel
theorem d_Law_feed_4 : decode b_Law_feed 4 = .ok (.iload_n 1, 1) := by decide +kernel
theorem d_Law_feed_5 : decode b_Law_feed 5 = .ok (.iload_n 2, 1) := by decide +kernel
theorem d_Law_feed_6 : decode b_Law_feed 6 = .ok (.iload_n 3, 1) := by decide +kernel
theorem d_Law_feed_7 : decode b_Law_feed 7 = .ok (.iload 4, 2) := by decide +kernel
theorem d_Law_feed_9 : decode b_Law_feed 9 = .ok (.iload 5, 2) := by decide +kernel
theorem d_Law_feed_11 : decode b_Law_feed 11 = .ok (.invokevirtual 7, 3) := by decide +kernel
theorem d_Law_feed_14 : decode b_Law_feed 14 = .ok (.i2l, 1) := by decide +kernel
theorem d_Law_feed_15 : decode b_Law_feed 15 = .ok (.lastore, 1) := by decide +kernel
theorem d_Law_feed_16 : decode b_Law_feed 16 = .ok (.goto 7, 3) := by decide +kernel
theorem d_Law_feed_23 : decode b_Law_feed 23 = .ok (.iconst 0, 1) := by decide +kernel
theorem d_Law_feed_24 : decode b_Law_feed 24 = .ok (.ireturn, 1) := by decide +kernel
theorem d_Law_find_0 : decode b_Law_find 0 = .ok (.aload_n 2, 1) := by decide +kernel
theorem d_Law_find_1 : decode b_Law_find 1 = .ok (.iconst 0, 1) := by decide +kernel
theorem d_Law_find_2 : decode b_Law_find 2 = .ok (.aload_n 0, 1) := by decide +kernel
theorem d_Law_find_3 : decode b_Law_find 3 = .ok (.iload_n 1, 1) := by decide +kernel
theorem d_Law_find_4 : decode b_Law_find 4 = .ok (.invokevirtual 44, 3) := by decide +kernel
theorem d_Law_find_12 : decode b_Law_find 12 = .ok (.astore_n 3, 1) := by decide +kernel
theorem d_Law_find_13 : decode b_Law_find 13 = .ok (.iconst 1, 1) := by decide +kernel
theorem d_Law_find_14 : decode b_Law_find 14 = .ok (.ireturn, 1) := by decide +kernel
theorem d_Law_instantiate_0 : decode b_Law_instantiate 0 = .ok (.aload_n 2, 1) := by decide +kernel
theorem d_Law_instantiate_1 : decode b_Law_instantiate 1 = .ok (.iconst 0, 1) := by decide +kernel
theorem d_Law_instantiate_2 : decode b_Law_instantiate 2 = .ok (.aload_n 0, 1) := by decide +kernel
theorem d_Law_instantiate_3 : decode b_Law_instantiate 3 = .ok (.iload_n 1, 1) := by decide +kernel
theorem d_Law_instantiate_4 : decode b_Law_instantiate 4 = .ok (.invokevirtual 38, 3) := by decide +kernel
theorem d_Law_instantiate_12 : decode b_Law_instantiate 12 = .ok (.astore_n 3, 1) := by decide +kernel
theorem d_Law_instantiate_13 : decode b_Law_instantiate 13 = .ok (.iconst 1, 1) := by decide +kernel
theorem d_Law_instantiate_14 : decode b_Law_instantiate 14 = .ok (.ireturn, 1) := by decide +kernel
theorem d_Law_invoke_0 : decode b_Law_invoke 0 = .ok (.aload_n 0, 1) := by decide +kernel
theorem d_Law_invoke_1 : decode b_Law_invoke 1 = .ok (.iload_n 1, 1) := by decide +kernel
theorem d_Law_invoke_2 : decode b_Law_invoke 2 = .ok (.iload_n 2, 1) := by decide +kernel
theorem d_Law_invoke_3 : decode b_Law_invoke 3 = .ok (.invokevirtual 55, 3) := by decide +kernel
theorem d_Law_invoke_9 : decode b_Law_invoke 9 = .ok (.astore_n 3, 1) := by decide +kernel
theorem d_Law_invoke_10 : decode b_Law_invoke 10 = .ok (.iconst 1, 1) := by decide +kernel
theorem d_Law_invoke_11 : decode b_Law_invoke 11 = .ok (.ireturn, 1) := by decide +kernel
theorem d_Law_law_0 : decode b_Law_law 0 = .ok (.new 8, 3) := by decide +kernel
theorem d_Law_law_3 : decode b_Law_law 3 = .ok (.dup, 1) := by decide +kernel
theorem d_Law_law_4 : decode b_Law_law 4 = .ok (.invokespecial 86, 3) := by decide +kernel
theorem d_Law_law_7 : decode b_Law_law 7 = .ok (.astore_n 1, 1) := by decide +kernel
theorem d_Law_law_8 : decode b_Law_law 8 = .ok (.new 87, 3) := by decide +kernel
theorem d_Law_law_11 : decode b_Law_law 11 = .ok (.dup, 1) := by decide +kernel
theorem d_Law_law_12 : decode b_Law_law 12 = .ok (.invokespecial 89, 3) := by decide +kernel
theorem d_Law_law_15 : decode b_Law_law 15 = .ok (.astore_n 2, 1) := by decide +kernel
theorem d_Law_law_16 : decode b_Law_law 16 = .ok (.iconst 1, 1) := by decide +kernel
theorem d_Law_law_17 : decode b_Law_law 17 = .ok (.newarray .long, 2) := by decide +kernel
theorem d_Law_law_19 : decode b_Law_law 19 = .ok (.astore_n 3, 1) := by decide +kernel
theorem d_Law_law_20 : decode b_Law_law 20 = .ok (.iconst 0, 1) := by decide +kernel
theorem d_Law_law_21 : decode b_Law_law 21 = .ok (.istore 4, 2) := by decide +kernel
theorem d_Law_law_23 : decode b_Law_law 23 = .ok (.iload 4, 2) := by decide +kernel
theorem d_Law_law_25 : decode b_Law_law 25 = .ok (.aload_n 0, 1) := by decide +kernel
theorem d_Law_law_26 : decode b_Law_law 26 = .ok (.arraylength, 1) := by decide +kernel
theorem d_Law_law_27 : decode b_Law_law 27 = .ok (.bipush 6, 2) := by decide +kernel
theorem d_Law_law_29 : decode b_Law_law 29 = .ok (.isub, 1) := by decide +kernel
theorem d_Law_law_30 : decode b_Law_law 30 = .ok (.if_icmp .gt 1441, 3) := by decide +kernel
theorem d_Law_law_33 : decode b_Law_law 33 = .ok (.aload_n 0, 1) := by decide +kernel
theorem d_Law_law_34 : decode b_Law_law 34 = .ok (.iload 4, 2) := by decide +kernel
theorem d_Law_law_36 : decode b_Law_law 36 = .ok (.iaload, 1) := by decide +kernel
theorem d_Law_law_37 : decode b_Law_law 37 = .ok (.bipush 31, 2) := by decide +kernel
theorem d_Law_law_39 : decode b_Law_law 39 = .ok (.iand, 1) := by decide +kernel
theorem d_Law_law_40 : decode b_Law_law 40 = .ok (.tableswitch 1425 0 25 #[120, 224, 260, 304, 360, 428, 496, 552, 588, 644, 724, 812, 860, 916, 929, 942, 956, 1012, 1068, 1136, 1196, 1263, 1331, 1344, 1357, 1412], 120) := by decide +kernel
theorem d_Law_law_160 : decode b_Law_law 160 = .ok (.aload_n 1, 1) := by decide +kernel
theorem d_Law_law_161 : decode b_Law_law 161 = .ok (.aload_n 0, 1) := by decide +kernel
theorem d_Law_law_162 : decode b_Law_law 162 = .ok (.iload 4, 2) := by decide +kernel
theorem d_Law_law_164 : decode b_Law_law 164 = .ok (.iconst 1, 1) := by decide +kernel
theorem d_Law_law_165 : decode b_Law_law 165 = .ok (.iadd, 1) := by decide +kernel
theorem d_Law_law_166 : decode b_Law_law 166 = .ok (.iaload, 1) := by decide +kernel
theorem d_Law_law_167 : decode b_Law_law 167 = .ok (.aload_n 0, 1) := by decide +kernel
theorem d_Law_law_168 : decode b_Law_law 168 = .ok (.iload 4, 2) := by decide +kernel
theorem d_Law_law_170 : decode b_Law_law 170 = .ok (.iconst 2, 1) := by decide +kernel
theorem d_Law_law_171 : decode b_Law_law 171 = .ok (.iadd, 1) := by decide +kernel
theorem d_Law_law_172 : decode b_Law_law 172 = .ok (.iaload, 1) := by decide +kernel
theorem d_Law_law_173 : decode b_Law_law 173 = .ok (.aload_n 0, 1) := by decide +kernel
theorem d_Law_law_174 : decode b_Law_law 174 = .ok (.iload 4, 2) := by decide +kernel
theorem d_Law_law_176 : decode b_Law_law 176 = .ok (.iconst 3, 1) := by decide +kernel
theorem d_Law_law_177 : decode b_Law_law 177 = .ok (.iadd, 1) := by decide +kernel
theorem d_Law_law_178 : decode b_Law_law 178 = .ok (.iaload, 1) := by decide +kernel
theorem d_Law_law_179 : decode b_Law_law 179 = .ok (.aload_n 0, 1) := by decide +kernel
theorem d_Law_law_180 : decode b_Law_law 180 = .ok (.iload 4, 2) := by decide +kernel
theorem d_Law_law_182 : decode b_Law_law 182 = .ok (.iconst 4, 1) := by decide +kernel
theorem d_Law_law_183 : decode b_Law_law 183 = .ok (.iadd, 1) := by decide +kernel
theorem d_Law_law_184 : decode b_Law_law 184 = .ok (.iaload, 1) := by decide +kernel
theorem d_Law_law_185 : decode b_Law_law 185 = .ok (.aload_n 0, 1) := by decide +kernel
theorem d_Law_law_186 : decode b_Law_law 186 = .ok (.iload 4, 2) := by decide +kernel
theorem d_Law_law_188 : decode b_Law_law 188 = .ok (.iconst 5, 1) := by decide +kernel
theorem d_Law_law_189 : decode b_Law_law 189 = .ok (.iadd, 1) := by decide +kernel
theorem d_Law_law_190 : decode b_Law_law 190 = .ok (.iaload, 1) := by decide +kernel
theorem d_Law_law_191 : decode b_Law_law 191 = .ok (.aload_n 3, 1) := by decide +kernel
theorem d_Law_law_192 : decode b_Law_law 192 = .ok (.invokestatic 90, 3) := by decide +kernel
theorem d_Law_law_195 : decode b_Law_law 195 = .ok (.istore 5, 2) := by decide +kernel
theorem d_Law_law_197 : decode b_Law_law 197 = .ok (.aload_n 2, 1) := by decide +kernel
theorem d_Law_law_198 : decode b_Law_law 198 = .ok (.aload_n 0, 1) := by decide +kernel
theorem d_Law_law_199 : decode b_Law_law 199 = .ok (.iload 4, 2) := by decide +kernel
theorem d_Law_law_201 : decode b_Law_law 201 = .ok (.iconst 1, 1) := by decide +kernel
theorem d_Law_law_202 : decode b_Law_law 202 = .ok (.iadd, 1) := by decide +kernel
theorem d_Law_law_203 : decode b_Law_law 203 = .ok (.iaload, 1) := by decide +kernel
theorem d_Law_law_204 : decode b_Law_law 204 = .ok (.aload_n 0, 1) := by decide +kernel
theorem d_Law_law_205 : decode b_Law_law 205 = .ok (.iload 4, 2) := by decide +kernel
theorem d_Law_law_207 : decode b_Law_law 207 = .ok (.iconst 2, 1) := by decide +kernel
theorem d_Law_law_208 : decode b_Law_law 208 = .ok (.iadd, 1) := by decide +kernel
theorem d_Law_law_209 : decode b_Law_law 209 = .ok (.iaload, 1) := by decide +kernel
theorem d_Law_law_210 : decode b_Law_law 210 = .ok (.aload_n 0, 1) := by decide +kernel
theorem d_Law_law_211 : decode b_Law_law 211 = .ok (.iload 4, 2) := by decide +kernel
theorem d_Law_law_213 : decode b_Law_law 213 = .ok (.iconst 3, 1) := by decide +kernel
theorem d_Law_law_214 : decode b_Law_law 214 = .ok (.iadd, 1) := by decide +kernel
theorem d_Law_law_215 : decode b_Law_law 215 = .ok (.iaload, 1) := by decide +kernel
theorem d_Law_law_216 : decode b_Law_law 216 = .ok (.aload_n 0, 1) := by decide +kernel
theorem d_Law_law_217 : decode b_Law_law 217 = .ok (.iload 4, 2) := by decide +kernel
theorem d_Law_law_219 : decode b_Law_law 219 = .ok (.iconst 4, 1) := by decide +kernel
theorem d_Law_law_220 : decode b_Law_law 220 = .ok (.iadd, 1) := by decide +kernel
theorem d_Law_law_221 : decode b_Law_law 221 = .ok (.iaload, 1) := by decide +kernel
theorem d_Law_law_222 : decode b_Law_law 222 = .ok (.aload_n 0, 1) := by decide +kernel
theorem d_Law_law_223 : decode b_Law_law 223 = .ok (.iload 4, 2) := by decide +kernel
theorem d_Law_law_225 : decode b_Law_law 225 = .ok (.iconst 5, 1) := by decide +kernel
theorem d_Law_law_226 : decode b_Law_law 226 = .ok (.iadd, 1) := by decide +kernel
theorem d_Law_law_227 : decode b_Law_law 227 = .ok (.iaload, 1) := by decide +kernel
theorem d_Law_law_228 : decode b_Law_law 228 = .ok (.invokevirtual 95, 3) := by decide +kernel
theorem d_Law_law_231 : decode b_Law_law 231 = .ok (.istore 6, 2) := by decide +kernel
theorem d_Law_law_233 : decode b_Law_law 233 = .ok (.aload_n 2, 1) := by decide +kernel
theorem d_Law_law_234 : decode b_Law_law 234 = .ok (.invokevirtual 96, 3) := by decide +kernel
theorem d_Law_law_237 : decode b_Law_law 237 = .ok (.iload 5, 2) := by decide +kernel
theorem d_Law_law_239 : decode b_Law_law 239 = .ok (.if_icmp .eq 5, 3) := by decide +kernel
theorem d_Law_law_244 : decode b_Law_law 244 = .ok (.iload 5, 2) := by decide +kernel
theorem d_Law_law_246 : decode b_Law_law 246 = .ok (.ifCond .ne 15, 3) := by decide +kernel
theorem d_Law_law_249 : decode b_Law_law 249 = .ok (.aload_n 3, 1) := by decide +kernel
theorem d_Law_law_250 : decode b_Law_law 250 = .ok (.iconst 0, 1) := by decide +kernel
theorem d_Law_law_251 : decode b_Law_law 251 = .ok (.laload, 1) := by decide +kernel
theorem d_Law_law_252 : decode b_Law_law 252 = .ok (.iload 6, 2) := by decide +kernel
theorem d_Law_law_254 : decode b_Law_law 254 = .ok (.i2l, 1) := by decide +kernel
theorem d_Law_law_255 : decode b_Law_law 255 = .ok (.lcmp, 1) := by decide +kernel
theorem d_Law_law_256 : decode b_Law_law 256 = .ok (.ifCond .eq 5, 3) := by decide +kernel
theorem d_Law_law_261 : decode b_Law_law 261 = .ok (.goto 1204, 3) := by decide +kernel
theorem d_Law_law_264 : decode b_Law_law 264 = .ok (.aload_n 1, 1) := by decide +kernel
theorem d_Law_law_265 : decode b_Law_law 265 = .ok (.aload_n 0, 1) := by decide +kernel
theorem d_Law_law_266 : decode b_Law_law 266 = .ok (.iload 4, 2) := by decide +kernel
theorem d_Law_law_268 : decode b_Law_law 268 = .ok (.iconst 1, 1) := by decide +kernel
theorem d_Law_law_269 : decode b_Law_law 269 = .ok (.iadd, 1) := by decide +kernel
theorem d_Law_law_270 : decode b_Law_law 270 = .ok (.iaload, 1) := by decide +kernel
theorem d_Law_law_271 : decode b_Law_law 271 = .ok (.invokestatic 99, 3) := by decide +kernel
theorem d_Law_law_274 : decode b_Law_law 274 = .ok (.istore 5, 2) := by decide +kernel
theorem d_Law_law_276 : decode b_Law_law 276 = .ok (.aload_n 2, 1) := by decide +kernel
theorem d_Law_law_277 : decode b_Law_law 277 = .ok (.aload_n 0, 1) := by decide +kernel
theorem d_Law_law_278 : decode b_Law_law 278 = .ok (.iload 4, 2) := by decide +kernel
theorem d_Law_law_280 : decode b_Law_law 280 = .ok (.iconst 1, 1) := by decide +kernel
theorem d_Law_law_281 : decode b_Law_law 281 = .ok (.iadd, 1) := by decide +kernel
theorem d_Law_law_282 : decode b_Law_law 282 = .ok (.iaload, 1) := by decide +kernel
theorem d_Law_law_283 : decode b_Law_law 283 = .ok (.invokevirtual 102, 3) := by decide +kernel
theorem d_Law_law_286 : decode b_Law_law 286 = .ok (.aload_n 2, 1) := by decide +kernel
theorem d_Law_law_287 : decode b_Law_law 287 = .ok (.invokevirtual 96, 3) := by decide +kernel
theorem d_Law_law_290 : decode b_Law_law 290 = .ok (.iload 5, 2) := by decide +kernel
theorem d_Law_law_292 : decode b_Law_law 292 = .ok (.if_icmp .eq 5, 3) := by decide +kernel
theorem d_Law_law_297 : decode b_Law_law 297 = .ok (.goto 1168, 3) := by decide +kernel
theorem d_Law_law_300 : decode b_Law_law 300 = .ok (.aload_n 1, 1) := by decide +kernel
theorem d_Law_law_301 : decode b_Law_law 301 = .ok (.aload_n 3, 1) := by decide +kernel
theorem d_Law_law_302 : decode b_Law_law 302 = .ok (.invokestatic 103, 3) := by decide +kernel
theorem d_Law_law_305 : decode b_Law_law 305 = .ok (.istore 5, 2) := by decide +kernel
theorem d_Law_law_307 : decode b_Law_law 307 = .ok (.aload_n 2, 1) := by decide +kernel
theorem d_Law_law_308 : decode b_Law_law 308 = .ok (.invokevirtual 106, 3) := by decide +kernel
theorem d_Law_law_311 : decode b_Law_law 311 = .ok (.istore 6, 2) := by decide +kernel
theorem d_Law_law_313 : decode b_Law_law 313 = .ok (.aload_n 2, 1) := by decide +kernel
theorem d_Law_law_314 : decode b_Law_law 314 = .ok (.invokevirtual 96, 3) := by decide +kernel
theorem d_Law_law_317 : decode b_Law_law 317 = .ok (.iload 5, 2) := by decide +kernel
theorem d_Law_law_319 : decode b_Law_law 319 = .ok (.if_icmp .eq 5, 3) := by decide +kernel
theorem d_Law_law_324 : decode b_Law_law 324 = .ok (.iload 5, 2) := by decide +kernel
theorem d_Law_law_326 : decode b_Law_law 326 = .ok (.ifCond .ne 15, 3) := by decide +kernel
theorem d_Law_law_329 : decode b_Law_law 329 = .ok (.aload_n 3, 1) := by decide +kernel
theorem d_Law_law_330 : decode b_Law_law 330 = .ok (.iconst 0, 1) := by decide +kernel
theorem d_Law_law_331 : decode b_Law_law 331 = .ok (.laload, 1) := by decide +kernel
theorem d_Law_law_332 : decode b_Law_law 332 = .ok (.iload 6, 2) := by decide +kernel
theorem d_Law_law_334 : decode b_Law_law 334 = .ok (.i2l, 1) := by decide +kernel
theorem d_Law_law_335 : decode b_Law_law 335 = .ok (.lcmp, 1) := by decide +kernel
theorem d_Law_law_336 : decode b_Law_law 336 = .ok (.ifCond .eq 5, 3) := by decide +kernel
theorem d_Law_law_341 : decode b_Law_law 341 = .ok (.goto 1124, 3) := by decide +kernel
theorem d_Law_law_344 : decode b_Law_law 344 = .ok (.aload_n 1, 1) := by decide +kernel
theorem d_Law_law_345 : decode b_Law_law 345 = .ok (.aload_n 0, 1) := by decide +kernel
theorem d_Law_law_346 : decode b_Law_law 346 = .ok (.iload 4, 2) := by decide +kernel
theorem d_Law_law_348 : decode b_Law_law 348 = .ok (.iconst 1, 1) := by decide +kernel
theorem d_Law_law_349 : decode b_Law_law 349 = .ok (.iadd, 1) := by decide +kernel
theorem d_Law_law_350 : decode b_Law_law 350 = .ok (.iaload, 1) := by decide +kernel
theorem d_Law_law_351 : decode b_Law_law 351 = .ok (.aload_n 3, 1) := by decide +kernel
theorem d_Law_law_352 : decode b_Law_law 352 = .ok (.invokestatic 107, 3) := by decide +kernel
theorem d_Law_law_355 : decode b_Law_law 355 = .ok (.istore 5, 2) := by decide +kernel
theorem d_Law_law_357 : decode b_Law_law 357 = .ok (.aload_n 2, 1) := by decide +kernel
theorem d_Law_law_358 : decode b_Law_law 358 = .ok (.aload_n 0, 1) := by decide +kernel
theorem d_Law_law_359 : decode b_Law_law 359 = .ok (.iload 4, 2) := by decide +kernel
theorem d_Law_law_361 : decode b_Law_law 361 = .ok (.iconst 1, 1) := by decide +kernel
theorem d_Law_law_362 : decode b_Law_law 362 = .ok (.iadd, 1) := by decide +kernel
theorem d_Law_law_363 : decode b_Law_law 363 = .ok (.iaload, 1) := by decide +kernel
theorem d_Law_law_364 : decode b_Law_law 364 = .ok (.invokevirtual 110, 3) := by decide +kernel
theorem d_Law_law_367 : decode b_Law_law 367 = .ok (.istore 6, 2) := by decide +kernel
theorem d_Law_law_369 : decode b_Law_law 369 = .ok (.aload_n 2, 1) := by decide +kernel
theorem d_Law_law_370 : decode b_Law_law 370 = .ok (.invokevirtual 96, 3) := by decide +kernel
theorem d_Law_law_373 : decode b_Law_law 373 = .ok (.iload 5, 2) := by decide +kernel
theorem d_Law_law_375 : decode b_Law_law 375 = .ok (.if_icmp .eq 5, 3) := by decide +kernel
theorem d_Law_law_380 : decode b_Law_law 380 = .ok (.iload 5, 2) := by decide +kernel
theorem d_Law_law_382 : decode b_Law_law 382 = .ok (.ifCond .ne 15, 3) := by decide +kernel
theorem d_Law_law_385 : decode b_Law_law 385 = .ok (.aload_n 3, 1) := by decide +kernel
theorem d_Law_law_386 : decode b_Law_law 386 = .ok (.iconst 0, 1) := by decide +kernel
theorem d_Law_law_387 : decode b_Law_law 387 = .ok (.laload, 1) := by decide +kernel
theorem d_Law_law_388 : decode b_Law_law 388 = .ok (.iload 6, 2) := by decide +kernel
theorem d_Law_law_390 : decode b_Law_law 390 = .ok (.i2l, 1) := by decide +kernel
theorem d_Law_law_391 : decode b_Law_law 391 = .ok (.lcmp, 1) := by decide +kernel
theorem d_Law_law_392 : decode b_Law_law 392 = .ok (.ifCond .eq 5, 3) := by decide +kernel
theorem d_Law_law_397 : decode b_Law_law 397 = .ok (.goto 1068, 3) := by decide +kernel
theorem d_Law_law_400 : decode b_Law_law 400 = .ok (.aload_n 1, 1) := by decide +kernel
theorem d_Law_law_401 : decode b_Law_law 401 = .ok (.aload_n 0, 1) := by decide +kernel
theorem d_Law_law_402 : decode b_Law_law 402 = .ok (.iload 4, 2) := by decide +kernel
theorem d_Law_law_404 : decode b_Law_law 404 = .ok (.iconst 1, 1) := by decide +kernel
theorem d_Law_law_405 : decode b_Law_law 405 = .ok (.iadd, 1) := by decide +kernel
theorem d_Law_law_406 : decode b_Law_law 406 = .ok (.iaload, 1) := by decide +kernel
theorem d_Law_law_407 : decode b_Law_law 407 = .ok (.aload_n 0, 1) := by decide +kernel
theorem d_Law_law_408 : decode b_Law_law 408 = .ok (.iload 4, 2) := by decide +kernel
theorem d_Law_law_410 : decode b_Law_law 410 = .ok (.iconst 2, 1) := by decide +kernel
theorem d_Law_law_411 : decode b_Law_law 411 = .ok (.iadd, 1) := by decide +kernel
theorem d_Law_law_412 : decode b_Law_law 412 = .ok (.iaload, 1) := by decide +kernel
theorem d_Law_law_413 : decode b_Law_law 413 = .ok (.aload_n 3, 1) := by decide +kernel
theorem d_Law_law_414 : decode b_Law_law 414 = .ok (.invokestatic 111, 3) := by decide +kernel
theorem d_Law_law_417 : decode b_Law_law 417 = .ok (.istore 5, 2) := by decide +kernel
theorem d_Law_law_419 : decode b_Law_law 419 = .ok (.aload_n 2, 1) := by decide +kernel
theorem d_Law_law_420 : decode b_Law_law 420 = .ok (.aload_n 0, 1) := by decide +kernel
theorem d_Law_law_421 : decode b_Law_law 421 = .ok (.iload 4, 2) := by decide +kernel
theorem d_Law_law_423 : decode b_Law_law 423 = .ok (.iconst 1, 1) := by decide +kernel
theorem d_Law_law_424 : decode b_Law_law 424 = .ok (.iadd, 1) := by decide +kernel
theorem d_Law_law_425 : decode b_Law_law 425 = .ok (.iaload, 1) := by decide +kernel
theorem d_Law_law_426 : decode b_Law_law 426 = .ok (.aload_n 0, 1) := by decide +kernel
theorem d_Law_law_427 : decode b_Law_law 427 = .ok (.iload 4, 2) := by decide +kernel
theorem d_Law_law_429 : decode b_Law_law 429 = .ok (.iconst 2, 1) := by decide +kernel
theorem d_Law_law_430 : decode b_Law_law 430 = .ok (.iadd, 1) := by decide +kernel
theorem d_Law_law_431 : decode b_Law_law 431 = .ok (.iaload, 1) := by decide +kernel
theorem d_Law_law_432 : decode b_Law_law 432 = .ok (.invokevirtual 114, 3) := by decide +kernel
theorem d_Law_law_435 : decode b_Law_law 435 = .ok (.istore 6, 2) := by decide +kernel
theorem d_Law_law_437 : decode b_Law_law 437 = .ok (.aload_n 2, 1) := by decide +kernel
theorem d_Law_law_438 : decode b_Law_law 438 = .ok (.invokevirtual 96, 3) := by decide +kernel
theorem d_Law_law_441 : decode b_Law_law 441 = .ok (.iload 5, 2) := by decide +kernel
theorem d_Law_law_443 : decode b_Law_law 443 = .ok (.if_icmp .eq 5, 3) := by decide +kernel
theorem d_Law_law_448 : decode b_Law_law 448 = .ok (.iload 5, 2) := by decide +kernel
theorem d_Law_law_450 : decode b_Law_law 450 = .ok (.ifCond .ne 15, 3) := by decide +kernel
theorem d_Law_law_465 : decode b_Law_law 465 = .ok (.goto 1000, 3) := by decide +kernel
theorem d_Law_law_468 : decode b_Law_law 468 = .ok (.aload_n 1, 1) := by decide +kernel
theorem d_Law_law_469 : decode b_Law_law 469 = .ok (.aload_n 0, 1) := by decide +kernel
theorem d_Law_law_470 : decode b_Law_law 470 = .ok (.iload 4, 2) := by decide +kernel
theorem d_Law_law_472 : decode b_Law_law 472 = .ok (.iconst 1, 1) := by decide +kernel
theorem d_Law_law_473 : decode b_Law_law 473 = .ok (.iadd, 1) := by decide +kernel
theorem d_Law_law_474 : decode b_Law_law 474 = .ok (.iaload, 1) := by decide +kernel
theorem d_Law_law_475 : decode b_Law_law 475 = .ok (.aload_n 0, 1) := by decide +kernel
theorem d_Law_law_476 : decode b_Law_law 476 = .ok (.iload 4, 2) := by decide +kernel
theorem d_Law_law_478 : decode b_Law_law 478 = .ok (.iconst 2, 1) := by decide +kernel
theorem d_Law_law_479 : decode b_Law_law 479 = .ok (.iadd, 1) := by decide +kernel
theorem d_Law_law_480 : decode b_Law_law 480 = .ok (.iaload, 1) := by decide +kernel
theorem d_Law_law_481 : decode b_Law_law 481 = .ok (.aload_n 3, 1) := by decide +kernel
theorem d_Law_law_482 : decode b_Law_law 482 = .ok (.invokestatic 115, 3) := by decide +kernel
theorem d_Law_law_485 : decode b_Law_law 485 = .ok (.istore 5, 2) := by decide +kernel
theorem d_Law_law_487 : decode b_Law_law 487 = .ok (.aload_n 2, 1) := by decide +kernel
theorem d_Law_law_488 : decode b_Law_law 488 = .ok (.aload_n 0, 1) := by decide +kernel
theorem d_Law_law_489 : decode b_Law_law 489 = .ok (.iload 4, 2) := by decide +kernel
theorem d_Law_law_491 : decode b_Law_law 491 = .ok (.iconst 1, 1) := by decide +kernel
theorem d_Law_law_492 : decode b_Law_law 492 = .ok (.iadd, 1) := by decide +kernel
theorem d_Law_law_493 : decode b_Law_law 493 = .ok (.iaload, 1) := by decide +kernel
theorem d_Law_law_494 : decode b_Law_law 494 = .ok (.aload_n 0, 1) := by decide +kernel
theorem d_Law_law_495 : decode b_Law_law 495 = .ok (.iload 4, 2) := by decide +kernel
theorem d_Law_law_497 : decode b_Law_law 497 = .ok (.iconst 2, 1) := by decide +kernel
theorem d_Law_law_498 : decode b_Law_law 498 = .ok (.iadd, 1) := by decide +kernel
theorem d_Law_law_499 : decode b_Law_law 499 = .ok (.iaload, 1) := by decide +kernel
theorem d_Law_law_500 : decode b_Law_law 500 = .ok (.invokevirtual 117, 3) := by decide +kernel
theorem d_Law_law_503 : decode b_Law_law 503 = .ok (.istore 6, 2) := by decide +kernel
theorem d_Law_law_505 : decode b_Law_law 505 = .ok (.aload_n 2, 1) := by decide +kernel
theorem d_Law_law_506 : decode b_Law_law 506 = .ok (.invokevirtual 96, 3) := by decide +kernel
theorem d_Law_law_509 : decode b_Law_law 509 = .ok (.iload 5, 2) := by decide +kernel
theorem d_Law_law_511 : decode b_Law_law 511 = .ok (.if_icmp .eq 5, 3) := by decide +kernel
theorem d_Law_law_516 : decode b_Law_law 516 = .ok (.iload 5, 2) := by decide +kernel
theorem d_Law_law_518 : decode b_Law_law 518 = .ok (.ifCond .ne 15, 3) := by decide +kernel
theorem d_Law_law_533 : decode b_Law_law 533 = .ok (.goto 932, 3) := by decide +kernel
theorem d_Law_law_536 : decode b_Law_law 536 = .ok (.aload_n 1, 1) := by decide +kernel
theorem d_Law_law_537 : decode b_Law_law 537 = .ok (.aload_n 0, 1) := by decide +kernel
theorem d_Law_law_538 : decode b_Law_law 538 = .ok (.iload 4, 2) := by decide +kernel
theorem d_Law_law_540 : decode b_Law_law 540 = .ok (.iconst 1, 1) := by decide +kernel
theorem d_Law_law_541 : decode b_Law_law 541 = .ok (.iadd, 1) := by decide +kernel
theorem d_Law_law_542 : decode b_Law_law 542 = .ok (.iaload, 1) := by decide +kernel
theorem d_Law_law_543 : decode b_Law_law 543 = .ok (.aload_n 3, 1) := by decide +kernel
theorem d_Law_law_544 : decode b_Law_law 544 = .ok (.invokestatic 118, 3) := by decide +kernel
theorem d_Law_law_547 : decode b_Law_law 547 = .ok (.istore 5, 2) := by decide +kernel
theorem d_Law_law_549 : decode b_Law_law 549 = .ok (.aload_n 2, 1) := by decide +kernel
theorem d_Law_law_550 : decode b_Law_law 550 = .ok (.aload_n 0, 1) := by decide +kernel
theorem d_Law_law_551 : decode b_Law_law 551 = .ok (.iload 4, 2) := by decide +kernel
theorem d_Law_law_553 : decode b_Law_law 553 = .ok (.iconst 1, 1) := by decide +kernel
theorem d_Law_law_554 : decode b_Law_law 554 = .ok (.iadd, 1) := by decide +kernel
theorem d_Law_law_555 : decode b_Law_law 555 = .ok (.iaload, 1) := by decide +kernel
theorem d_Law_law_556 : decode b_Law_law 556 = .ok (.invokevirtual 120, 3) := by decide +kernel
theorem d_Law_law_559 : decode b_Law_law 559 = .ok (.istore 6, 2) := by decide +kernel
theorem d_Law_law_561 : decode b_Law_law 561 = .ok (.aload_n 2, 1) := by decide +kernel
theorem d_Law_law_562 : decode b_Law_law 562 = .ok (.invokevirtual 96, 3) := by decide +kernel
theorem d_Law_law_565 : decode b_Law_law 565 = .ok (.iload 5, 2) := by decide +kernel
theorem d_Law_law_567 : decode b_Law_law 567 = .ok (.if_icmp .eq 5, 3) := by decide +kernel
theorem d_Law_law_572 : decode b_Law_law 572 = .ok (.iload 5, 2) := by decide +kernel
theorem d_Law_law_574 : decode b_Law_law 574 = .ok (.ifCond .ne 15, 3) := by decide +kernel
theorem d_Law_law_589 : decode b_Law_law 589 = .ok (.goto 876, 3) := by decide +kernel
theorem d_Law_law_592 : decode b_Law_law 592 = .ok (.aload_n 1, 1) := by decide +kernel
theorem d_Law_law_593 : decode b_Law_law 593 = .ok (.aload_n 0, 1) := by decide +kernel
theorem d_Law_law_594 : decode b_Law_law 594 = .ok (.iload 4, 2) := by decide +kernel
theorem d_Law_law_596 : decode b_Law_law 596 = .ok (.iconst 1, 1) := by decide +kernel
theorem d_Law_law_597 : decode b_Law_law 597 = .ok (.iadd, 1) := by decide +kernel
theorem d_Law_law_598 : decode b_Law_law 598 = .ok (.iaload, 1) := by decide +kernel
theorem d_Law_law_599 : decode b_Law_law 599 = .ok (.invokestatic 121, 3) := by decide +kernel
theorem d_Law_law_602 : decode b_Law_law 602 = .ok (.istore 5, 2) := by decide +kernel
theorem d_Law_law_604 : decode b_Law_law 604 = .ok (.aload_n 2, 1) := by decide +kernel
theorem d_Law_law_605 : decode b_Law_law 605 = .ok (.aload_n 0, 1) := by decide +kernel
theorem d_Law_law_606 : decode b_Law_law 606 = .ok (.iload 4, 2) := by decide +kernel
theorem d_Law_law_608 : decode b_Law_law 608 = .ok (.iconst 1, 1) := by decide +kernel
theorem d_Law_law_609 : decode b_Law_law 609 = .ok (.iadd, 1) := by decide +kernel
theorem d_Law_law_610 : decode b_Law_law 610 = .ok (.iaload, 1) := by decide +kernel
theorem d_Law_law_611 : decode b_Law_law 611 = .ok (.invokevirtual 123, 3) := by decide +kernel
theorem d_Law_law_614 : decode b_Law_law 614 = .ok (.aload_n 2, 1) := by decide +kernel
theorem d_Law_law_615 : decode b_Law_law 615 = .ok (.invokevirtual 96, 3) := by decide +kernel
theorem d_Law_law_618 : decode b_Law_law 618 = .ok (.iload 5, 2) := by decide +kernel
theorem d_Law_law_620 : decode b_Law_law 620 = .ok (.if_icmp .eq 5, 3) := by decide +kernel
theorem d_Law_law_625 : decode b_Law_law 625 = .ok (.goto 840, 3) := by decide +kernel
theorem d_Law_law_628 : decode b_Law_law 628 = .ok (.aload_n 1, 1) := by decide +kernel
theorem d_Law_law_629 : decode b_Law_law 629 = .ok (.aload_n 0, 1) := by decide +kernel
theorem d_Law_law_630 : decode b_Law_law 630 = .ok (.iload 4, 2) := by decide +kernel
theorem d_Law_law_632 : decode b_Law_law 632 = .ok (.iconst 1, 1) := by decide +kernel
theorem d_Law_law_633 : decode b_Law_law 633 = .ok (.iadd, 1) := by decide +kernel
theorem d_Law_law_634 : decode b_Law_law 634 = .ok (.iaload, 1) := by decide +kernel
theorem d_Law_law_635 : decode b_Law_law 635 = .ok (.aload_n 3, 1) := by decide +kernel
theorem d_Law_law_636 : decode b_Law_law 636 = .ok (.invokestatic 124, 3) := by decide +kernel
theorem d_Law_law_639 : decode b_Law_law 639 = .ok (.istore 5, 2) := by decide +kernel
theorem d_Law_law_641 : decode b_Law_law 641 = .ok (.aload_n 2, 1) := by decide +kernel
theorem d_Law_law_642 : decode b_Law_law 642 = .ok (.aload_n 0, 1) := by decide +kernel
theorem d_Law_law_643 : decode b_Law_law 643 = .ok (.iload 4, 2) := by decide +kernel
theorem d_Law_law_645 : decode b_Law_law 645 = .ok (.iconst 1, 1) := by decide +kernel
theorem d_Law_law_646 : decode b_Law_law 646 = .ok (.iadd, 1) := by decide +kernel
theorem d_Law_law_647 : decode b_Law_law 647 = .ok (.iaload, 1) := by decide +kernel
theorem d_Law_law_648 : decode b_Law_law 648 = .ok (.invokevirtual 126, 3) := by decide +kernel
theorem d_Law_law_651 : decode b_Law_law 651 = .ok (.istore 6, 2) := by decide +kernel
theorem d_Law_law_653 : decode b_Law_law 653 = .ok (.aload_n 2, 1) := by decide +kernel
theorem d_Law_law_654 : decode b_Law_law 654 = .ok (.invokevirtual 96, 3) := by decide +kernel
theorem d_Law_law_657 : decode b_Law_law 657 = .ok (.iload 5, 2) := by decide +kernel
theorem d_Law_law_659 : decode b_Law_law 659 = .ok (.if_icmp .eq 5, 3) := by decide +kernel
theorem d_Law_law_664 : decode b_Law_law 664 = .ok (.iload 5, 2) := by decide +kernel
theorem d_Law_law_666 : decode b_Law_law 666 = .ok (.ifCond .ne 15, 3) := by decide +kernel
theorem d_Law_law_681 : decode b_Law_law 681 = .ok (.goto 784, 3) := by decide +kernel
theorem d_Law_law_684 : decode b_Law_law 684 = .ok (.aload_n 1, 1) := by decide +kernel
theorem d_Law_law_685 : decode b_Law_law 685 = .ok (.aload_n 0, 1) := by decide +kernel
theorem d_Law_law_686 : decode b_Law_law 686 = .ok (.iload 4, 2) := by decide +kernel
theorem d_Law_law_688 : decode b_Law_law 688 = .ok (.iconst 1, 1) := by decide +kernel
theorem d_Law_law_689 : decode b_Law_law 689 = .ok (.iadd, 1) := by decide +kernel
theorem d_Law_law_690 : decode b_Law_law 690 = .ok (.iaload, 1) := by decide +kernel
theorem d_Law_law_691 : decode b_Law_law 691 = .ok (.aload_n 0, 1) := by decide +kernel
theorem d_Law_law_692 : decode b_Law_law 692 = .ok (.iload 4, 2) := by decide +kernel
theorem d_Law_law_694 : decode b_Law_law 694 = .ok (.iconst 2, 1) := by decide +kernel
theorem d_Law_law_695 : decode b_Law_law 695 = .ok (.iadd, 1) := by decide +kernel
theorem d_Law_law_696 : decode b_Law_law 696 = .ok (.iaload, 1) := by decide +kernel
theorem d_Law_law_697 : decode b_Law_law 697 = .ok (.aload_n 0, 1) := by decide +kernel
theorem d_Law_law_698 : decode b_Law_law 698 = .ok (.iload 4, 2) := by decide +kernel
theorem d_Law_law_700 : decode b_Law_law 700 = .ok (.iconst 3, 1) := by decide +kernel
theorem d_Law_law_701 : decode b_Law_law 701 = .ok (.iadd, 1) := by decide +kernel
theorem d_Law_law_702 : decode b_Law_law 702 = .ok (.iaload, 1) := by decide +kernel
theorem d_Law_law_703 : decode b_Law_law 703 = .ok (.aload_n 3, 1) := by decide +kernel
theorem d_Law_law_704 : decode b_Law_law 704 = .ok (.invokestatic 127, 3) := by decide +kernel
theorem d_Law_law_707 : decode b_Law_law 707 = .ok (.istore 5, 2) := by decide +kernel
theorem d_Law_law_709 : decode b_Law_law 709 = .ok (.aload_n 2, 1) := by decide +kernel
theorem d_Law_law_710 : decode b_Law_law 710 = .ok (.aload_n 0, 1) := by decide +kernel
theorem d_Law_law_711 : decode b_Law_law 711 = .ok (.iload 4, 2) := by decide +kernel
theorem d_Law_law_713 : decode b_Law_law 713 = .ok (.iconst 1, 1) := by decide +kernel
theorem d_Law_law_714 : decode b_Law_law 714 = .ok (.iadd, 1) := by decide +kernel
theorem d_Law_law_715 : decode b_Law_law 715 = .ok (.iaload, 1) := by decide +kernel
theorem d_Law_law_716 : decode b_Law_law 716 = .ok (.aload_n 0, 1) := by decide +kernel
theorem d_Law_law_717 : decode b_Law_law 717 = .ok (.iload 4, 2) := by decide +kernel
theorem d_Law_law_719 : decode b_Law_law 719 = .ok (.iconst 2, 1) := by decide +kernel
theorem d_Law_law_720 : decode b_Law_law 720 = .ok (.iadd, 1) := by decide +kernel
theorem d_Law_law_721 : decode b_Law_law 721 = .ok (.iaload, 1) := by decide +kernel
theorem d_Law_law_722 : decode b_Law_law 722 = .ok (.aload_n 0, 1) := by decide +kernel
theorem d_Law_law_723 : decode b_Law_law 723 = .ok (.iload 4, 2) := by decide +kernel
theorem d_Law_law_725 : decode b_Law_law 725 = .ok (.iconst 3, 1) := by decide +kernel
theorem d_Law_law_726 : decode b_Law_law 726 = .ok (.iadd, 1) := by decide +kernel
theorem d_Law_law_727 : decode b_Law_law 727 = .ok (.iaload, 1) := by decide +kernel
theorem d_Law_law_728 : decode b_Law_law 728 = .ok (.invokevirtual 130, 3) := by decide +kernel
theorem d_Law_law_731 : decode b_Law_law 731 = .ok (.istore 6, 2) := by decide +kernel
theorem d_Law_law_733 : decode b_Law_law 733 = .ok (.aload_n 2, 1) := by decide +kernel
theorem d_Law_law_734 : decode b_Law_law 734 = .ok (.invokevirtual 96, 3) := by decide +kernel
theorem d_Law_law_737 : decode b_Law_law 737 = .ok (.iload 5, 2) := by decide +kernel
theorem d_Law_law_739 : decode b_Law_law 739 = .ok (.if_icmp .eq 5, 3) := by decide +kernel
theorem d_Law_law_744 : decode b_Law_law 744 = .ok (.iload 5, 2) := by decide +kernel
theorem d_Law_law_746 : decode b_Law_law 746 = .ok (.ifCond .ne 15, 3) := by decide +kernel
theorem d_Law_law_761 : decode b_Law_law 761 = .ok (.goto 704, 3) := by decide +kernel
theorem d_Law_law_764 : decode b_Law_law 764 = .ok (.aload_n 1, 1) := by decide +kernel
theorem d_Law_law_765 : decode b_Law_law 765 = .ok (.aload_n 0, 1) := by decide +kernel
theorem d_Law_law_766 : decode b_Law_law 766 = .ok (.iload 4, 2) := by decide +kernel
theorem d_Law_law_768 : decode b_Law_law 768 = .ok (.iconst 1, 1) := by decide +kernel
theorem d_Law_law_769 : decode b_Law_law 769 = .ok (.iadd, 1) := by decide +kernel
theorem d_Law_law_770 : decode b_Law_law 770 = .ok (.iaload, 1) := by decide +kernel
theorem d_Law_law_771 : decode b_Law_law 771 = .ok (.i2l, 1) := by decide +kernel
theorem d_Law_law_772 : decode b_Law_law 772 = .ok (.bipush 32, 2) := by decide +kernel
theorem d_Law_law_774 : decode b_Law_law 774 = .ok (.lshl, 1) := by decide +kernel
theorem d_Law_law_775 : decode b_Law_law 775 = .ok (.aload_n 0, 1) := by decide +kernel
theorem d_Law_law_776 : decode b_Law_law 776 = .ok (.iload 4, 2) := by decide +kernel
theorem d_Law_law_778 : decode b_Law_law 778 = .ok (.iconst 2, 1) := by decide +kernel
theorem d_Law_law_779 : decode b_Law_law 779 = .ok (.iadd, 1) := by decide +kernel
theorem d_Law_law_780 : decode b_Law_law 780 = .ok (.iaload, 1) := by decide +kernel
theorem d_Law_law_781 : decode b_Law_law 781 = .ok (.i2l, 1) := by decide +kernel
theorem d_Law_law_782 : decode b_Law_law 782 = .ok (.ldc2_w 131, 3) := by decide +kernel
theorem d_Law_law_785 : decode b_Law_law 785 = .ok (.land, 1) := by decide +kernel
theorem d_Law_law_786 : decode b_Law_law 786 = .ok (.lor, 1) := by decide +kernel
theorem d_Law_law_787 : decode b_Law_law 787 = .ok (.aload_n 3, 1) := by decide +kernel
theorem d_Law_law_788 : decode b_Law_law 788 = .ok (.invokestatic 133, 3) := by decide +kernel
theorem d_Law_law_791 : decode b_Law_law 791 = .ok (.istore 5, 2) := by decide +kernel
theorem d_Law_law_793 : decode b_Law_law 793 = .ok (.aload_n 2, 1) := by decide +kernel
theorem d_Law_law_794 : decode b_Law_law 794 = .ok (.aload_n 0, 1) := by decide +kernel
theorem d_Law_law_795 : decode b_Law_law 795 = .ok (.iload 4, 2) := by decide +kernel
theorem d_Law_law_797 : decode b_Law_law 797 = .ok (.iconst 1, 1) := by decide +kernel
theorem d_Law_law_798 : decode b_Law_law 798 = .ok (.iadd, 1) := by decide +kernel
theorem d_Law_law_799 : decode b_Law_law 799 = .ok (.iaload, 1) := by decide +kernel
theorem d_Law_law_800 : decode b_Law_law 800 = .ok (.i2l, 1) := by decide +kernel
theorem d_Law_law_801 : decode b_Law_law 801 = .ok (.bipush 32, 2) := by decide +kernel
theorem d_Law_law_803 : decode b_Law_law 803 = .ok (.lshl, 1) := by decide +kernel
theorem d_Law_law_804 : decode b_Law_law 804 = .ok (.aload_n 0, 1) := by decide +kernel
theorem d_Law_law_805 : decode b_Law_law 805 = .ok (.iload 4, 2) := by decide +kernel
theorem d_Law_law_807 : decode b_Law_law 807 = .ok (.iconst 2, 1) := by decide +kernel
theorem d_Law_law_808 : decode b_Law_law 808 = .ok (.iadd, 1) := by decide +kernel
theorem d_Law_law_809 : decode b_Law_law 809 = .ok (.iaload, 1) := by decide +kernel
theorem d_Law_law_810 : decode b_Law_law 810 = .ok (.i2l, 1) := by decide +kernel
theorem d_Law_law_811 : decode b_Law_law 811 = .ok (.ldc2_w 131, 3) := by decide +kernel
theorem d_Law_law_814 : decode b_Law_law 814 = .ok (.land, 1) := by decide +kernel
theorem d_Law_law_815 : decode b_Law_law 815 = .ok (.lor, 1) := by decide +kernel
theorem d_Law_law_816 : decode b_Law_law 816 = .ok (.invokevirtual 136, 3) := by decide +kernel
theorem d_Law_law_819 : decode b_Law_law 819 = .ok (.istore 6, 2) := by decide +kernel
theorem d_Law_law_821 : decode b_Law_law 821 = .ok (.aload_n 2, 1) := by decide +kernel
theorem d_Law_law_822 : decode b_Law_law 822 = .ok (.invokevirtual 96, 3) := by decide +kernel
theorem d_Law_law_825 : decode b_Law_law 825 = .ok (.iload 5, 2) := by decide +kernel
theorem d_Law_law_827 : decode b_Law_law 827 = .ok (.if_icmp .eq 5, 3) := by decide +kernel
theorem d_Law_law_832 : decode b_Law_law 832 = .ok (.iload 5, 2) := by decide +kernel
theorem d_Law_law_834 : decode b_Law_law 834 = .ok (.ifCond .ne 15, 3) := by decide +kernel
theorem d_Law_law_837 : decode b_Law_law 837 = .ok (.aload_n 3, 1) := by decide +kernel
theorem d_Law_law_838 : decode b_Law_law 838 = .ok (.iconst 0, 1) := by decide +kernel
theorem d_Law_law_839 : decode b_Law_law 839 = .ok (.laload, 1) := by decide +kernel
theorem d_Law_law_840 : decode b_Law_law 840 = .ok (.iload 6, 2) := by decide +kernel
