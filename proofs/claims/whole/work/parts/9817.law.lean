/-! the law, case by case (printed by wip/whole/genlaw.py) -/
theorem cc_250 : cod 250 = cL_law := rfl
theorem D250_0 : decode (cod 250) 0 = .ok (.new 7, 3) := by rw [cc_250]; decide +kernel
theorem D250_3 : decode (cod 250) 3 = .ok (.dup, 1) := by rw [cc_250]; decide +kernel
theorem D250_4 : decode (cod 250) 4 = .ok (.invokespecial 9, 3) := by rw [cc_250]; decide +kernel
theorem D250_7 : decode (cod 250) 7 = .ok (.astore_n 1, 1) := by rw [cc_250]; decide +kernel
theorem D250_8 : decode (cod 250) 8 = .ok (.new 10, 3) := by rw [cc_250]; decide +kernel
theorem D250_11 : decode (cod 250) 11 = .ok (.dup, 1) := by rw [cc_250]; decide +kernel
theorem D250_12 : decode (cod 250) 12 = .ok (.invokespecial 12, 3) := by rw [cc_250]; decide +kernel
theorem D250_15 : decode (cod 250) 15 = .ok (.astore_n 2, 1) := by rw [cc_250]; decide +kernel
theorem D250_16 : decode (cod 250) 16 = .ok (.iconst 0, 1) := by rw [cc_250]; decide +kernel
theorem D250_17 : decode (cod 250) 17 = .ok (.istore_n 3, 1) := by rw [cc_250]; decide +kernel
theorem D250_18 : decode (cod 250) 18 = .ok (.iload_n 3, 1) := by rw [cc_250]; decide +kernel
theorem D250_19 : decode (cod 250) 19 = .ok (.aload_n 0, 1) := by rw [cc_250]; decide +kernel
theorem D250_20 : decode (cod 250) 20 = .ok (.arraylength, 1) := by rw [cc_250]; decide +kernel
theorem D250_21 : decode (cod 250) 21 = .ok (.bipush 10, 2) := by rw [cc_250]; decide +kernel
theorem D250_23 : decode (cod 250) 23 = .ok (.isub, 1) := by rw [cc_250]; decide +kernel
theorem D250_24 : decode (cod 250) 24 = .ok (.if_icmp .gt 1452, 3) := by rw [cc_250]; decide +kernel
theorem D250_27 : decode (cod 250) 27 = .ok (.aload_n 0, 1) := by rw [cc_250]; decide +kernel
theorem D250_28 : decode (cod 250) 28 = .ok (.iload_n 3, 1) := by rw [cc_250]; decide +kernel
theorem D250_29 : decode (cod 250) 29 = .ok (.iaload, 1) := by rw [cc_250]; decide +kernel
theorem D250_30 : decode (cod 250) 30 = .ok (.bipush 31, 2) := by rw [cc_250]; decide +kernel
theorem D250_32 : decode (cod 250) 32 = .ok (.iand, 1) := by rw [cc_250]; decide +kernel
theorem D250_33 : decode (cod 250) 33 = .ok (.tableswitch 1437 0 30 #[139, 202, 235, 268, 301, 324, 387, 410, 443, 466, 489, 564, 597, 630, 705, 780, 813, 836, 879, 912, 955, 998, 1021, 1064, 1107, 1218, 1261, 1295, 1328, 1351, 1414], 139) := by rw [cc_250]; decide +kernel
theorem D250_172 : decode (cod 250) 172 = .ok (.aload_n 1, 1) := by rw [cc_250]; decide +kernel
theorem D250_173 : decode (cod 250) 173 = .ok (.aload_n 0, 1) := by rw [cc_250]; decide +kernel
theorem D250_174 : decode (cod 250) 174 = .ok (.iload_n 3, 1) := by rw [cc_250]; decide +kernel
theorem D250_175 : decode (cod 250) 175 = .ok (.iconst 1, 1) := by rw [cc_250]; decide +kernel
theorem D250_176 : decode (cod 250) 176 = .ok (.iadd, 1) := by rw [cc_250]; decide +kernel
theorem D250_177 : decode (cod 250) 177 = .ok (.iaload, 1) := by rw [cc_250]; decide +kernel
theorem D250_178 : decode (cod 250) 178 = .ok (.aload_n 0, 1) := by rw [cc_250]; decide +kernel
theorem D250_179 : decode (cod 250) 179 = .ok (.iload_n 3, 1) := by rw [cc_250]; decide +kernel
theorem D250_180 : decode (cod 250) 180 = .ok (.iconst 2, 1) := by rw [cc_250]; decide +kernel
theorem D250_181 : decode (cod 250) 181 = .ok (.iadd, 1) := by rw [cc_250]; decide +kernel
theorem D250_182 : decode (cod 250) 182 = .ok (.iaload, 1) := by rw [cc_250]; decide +kernel
theorem D250_183 : decode (cod 250) 183 = .ok (.aload_n 0, 1) := by rw [cc_250]; decide +kernel
theorem D250_184 : decode (cod 250) 184 = .ok (.iload_n 3, 1) := by rw [cc_250]; decide +kernel
theorem D250_185 : decode (cod 250) 185 = .ok (.iconst 3, 1) := by rw [cc_250]; decide +kernel
theorem D250_186 : decode (cod 250) 186 = .ok (.iadd, 1) := by rw [cc_250]; decide +kernel
theorem D250_187 : decode (cod 250) 187 = .ok (.iaload, 1) := by rw [cc_250]; decide +kernel
theorem D250_188 : decode (cod 250) 188 = .ok (.aload_n 0, 1) := by rw [cc_250]; decide +kernel
theorem D250_189 : decode (cod 250) 189 = .ok (.iload_n 3, 1) := by rw [cc_250]; decide +kernel
theorem D250_190 : decode (cod 250) 190 = .ok (.iconst 4, 1) := by rw [cc_250]; decide +kernel
theorem D250_191 : decode (cod 250) 191 = .ok (.iadd, 1) := by rw [cc_250]; decide +kernel
theorem D250_192 : decode (cod 250) 192 = .ok (.iaload, 1) := by rw [cc_250]; decide +kernel
theorem D250_193 : decode (cod 250) 193 = .ok (.aload_n 0, 1) := by rw [cc_250]; decide +kernel
theorem D250_194 : decode (cod 250) 194 = .ok (.iload_n 3, 1) := by rw [cc_250]; decide +kernel
theorem D250_195 : decode (cod 250) 195 = .ok (.iconst 5, 1) := by rw [cc_250]; decide +kernel
theorem D250_196 : decode (cod 250) 196 = .ok (.iadd, 1) := by rw [cc_250]; decide +kernel
theorem D250_197 : decode (cod 250) 197 = .ok (.iaload, 1) := by rw [cc_250]; decide +kernel
theorem D250_198 : decode (cod 250) 198 = .ok (.invokevirtual 13, 3) := by rw [cc_250]; decide +kernel
theorem D250_201 : decode (cod 250) 201 = .ok (.aload_n 2, 1) := by rw [cc_250]; decide +kernel
theorem D250_202 : decode (cod 250) 202 = .ok (.aload_n 0, 1) := by rw [cc_250]; decide +kernel
theorem D250_203 : decode (cod 250) 203 = .ok (.iload_n 3, 1) := by rw [cc_250]; decide +kernel
theorem D250_204 : decode (cod 250) 204 = .ok (.iconst 1, 1) := by rw [cc_250]; decide +kernel
theorem D250_205 : decode (cod 250) 205 = .ok (.iadd, 1) := by rw [cc_250]; decide +kernel
theorem D250_206 : decode (cod 250) 206 = .ok (.iaload, 1) := by rw [cc_250]; decide +kernel
theorem D250_207 : decode (cod 250) 207 = .ok (.aload_n 0, 1) := by rw [cc_250]; decide +kernel
theorem D250_208 : decode (cod 250) 208 = .ok (.iload_n 3, 1) := by rw [cc_250]; decide +kernel
theorem D250_209 : decode (cod 250) 209 = .ok (.iconst 2, 1) := by rw [cc_250]; decide +kernel
theorem D250_210 : decode (cod 250) 210 = .ok (.iadd, 1) := by rw [cc_250]; decide +kernel
theorem D250_211 : decode (cod 250) 211 = .ok (.iaload, 1) := by rw [cc_250]; decide +kernel
theorem D250_212 : decode (cod 250) 212 = .ok (.aload_n 0, 1) := by rw [cc_250]; decide +kernel
theorem D250_213 : decode (cod 250) 213 = .ok (.iload_n 3, 1) := by rw [cc_250]; decide +kernel
theorem D250_214 : decode (cod 250) 214 = .ok (.iconst 3, 1) := by rw [cc_250]; decide +kernel
theorem D250_215 : decode (cod 250) 215 = .ok (.iadd, 1) := by rw [cc_250]; decide +kernel
theorem D250_216 : decode (cod 250) 216 = .ok (.iaload, 1) := by rw [cc_250]; decide +kernel
theorem D250_217 : decode (cod 250) 217 = .ok (.aload_n 0, 1) := by rw [cc_250]; decide +kernel
theorem D250_218 : decode (cod 250) 218 = .ok (.iload_n 3, 1) := by rw [cc_250]; decide +kernel
theorem D250_219 : decode (cod 250) 219 = .ok (.iconst 4, 1) := by rw [cc_250]; decide +kernel
theorem D250_220 : decode (cod 250) 220 = .ok (.iadd, 1) := by rw [cc_250]; decide +kernel
theorem D250_221 : decode (cod 250) 221 = .ok (.iaload, 1) := by rw [cc_250]; decide +kernel
theorem D250_222 : decode (cod 250) 222 = .ok (.aload_n 0, 1) := by rw [cc_250]; decide +kernel
theorem D250_223 : decode (cod 250) 223 = .ok (.iload_n 3, 1) := by rw [cc_250]; decide +kernel
theorem D250_224 : decode (cod 250) 224 = .ok (.iconst 5, 1) := by rw [cc_250]; decide +kernel
theorem D250_225 : decode (cod 250) 225 = .ok (.iadd, 1) := by rw [cc_250]; decide +kernel
theorem D250_226 : decode (cod 250) 226 = .ok (.iaload, 1) := by rw [cc_250]; decide +kernel
theorem D250_227 : decode (cod 250) 227 = .ok (.invokevirtual 17, 3) := by rw [cc_250]; decide +kernel
theorem D250_230 : decode (cod 250) 230 = .ok (.if_icmp .eq 1240, 3) := by rw [cc_250]; decide +kernel
theorem D250_233 : decode (cod 250) 233 = .ok (.iconst 0, 1) := by rw [cc_250]; decide +kernel
theorem D250_234 : decode (cod 250) 234 = .ok (.ireturn, 1) := by rw [cc_250]; decide +kernel
theorem D250_235 : decode (cod 250) 235 = .ok (.aload_n 1, 1) := by rw [cc_250]; decide +kernel
theorem D250_236 : decode (cod 250) 236 = .ok (.aload_n 0, 1) := by rw [cc_250]; decide +kernel
theorem D250_237 : decode (cod 250) 237 = .ok (.iload_n 3, 1) := by rw [cc_250]; decide +kernel
theorem D250_238 : decode (cod 250) 238 = .ok (.iconst 1, 1) := by rw [cc_250]; decide +kernel
theorem D250_239 : decode (cod 250) 239 = .ok (.iadd, 1) := by rw [cc_250]; decide +kernel
theorem D250_240 : decode (cod 250) 240 = .ok (.iaload, 1) := by rw [cc_250]; decide +kernel
theorem D250_241 : decode (cod 250) 241 = .ok (.aload_n 0, 1) := by rw [cc_250]; decide +kernel
theorem D250_242 : decode (cod 250) 242 = .ok (.iload_n 3, 1) := by rw [cc_250]; decide +kernel
theorem D250_243 : decode (cod 250) 243 = .ok (.iconst 2, 1) := by rw [cc_250]; decide +kernel
theorem D250_244 : decode (cod 250) 244 = .ok (.iadd, 1) := by rw [cc_250]; decide +kernel
theorem D250_245 : decode (cod 250) 245 = .ok (.iaload, 1) := by rw [cc_250]; decide +kernel
theorem D250_246 : decode (cod 250) 246 = .ok (.invokevirtual 18, 3) := by rw [cc_250]; decide +kernel
theorem D250_249 : decode (cod 250) 249 = .ok (.aload_n 2, 1) := by rw [cc_250]; decide +kernel
theorem D250_250 : decode (cod 250) 250 = .ok (.aload_n 0, 1) := by rw [cc_250]; decide +kernel
theorem D250_251 : decode (cod 250) 251 = .ok (.iload_n 3, 1) := by rw [cc_250]; decide +kernel
theorem D250_252 : decode (cod 250) 252 = .ok (.iconst 1, 1) := by rw [cc_250]; decide +kernel
theorem D250_253 : decode (cod 250) 253 = .ok (.iadd, 1) := by rw [cc_250]; decide +kernel
theorem D250_254 : decode (cod 250) 254 = .ok (.iaload, 1) := by rw [cc_250]; decide +kernel
theorem D250_255 : decode (cod 250) 255 = .ok (.aload_n 0, 1) := by rw [cc_250]; decide +kernel
theorem D250_256 : decode (cod 250) 256 = .ok (.iload_n 3, 1) := by rw [cc_250]; decide +kernel
theorem D250_257 : decode (cod 250) 257 = .ok (.iconst 2, 1) := by rw [cc_250]; decide +kernel
theorem D250_258 : decode (cod 250) 258 = .ok (.iadd, 1) := by rw [cc_250]; decide +kernel
theorem D250_259 : decode (cod 250) 259 = .ok (.iaload, 1) := by rw [cc_250]; decide +kernel
theorem D250_260 : decode (cod 250) 260 = .ok (.invokevirtual 22, 3) := by rw [cc_250]; decide +kernel
theorem D250_263 : decode (cod 250) 263 = .ok (.if_icmp .eq 1207, 3) := by rw [cc_250]; decide +kernel
theorem D250_266 : decode (cod 250) 266 = .ok (.iconst 0, 1) := by rw [cc_250]; decide +kernel
theorem D250_267 : decode (cod 250) 267 = .ok (.ireturn, 1) := by rw [cc_250]; decide +kernel
theorem D250_268 : decode (cod 250) 268 = .ok (.aload_n 1, 1) := by rw [cc_250]; decide +kernel
theorem D250_269 : decode (cod 250) 269 = .ok (.aload_n 0, 1) := by rw [cc_250]; decide +kernel
theorem D250_270 : decode (cod 250) 270 = .ok (.iload_n 3, 1) := by rw [cc_250]; decide +kernel
theorem D250_271 : decode (cod 250) 271 = .ok (.iconst 1, 1) := by rw [cc_250]; decide +kernel
theorem D250_272 : decode (cod 250) 272 = .ok (.iadd, 1) := by rw [cc_250]; decide +kernel
theorem D250_273 : decode (cod 250) 273 = .ok (.iaload, 1) := by rw [cc_250]; decide +kernel
theorem D250_274 : decode (cod 250) 274 = .ok (.aload_n 0, 1) := by rw [cc_250]; decide +kernel
theorem D250_275 : decode (cod 250) 275 = .ok (.iload_n 3, 1) := by rw [cc_250]; decide +kernel
theorem D250_276 : decode (cod 250) 276 = .ok (.iconst 2, 1) := by rw [cc_250]; decide +kernel
theorem D250_277 : decode (cod 250) 277 = .ok (.iadd, 1) := by rw [cc_250]; decide +kernel
theorem D250_278 : decode (cod 250) 278 = .ok (.iaload, 1) := by rw [cc_250]; decide +kernel
theorem D250_279 : decode (cod 250) 279 = .ok (.invokevirtual 23, 3) := by rw [cc_250]; decide +kernel
theorem D250_282 : decode (cod 250) 282 = .ok (.aload_n 2, 1) := by rw [cc_250]; decide +kernel
theorem D250_283 : decode (cod 250) 283 = .ok (.aload_n 0, 1) := by rw [cc_250]; decide +kernel
theorem D250_284 : decode (cod 250) 284 = .ok (.iload_n 3, 1) := by rw [cc_250]; decide +kernel
theorem D250_285 : decode (cod 250) 285 = .ok (.iconst 1, 1) := by rw [cc_250]; decide +kernel
theorem D250_286 : decode (cod 250) 286 = .ok (.iadd, 1) := by rw [cc_250]; decide +kernel
theorem D250_287 : decode (cod 250) 287 = .ok (.iaload, 1) := by rw [cc_250]; decide +kernel
theorem D250_288 : decode (cod 250) 288 = .ok (.aload_n 0, 1) := by rw [cc_250]; decide +kernel
theorem D250_289 : decode (cod 250) 289 = .ok (.iload_n 3, 1) := by rw [cc_250]; decide +kernel
theorem D250_290 : decode (cod 250) 290 = .ok (.iconst 2, 1) := by rw [cc_250]; decide +kernel
theorem D250_291 : decode (cod 250) 291 = .ok (.iadd, 1) := by rw [cc_250]; decide +kernel
theorem D250_292 : decode (cod 250) 292 = .ok (.iaload, 1) := by rw [cc_250]; decide +kernel
theorem D250_293 : decode (cod 250) 293 = .ok (.invokevirtual 27, 3) := by rw [cc_250]; decide +kernel
theorem D250_296 : decode (cod 250) 296 = .ok (.if_icmp .eq 1174, 3) := by rw [cc_250]; decide +kernel
theorem D250_299 : decode (cod 250) 299 = .ok (.iconst 0, 1) := by rw [cc_250]; decide +kernel
theorem D250_300 : decode (cod 250) 300 = .ok (.ireturn, 1) := by rw [cc_250]; decide +kernel
theorem D250_301 : decode (cod 250) 301 = .ok (.aload_n 1, 1) := by rw [cc_250]; decide +kernel
theorem D250_302 : decode (cod 250) 302 = .ok (.aload_n 0, 1) := by rw [cc_250]; decide +kernel
theorem D250_303 : decode (cod 250) 303 = .ok (.iload_n 3, 1) := by rw [cc_250]; decide +kernel
theorem D250_304 : decode (cod 250) 304 = .ok (.iconst 1, 1) := by rw [cc_250]; decide +kernel
theorem D250_305 : decode (cod 250) 305 = .ok (.iadd, 1) := by rw [cc_250]; decide +kernel
theorem D250_306 : decode (cod 250) 306 = .ok (.iaload, 1) := by rw [cc_250]; decide +kernel
theorem D250_307 : decode (cod 250) 307 = .ok (.aload_n 0, 1) := by rw [cc_250]; decide +kernel
theorem D250_308 : decode (cod 250) 308 = .ok (.iload_n 3, 1) := by rw [cc_250]; decide +kernel
theorem D250_309 : decode (cod 250) 309 = .ok (.iconst 2, 1) := by rw [cc_250]; decide +kernel
theorem D250_310 : decode (cod 250) 310 = .ok (.iadd, 1) := by rw [cc_250]; decide +kernel
theorem D250_311 : decode (cod 250) 311 = .ok (.iaload, 1) := by rw [cc_250]; decide +kernel
theorem D250_312 : decode (cod 250) 312 = .ok (.invokevirtual 28, 3) := by rw [cc_250]; decide +kernel
theorem D250_315 : decode (cod 250) 315 = .ok (.aload_n 2, 1) := by rw [cc_250]; decide +kernel
theorem D250_316 : decode (cod 250) 316 = .ok (.aload_n 0, 1) := by rw [cc_250]; decide +kernel
theorem D250_317 : decode (cod 250) 317 = .ok (.iload_n 3, 1) := by rw [cc_250]; decide +kernel
theorem D250_318 : decode (cod 250) 318 = .ok (.iconst 1, 1) := by rw [cc_250]; decide +kernel
theorem D250_319 : decode (cod 250) 319 = .ok (.iadd, 1) := by rw [cc_250]; decide +kernel
theorem D250_320 : decode (cod 250) 320 = .ok (.iaload, 1) := by rw [cc_250]; decide +kernel
theorem D250_321 : decode (cod 250) 321 = .ok (.aload_n 0, 1) := by rw [cc_250]; decide +kernel
theorem D250_322 : decode (cod 250) 322 = .ok (.iload_n 3, 1) := by rw [cc_250]; decide +kernel
theorem D250_323 : decode (cod 250) 323 = .ok (.iconst 2, 1) := by rw [cc_250]; decide +kernel
theorem D250_324 : decode (cod 250) 324 = .ok (.iadd, 1) := by rw [cc_250]; decide +kernel
theorem D250_325 : decode (cod 250) 325 = .ok (.iaload, 1) := by rw [cc_250]; decide +kernel
theorem D250_326 : decode (cod 250) 326 = .ok (.invokevirtual 31, 3) := by rw [cc_250]; decide +kernel
theorem D250_329 : decode (cod 250) 329 = .ok (.if_icmp .eq 1141, 3) := by rw [cc_250]; decide +kernel
theorem D250_332 : decode (cod 250) 332 = .ok (.iconst 0, 1) := by rw [cc_250]; decide +kernel
theorem D250_333 : decode (cod 250) 333 = .ok (.ireturn, 1) := by rw [cc_250]; decide +kernel
theorem D250_334 : decode (cod 250) 334 = .ok (.aload_n 1, 1) := by rw [cc_250]; decide +kernel
theorem D250_335 : decode (cod 250) 335 = .ok (.aload_n 0, 1) := by rw [cc_250]; decide +kernel
theorem D250_336 : decode (cod 250) 336 = .ok (.iload_n 3, 1) := by rw [cc_250]; decide +kernel
theorem D250_337 : decode (cod 250) 337 = .ok (.iconst 1, 1) := by rw [cc_250]; decide +kernel
theorem D250_338 : decode (cod 250) 338 = .ok (.iadd, 1) := by rw [cc_250]; decide +kernel
theorem D250_339 : decode (cod 250) 339 = .ok (.iaload, 1) := by rw [cc_250]; decide +kernel
theorem D250_340 : decode (cod 250) 340 = .ok (.invokevirtual 32, 3) := by rw [cc_250]; decide +kernel
theorem D250_343 : decode (cod 250) 343 = .ok (.aload_n 2, 1) := by rw [cc_250]; decide +kernel
theorem D250_344 : decode (cod 250) 344 = .ok (.aload_n 0, 1) := by rw [cc_250]; decide +kernel
theorem D250_345 : decode (cod 250) 345 = .ok (.iload_n 3, 1) := by rw [cc_250]; decide +kernel
theorem D250_346 : decode (cod 250) 346 = .ok (.iconst 1, 1) := by rw [cc_250]; decide +kernel
theorem D250_347 : decode (cod 250) 347 = .ok (.iadd, 1) := by rw [cc_250]; decide +kernel
theorem D250_348 : decode (cod 250) 348 = .ok (.iaload, 1) := by rw [cc_250]; decide +kernel
theorem D250_349 : decode (cod 250) 349 = .ok (.invokevirtual 36, 3) := by rw [cc_250]; decide +kernel
theorem D250_352 : decode (cod 250) 352 = .ok (.if_icmp .eq 1118, 3) := by rw [cc_250]; decide +kernel
theorem D250_355 : decode (cod 250) 355 = .ok (.iconst 0, 1) := by rw [cc_250]; decide +kernel
theorem D250_356 : decode (cod 250) 356 = .ok (.ireturn, 1) := by rw [cc_250]; decide +kernel
theorem D250_357 : decode (cod 250) 357 = .ok (.aload_n 1, 1) := by rw [cc_250]; decide +kernel
theorem D250_358 : decode (cod 250) 358 = .ok (.aload_n 0, 1) := by rw [cc_250]; decide +kernel
theorem D250_359 : decode (cod 250) 359 = .ok (.iload_n 3, 1) := by rw [cc_250]; decide +kernel
theorem D250_360 : decode (cod 250) 360 = .ok (.iconst 1, 1) := by rw [cc_250]; decide +kernel
theorem D250_361 : decode (cod 250) 361 = .ok (.iadd, 1) := by rw [cc_250]; decide +kernel
theorem D250_362 : decode (cod 250) 362 = .ok (.iaload, 1) := by rw [cc_250]; decide +kernel
theorem D250_363 : decode (cod 250) 363 = .ok (.aload_n 0, 1) := by rw [cc_250]; decide +kernel
theorem D250_364 : decode (cod 250) 364 = .ok (.iload_n 3, 1) := by rw [cc_250]; decide +kernel
theorem D250_365 : decode (cod 250) 365 = .ok (.iconst 2, 1) := by rw [cc_250]; decide +kernel
theorem D250_366 : decode (cod 250) 366 = .ok (.iadd, 1) := by rw [cc_250]; decide +kernel
theorem D250_367 : decode (cod 250) 367 = .ok (.iaload, 1) := by rw [cc_250]; decide +kernel
theorem D250_368 : decode (cod 250) 368 = .ok (.aload_n 0, 1) := by rw [cc_250]; decide +kernel
theorem D250_369 : decode (cod 250) 369 = .ok (.iload_n 3, 1) := by rw [cc_250]; decide +kernel
theorem D250_370 : decode (cod 250) 370 = .ok (.iconst 3, 1) := by rw [cc_250]; decide +kernel
theorem D250_371 : decode (cod 250) 371 = .ok (.iadd, 1) := by rw [cc_250]; decide +kernel
theorem D250_372 : decode (cod 250) 372 = .ok (.iaload, 1) := by rw [cc_250]; decide +kernel
theorem D250_373 : decode (cod 250) 373 = .ok (.aload_n 0, 1) := by rw [cc_250]; decide +kernel
theorem D250_374 : decode (cod 250) 374 = .ok (.iload_n 3, 1) := by rw [cc_250]; decide +kernel
theorem D250_375 : decode (cod 250) 375 = .ok (.iconst 4, 1) := by rw [cc_250]; decide +kernel
theorem D250_376 : decode (cod 250) 376 = .ok (.iadd, 1) := by rw [cc_250]; decide +kernel
theorem D250_377 : decode (cod 250) 377 = .ok (.iaload, 1) := by rw [cc_250]; decide +kernel
theorem D250_378 : decode (cod 250) 378 = .ok (.aload_n 0, 1) := by rw [cc_250]; decide +kernel
theorem D250_379 : decode (cod 250) 379 = .ok (.iload_n 3, 1) := by rw [cc_250]; decide +kernel
theorem D250_380 : decode (cod 250) 380 = .ok (.iconst 5, 1) := by rw [cc_250]; decide +kernel
theorem D250_381 : decode (cod 250) 381 = .ok (.iadd, 1) := by rw [cc_250]; decide +kernel
theorem D250_382 : decode (cod 250) 382 = .ok (.iaload, 1) := by rw [cc_250]; decide +kernel
theorem D250_383 : decode (cod 250) 383 = .ok (.invokevirtual 37, 3) := by rw [cc_250]; decide +kernel
theorem D250_386 : decode (cod 250) 386 = .ok (.aload_n 2, 1) := by rw [cc_250]; decide +kernel
theorem D250_387 : decode (cod 250) 387 = .ok (.aload_n 0, 1) := by rw [cc_250]; decide +kernel
theorem D250_388 : decode (cod 250) 388 = .ok (.iload_n 3, 1) := by rw [cc_250]; decide +kernel
theorem D250_389 : decode (cod 250) 389 = .ok (.iconst 1, 1) := by rw [cc_250]; decide +kernel
theorem D250_390 : decode (cod 250) 390 = .ok (.iadd, 1) := by rw [cc_250]; decide +kernel
theorem D250_391 : decode (cod 250) 391 = .ok (.iaload, 1) := by rw [cc_250]; decide +kernel
theorem D250_392 : decode (cod 250) 392 = .ok (.aload_n 0, 1) := by rw [cc_250]; decide +kernel
theorem D250_393 : decode (cod 250) 393 = .ok (.iload_n 3, 1) := by rw [cc_250]; decide +kernel
theorem D250_394 : decode (cod 250) 394 = .ok (.iconst 2, 1) := by rw [cc_250]; decide +kernel
theorem D250_395 : decode (cod 250) 395 = .ok (.iadd, 1) := by rw [cc_250]; decide +kernel
theorem D250_396 : decode (cod 250) 396 = .ok (.iaload, 1) := by rw [cc_250]; decide +kernel
theorem D250_397 : decode (cod 250) 397 = .ok (.aload_n 0, 1) := by rw [cc_250]; decide +kernel
theorem D250_398 : decode (cod 250) 398 = .ok (.iload_n 3, 1) := by rw [cc_250]; decide +kernel
theorem D250_399 : decode (cod 250) 399 = .ok (.iconst 3, 1) := by rw [cc_250]; decide +kernel
theorem D250_400 : decode (cod 250) 400 = .ok (.iadd, 1) := by rw [cc_250]; decide +kernel
theorem D250_401 : decode (cod 250) 401 = .ok (.iaload, 1) := by rw [cc_250]; decide +kernel
theorem D250_402 : decode (cod 250) 402 = .ok (.aload_n 0, 1) := by rw [cc_250]; decide +kernel
theorem D250_403 : decode (cod 250) 403 = .ok (.iload_n 3, 1) := by rw [cc_250]; decide +kernel
theorem D250_404 : decode (cod 250) 404 = .ok (.iconst 4, 1) := by rw [cc_250]; decide +kernel
theorem D250_405 : decode (cod 250) 405 = .ok (.iadd, 1) := by rw [cc_250]; decide +kernel
theorem D250_406 : decode (cod 250) 406 = .ok (.iaload, 1) := by rw [cc_250]; decide +kernel
theorem D250_407 : decode (cod 250) 407 = .ok (.aload_n 0, 1) := by rw [cc_250]; decide +kernel
theorem D250_408 : decode (cod 250) 408 = .ok (.iload_n 3, 1) := by rw [cc_250]; decide +kernel
theorem D250_409 : decode (cod 250) 409 = .ok (.iconst 5, 1) := by rw [cc_250]; decide +kernel
theorem D250_410 : decode (cod 250) 410 = .ok (.iadd, 1) := by rw [cc_250]; decide +kernel
theorem D250_411 : decode (cod 250) 411 = .ok (.iaload, 1) := by rw [cc_250]; decide +kernel
theorem D250_412 : decode (cod 250) 412 = .ok (.invokevirtual 40, 3) := by rw [cc_250]; decide +kernel
theorem D250_415 : decode (cod 250) 415 = .ok (.if_icmp .eq 1055, 3) := by rw [cc_250]; decide +kernel
theorem D250_418 : decode (cod 250) 418 = .ok (.iconst 0, 1) := by rw [cc_250]; decide +kernel
theorem D250_419 : decode (cod 250) 419 = .ok (.ireturn, 1) := by rw [cc_250]; decide +kernel
theorem D250_420 : decode (cod 250) 420 = .ok (.aload_n 1, 1) := by rw [cc_250]; decide +kernel
theorem D250_421 : decode (cod 250) 421 = .ok (.aload_n 0, 1) := by rw [cc_250]; decide +kernel
theorem D250_422 : decode (cod 250) 422 = .ok (.iload_n 3, 1) := by rw [cc_250]; decide +kernel
theorem D250_423 : decode (cod 250) 423 = .ok (.iconst 1, 1) := by rw [cc_250]; decide +kernel
theorem D250_424 : decode (cod 250) 424 = .ok (.iadd, 1) := by rw [cc_250]; decide +kernel
theorem D250_425 : decode (cod 250) 425 = .ok (.iaload, 1) := by rw [cc_250]; decide +kernel
theorem D250_426 : decode (cod 250) 426 = .ok (.invokevirtual 41, 3) := by rw [cc_250]; decide +kernel
theorem D250_429 : decode (cod 250) 429 = .ok (.aload_n 2, 1) := by rw [cc_250]; decide +kernel
theorem D250_430 : decode (cod 250) 430 = .ok (.aload_n 0, 1) := by rw [cc_250]; decide +kernel
theorem D250_431 : decode (cod 250) 431 = .ok (.iload_n 3, 1) := by rw [cc_250]; decide +kernel
theorem D250_432 : decode (cod 250) 432 = .ok (.iconst 1, 1) := by rw [cc_250]; decide +kernel
theorem D250_433 : decode (cod 250) 433 = .ok (.iadd, 1) := by rw [cc_250]; decide +kernel
theorem D250_434 : decode (cod 250) 434 = .ok (.iaload, 1) := by rw [cc_250]; decide +kernel
theorem D250_435 : decode (cod 250) 435 = .ok (.invokevirtual 44, 3) := by rw [cc_250]; decide +kernel
theorem D250_438 : decode (cod 250) 438 = .ok (.if_icmp .eq 1032, 3) := by rw [cc_250]; decide +kernel
theorem D250_441 : decode (cod 250) 441 = .ok (.iconst 0, 1) := by rw [cc_250]; decide +kernel
theorem D250_442 : decode (cod 250) 442 = .ok (.ireturn, 1) := by rw [cc_250]; decide +kernel
theorem D250_443 : decode (cod 250) 443 = .ok (.aload_n 1, 1) := by rw [cc_250]; decide +kernel
theorem D250_444 : decode (cod 250) 444 = .ok (.aload_n 0, 1) := by rw [cc_250]; decide +kernel
theorem D250_445 : decode (cod 250) 445 = .ok (.iload_n 3, 1) := by rw [cc_250]; decide +kernel
theorem D250_446 : decode (cod 250) 446 = .ok (.iconst 1, 1) := by rw [cc_250]; decide +kernel
theorem D250_447 : decode (cod 250) 447 = .ok (.iadd, 1) := by rw [cc_250]; decide +kernel
theorem D250_448 : decode (cod 250) 448 = .ok (.iaload, 1) := by rw [cc_250]; decide +kernel
theorem D250_449 : decode (cod 250) 449 = .ok (.aload_n 0, 1) := by rw [cc_250]; decide +kernel
theorem D250_450 : decode (cod 250) 450 = .ok (.iload_n 3, 1) := by rw [cc_250]; decide +kernel
theorem D250_451 : decode (cod 250) 451 = .ok (.iconst 2, 1) := by rw [cc_250]; decide +kernel
theorem D250_452 : decode (cod 250) 452 = .ok (.iadd, 1) := by rw [cc_250]; decide +kernel
theorem D250_453 : decode (cod 250) 453 = .ok (.iaload, 1) := by rw [cc_250]; decide +kernel
theorem D250_454 : decode (cod 250) 454 = .ok (.invokevirtual 45, 3) := by rw [cc_250]; decide +kernel
theorem D250_457 : decode (cod 250) 457 = .ok (.aload_n 2, 1) := by rw [cc_250]; decide +kernel
theorem D250_458 : decode (cod 250) 458 = .ok (.aload_n 0, 1) := by rw [cc_250]; decide +kernel
theorem D250_459 : decode (cod 250) 459 = .ok (.iload_n 3, 1) := by rw [cc_250]; decide +kernel
theorem D250_460 : decode (cod 250) 460 = .ok (.iconst 1, 1) := by rw [cc_250]; decide +kernel
theorem D250_461 : decode (cod 250) 461 = .ok (.iadd, 1) := by rw [cc_250]; decide +kernel
theorem D250_462 : decode (cod 250) 462 = .ok (.iaload, 1) := by rw [cc_250]; decide +kernel
theorem D250_463 : decode (cod 250) 463 = .ok (.aload_n 0, 1) := by rw [cc_250]; decide +kernel
theorem D250_464 : decode (cod 250) 464 = .ok (.iload_n 3, 1) := by rw [cc_250]; decide +kernel
theorem D250_465 : decode (cod 250) 465 = .ok (.iconst 2, 1) := by rw [cc_250]; decide +kernel
theorem D250_466 : decode (cod 250) 466 = .ok (.iadd, 1) := by rw [cc_250]; decide +kernel
theorem D250_467 : decode (cod 250) 467 = .ok (.iaload, 1) := by rw [cc_250]; decide +kernel
theorem D250_468 : decode (cod 250) 468 = .ok (.invokevirtual 48, 3) := by rw [cc_250]; decide +kernel
theorem D250_471 : decode (cod 250) 471 = .ok (.if_icmp .eq 999, 3) := by rw [cc_250]; decide +kernel
theorem D250_474 : decode (cod 250) 474 = .ok (.iconst 0, 1) := by rw [cc_250]; decide +kernel
theorem D250_475 : decode (cod 250) 475 = .ok (.ireturn, 1) := by rw [cc_250]; decide +kernel
theorem D250_476 : decode (cod 250) 476 = .ok (.aload_n 1, 1) := by rw [cc_250]; decide +kernel
theorem D250_477 : decode (cod 250) 477 = .ok (.aload_n 0, 1) := by rw [cc_250]; decide +kernel
theorem D250_478 : decode (cod 250) 478 = .ok (.iload_n 3, 1) := by rw [cc_250]; decide +kernel
theorem D250_479 : decode (cod 250) 479 = .ok (.iconst 1, 1) := by rw [cc_250]; decide +kernel
theorem D250_480 : decode (cod 250) 480 = .ok (.iadd, 1) := by rw [cc_250]; decide +kernel
theorem D250_481 : decode (cod 250) 481 = .ok (.iaload, 1) := by rw [cc_250]; decide +kernel
theorem D250_482 : decode (cod 250) 482 = .ok (.invokevirtual 49, 3) := by rw [cc_250]; decide +kernel
theorem D250_485 : decode (cod 250) 485 = .ok (.aload_n 2, 1) := by rw [cc_250]; decide +kernel
theorem D250_486 : decode (cod 250) 486 = .ok (.aload_n 0, 1) := by rw [cc_250]; decide +kernel
theorem D250_487 : decode (cod 250) 487 = .ok (.iload_n 3, 1) := by rw [cc_250]; decide +kernel
theorem D250_488 : decode (cod 250) 488 = .ok (.iconst 1, 1) := by rw [cc_250]; decide +kernel
theorem D250_489 : decode (cod 250) 489 = .ok (.iadd, 1) := by rw [cc_250]; decide +kernel
theorem D250_490 : decode (cod 250) 490 = .ok (.iaload, 1) := by rw [cc_250]; decide +kernel
theorem D250_491 : decode (cod 250) 491 = .ok (.invokevirtual 53, 3) := by rw [cc_250]; decide +kernel
theorem D250_494 : decode (cod 250) 494 = .ok (.if_icmp .eq 976, 3) := by rw [cc_250]; decide +kernel
theorem D250_497 : decode (cod 250) 497 = .ok (.iconst 0, 1) := by rw [cc_250]; decide +kernel
theorem D250_498 : decode (cod 250) 498 = .ok (.ireturn, 1) := by rw [cc_250]; decide +kernel
theorem D250_499 : decode (cod 250) 499 = .ok (.aload_n 1, 1) := by rw [cc_250]; decide +kernel
theorem D250_500 : decode (cod 250) 500 = .ok (.aload_n 0, 1) := by rw [cc_250]; decide +kernel
theorem D250_501 : decode (cod 250) 501 = .ok (.iload_n 3, 1) := by rw [cc_250]; decide +kernel
theorem D250_502 : decode (cod 250) 502 = .ok (.iconst 1, 1) := by rw [cc_250]; decide +kernel
theorem D250_503 : decode (cod 250) 503 = .ok (.iadd, 1) := by rw [cc_250]; decide +kernel
theorem D250_504 : decode (cod 250) 504 = .ok (.iaload, 1) := by rw [cc_250]; decide +kernel
theorem D250_505 : decode (cod 250) 505 = .ok (.invokevirtual 54, 3) := by rw [cc_250]; decide +kernel
theorem D250_508 : decode (cod 250) 508 = .ok (.aload_n 2, 1) := by rw [cc_250]; decide +kernel
theorem D250_509 : decode (cod 250) 509 = .ok (.aload_n 0, 1) := by rw [cc_250]; decide +kernel
theorem D250_510 : decode (cod 250) 510 = .ok (.iload_n 3, 1) := by rw [cc_250]; decide +kernel
theorem D250_511 : decode (cod 250) 511 = .ok (.iconst 1, 1) := by rw [cc_250]; decide +kernel
theorem D250_512 : decode (cod 250) 512 = .ok (.iadd, 1) := by rw [cc_250]; decide +kernel
theorem D250_513 : decode (cod 250) 513 = .ok (.iaload, 1) := by rw [cc_250]; decide +kernel
theorem D250_514 : decode (cod 250) 514 = .ok (.invokevirtual 57, 3) := by rw [cc_250]; decide +kernel
theorem D250_517 : decode (cod 250) 517 = .ok (.if_icmp .eq 953, 3) := by rw [cc_250]; decide +kernel
theorem D250_520 : decode (cod 250) 520 = .ok (.iconst 0, 1) := by rw [cc_250]; decide +kernel
theorem D250_521 : decode (cod 250) 521 = .ok (.ireturn, 1) := by rw [cc_250]; decide +kernel
theorem D250_522 : decode (cod 250) 522 = .ok (.aload_n 1, 1) := by rw [cc_250]; decide +kernel
theorem D250_523 : decode (cod 250) 523 = .ok (.aload_n 0, 1) := by rw [cc_250]; decide +kernel
theorem D250_524 : decode (cod 250) 524 = .ok (.iload_n 3, 1) := by rw [cc_250]; decide +kernel
theorem D250_525 : decode (cod 250) 525 = .ok (.iconst 1, 1) := by rw [cc_250]; decide +kernel
theorem D250_526 : decode (cod 250) 526 = .ok (.iadd, 1) := by rw [cc_250]; decide +kernel
theorem D250_527 : decode (cod 250) 527 = .ok (.iaload, 1) := by rw [cc_250]; decide +kernel
theorem D250_528 : decode (cod 250) 528 = .ok (.aload_n 0, 1) := by rw [cc_250]; decide +kernel
theorem D250_529 : decode (cod 250) 529 = .ok (.iload_n 3, 1) := by rw [cc_250]; decide +kernel
theorem D250_530 : decode (cod 250) 530 = .ok (.iconst 2, 1) := by rw [cc_250]; decide +kernel
theorem D250_531 : decode (cod 250) 531 = .ok (.iadd, 1) := by rw [cc_250]; decide +kernel
theorem D250_532 : decode (cod 250) 532 = .ok (.iaload, 1) := by rw [cc_250]; decide +kernel
theorem D250_533 : decode (cod 250) 533 = .ok (.aload_n 0, 1) := by rw [cc_250]; decide +kernel
theorem D250_534 : decode (cod 250) 534 = .ok (.iload_n 3, 1) := by rw [cc_250]; decide +kernel
theorem D250_535 : decode (cod 250) 535 = .ok (.iconst 3, 1) := by rw [cc_250]; decide +kernel
theorem D250_536 : decode (cod 250) 536 = .ok (.iadd, 1) := by rw [cc_250]; decide +kernel
theorem D250_537 : decode (cod 250) 537 = .ok (.iaload, 1) := by rw [cc_250]; decide +kernel
theorem D250_538 : decode (cod 250) 538 = .ok (.aload_n 0, 1) := by rw [cc_250]; decide +kernel
theorem D250_539 : decode (cod 250) 539 = .ok (.iload_n 3, 1) := by rw [cc_250]; decide +kernel
theorem D250_540 : decode (cod 250) 540 = .ok (.iconst 4, 1) := by rw [cc_250]; decide +kernel
theorem D250_541 : decode (cod 250) 541 = .ok (.iadd, 1) := by rw [cc_250]; decide +kernel
theorem D250_542 : decode (cod 250) 542 = .ok (.iaload, 1) := by rw [cc_250]; decide +kernel
theorem D250_543 : decode (cod 250) 543 = .ok (.aload_n 0, 1) := by rw [cc_250]; decide +kernel
theorem D250_544 : decode (cod 250) 544 = .ok (.iload_n 3, 1) := by rw [cc_250]; decide +kernel
theorem D250_545 : decode (cod 250) 545 = .ok (.iconst 5, 1) := by rw [cc_250]; decide +kernel
theorem D250_546 : decode (cod 250) 546 = .ok (.iadd, 1) := by rw [cc_250]; decide +kernel
theorem D250_547 : decode (cod 250) 547 = .ok (.iaload, 1) := by rw [cc_250]; decide +kernel
theorem D250_548 : decode (cod 250) 548 = .ok (.aload_n 0, 1) := by rw [cc_250]; decide +kernel
theorem D250_549 : decode (cod 250) 549 = .ok (.iload_n 3, 1) := by rw [cc_250]; decide +kernel
theorem D250_550 : decode (cod 250) 550 = .ok (.bipush 6, 2) := by rw [cc_250]; decide +kernel
theorem D250_552 : decode (cod 250) 552 = .ok (.iadd, 1) := by rw [cc_250]; decide +kernel
theorem D250_553 : decode (cod 250) 553 = .ok (.iaload, 1) := by rw [cc_250]; decide +kernel
theorem D250_554 : decode (cod 250) 554 = .ok (.invokevirtual 58, 3) := by rw [cc_250]; decide +kernel
theorem D250_557 : decode (cod 250) 557 = .ok (.aload_n 2, 1) := by rw [cc_250]; decide +kernel
theorem D250_558 : decode (cod 250) 558 = .ok (.aload_n 0, 1) := by rw [cc_250]; decide +kernel
theorem D250_559 : decode (cod 250) 559 = .ok (.iload_n 3, 1) := by rw [cc_250]; decide +kernel
theorem D250_560 : decode (cod 250) 560 = .ok (.iconst 1, 1) := by rw [cc_250]; decide +kernel
theorem D250_561 : decode (cod 250) 561 = .ok (.iadd, 1) := by rw [cc_250]; decide +kernel
theorem D250_562 : decode (cod 250) 562 = .ok (.iaload, 1) := by rw [cc_250]; decide +kernel
theorem D250_563 : decode (cod 250) 563 = .ok (.aload_n 0, 1) := by rw [cc_250]; decide +kernel
theorem D250_564 : decode (cod 250) 564 = .ok (.iload_n 3, 1) := by rw [cc_250]; decide +kernel
theorem D250_565 : decode (cod 250) 565 = .ok (.iconst 2, 1) := by rw [cc_250]; decide +kernel
theorem D250_566 : decode (cod 250) 566 = .ok (.iadd, 1) := by rw [cc_250]; decide +kernel
theorem D250_567 : decode (cod 250) 567 = .ok (.iaload, 1) := by rw [cc_250]; decide +kernel
theorem D250_568 : decode (cod 250) 568 = .ok (.aload_n 0, 1) := by rw [cc_250]; decide +kernel
theorem D250_569 : decode (cod 250) 569 = .ok (.iload_n 3, 1) := by rw [cc_250]; decide +kernel
theorem D250_570 : decode (cod 250) 570 = .ok (.iconst 3, 1) := by rw [cc_250]; decide +kernel
theorem D250_571 : decode (cod 250) 571 = .ok (.iadd, 1) := by rw [cc_250]; decide +kernel
theorem D250_572 : decode (cod 250) 572 = .ok (.iaload, 1) := by rw [cc_250]; decide +kernel
theorem D250_573 : decode (cod 250) 573 = .ok (.aload_n 0, 1) := by rw [cc_250]; decide +kernel
theorem D250_574 : decode (cod 250) 574 = .ok (.iload_n 3, 1) := by rw [cc_250]; decide +kernel
theorem D250_575 : decode (cod 250) 575 = .ok (.iconst 4, 1) := by rw [cc_250]; decide +kernel
theorem D250_576 : decode (cod 250) 576 = .ok (.iadd, 1) := by rw [cc_250]; decide +kernel
theorem D250_577 : decode (cod 250) 577 = .ok (.iaload, 1) := by rw [cc_250]; decide +kernel
theorem D250_578 : decode (cod 250) 578 = .ok (.aload_n 0, 1) := by rw [cc_250]; decide +kernel
theorem D250_579 : decode (cod 250) 579 = .ok (.iload_n 3, 1) := by rw [cc_250]; decide +kernel
theorem D250_580 : decode (cod 250) 580 = .ok (.iconst 5, 1) := by rw [cc_250]; decide +kernel
theorem D250_581 : decode (cod 250) 581 = .ok (.iadd, 1) := by rw [cc_250]; decide +kernel
theorem D250_582 : decode (cod 250) 582 = .ok (.iaload, 1) := by rw [cc_250]; decide +kernel
theorem D250_583 : decode (cod 250) 583 = .ok (.aload_n 0, 1) := by rw [cc_250]; decide +kernel
theorem D250_584 : decode (cod 250) 584 = .ok (.iload_n 3, 1) := by rw [cc_250]; decide +kernel
theorem D250_585 : decode (cod 250) 585 = .ok (.bipush 6, 2) := by rw [cc_250]; decide +kernel
theorem D250_587 : decode (cod 250) 587 = .ok (.iadd, 1) := by rw [cc_250]; decide +kernel
theorem D250_588 : decode (cod 250) 588 = .ok (.iaload, 1) := by rw [cc_250]; decide +kernel
theorem D250_589 : decode (cod 250) 589 = .ok (.invokevirtual 62, 3) := by rw [cc_250]; decide +kernel
theorem D250_592 : decode (cod 250) 592 = .ok (.if_icmp .eq 878, 3) := by rw [cc_250]; decide +kernel
theorem D250_595 : decode (cod 250) 595 = .ok (.iconst 0, 1) := by rw [cc_250]; decide +kernel
theorem D250_596 : decode (cod 250) 596 = .ok (.ireturn, 1) := by rw [cc_250]; decide +kernel
theorem D250_597 : decode (cod 250) 597 = .ok (.aload_n 1, 1) := by rw [cc_250]; decide +kernel
theorem D250_598 : decode (cod 250) 598 = .ok (.aload_n 0, 1) := by rw [cc_250]; decide +kernel
theorem D250_599 : decode (cod 250) 599 = .ok (.iload_n 3, 1) := by rw [cc_250]; decide +kernel
theorem D250_600 : decode (cod 250) 600 = .ok (.iconst 1, 1) := by rw [cc_250]; decide +kernel
theorem D250_601 : decode (cod 250) 601 = .ok (.iadd, 1) := by rw [cc_250]; decide +kernel
theorem D250_602 : decode (cod 250) 602 = .ok (.iaload, 1) := by rw [cc_250]; decide +kernel
theorem D250_603 : decode (cod 250) 603 = .ok (.aload_n 0, 1) := by rw [cc_250]; decide +kernel
theorem D250_604 : decode (cod 250) 604 = .ok (.iload_n 3, 1) := by rw [cc_250]; decide +kernel
theorem D250_605 : decode (cod 250) 605 = .ok (.iconst 2, 1) := by rw [cc_250]; decide +kernel
theorem D250_606 : decode (cod 250) 606 = .ok (.iadd, 1) := by rw [cc_250]; decide +kernel
theorem D250_607 : decode (cod 250) 607 = .ok (.iaload, 1) := by rw [cc_250]; decide +kernel
theorem D250_608 : decode (cod 250) 608 = .ok (.invokevirtual 63, 3) := by rw [cc_250]; decide +kernel
theorem D250_611 : decode (cod 250) 611 = .ok (.aload_n 2, 1) := by rw [cc_250]; decide +kernel
theorem D250_612 : decode (cod 250) 612 = .ok (.aload_n 0, 1) := by rw [cc_250]; decide +kernel
theorem D250_613 : decode (cod 250) 613 = .ok (.iload_n 3, 1) := by rw [cc_250]; decide +kernel
theorem D250_614 : decode (cod 250) 614 = .ok (.iconst 1, 1) := by rw [cc_250]; decide +kernel
theorem D250_615 : decode (cod 250) 615 = .ok (.iadd, 1) := by rw [cc_250]; decide +kernel
theorem D250_616 : decode (cod 250) 616 = .ok (.iaload, 1) := by rw [cc_250]; decide +kernel
theorem D250_617 : decode (cod 250) 617 = .ok (.aload_n 0, 1) := by rw [cc_250]; decide +kernel
theorem D250_618 : decode (cod 250) 618 = .ok (.iload_n 3, 1) := by rw [cc_250]; decide +kernel
theorem D250_619 : decode (cod 250) 619 = .ok (.iconst 2, 1) := by rw [cc_250]; decide +kernel
theorem D250_620 : decode (cod 250) 620 = .ok (.iadd, 1) := by rw [cc_250]; decide +kernel
theorem D250_621 : decode (cod 250) 621 = .ok (.iaload, 1) := by rw [cc_250]; decide +kernel
theorem D250_622 : decode (cod 250) 622 = .ok (.invokevirtual 66, 3) := by rw [cc_250]; decide +kernel
theorem D250_625 : decode (cod 250) 625 = .ok (.if_icmp .eq 845, 3) := by rw [cc_250]; decide +kernel
theorem D250_628 : decode (cod 250) 628 = .ok (.iconst 0, 1) := by rw [cc_250]; decide +kernel
theorem D250_629 : decode (cod 250) 629 = .ok (.ireturn, 1) := by rw [cc_250]; decide +kernel
theorem D250_630 : decode (cod 250) 630 = .ok (.aload_n 1, 1) := by rw [cc_250]; decide +kernel
theorem D250_631 : decode (cod 250) 631 = .ok (.aload_n 0, 1) := by rw [cc_250]; decide +kernel
theorem D250_632 : decode (cod 250) 632 = .ok (.iload_n 3, 1) := by rw [cc_250]; decide +kernel
theorem D250_633 : decode (cod 250) 633 = .ok (.iconst 1, 1) := by rw [cc_250]; decide +kernel
theorem D250_634 : decode (cod 250) 634 = .ok (.iadd, 1) := by rw [cc_250]; decide +kernel
theorem D250_635 : decode (cod 250) 635 = .ok (.iaload, 1) := by rw [cc_250]; decide +kernel
theorem D250_636 : decode (cod 250) 636 = .ok (.aload_n 0, 1) := by rw [cc_250]; decide +kernel
theorem D250_637 : decode (cod 250) 637 = .ok (.iload_n 3, 1) := by rw [cc_250]; decide +kernel
theorem D250_638 : decode (cod 250) 638 = .ok (.iconst 2, 1) := by rw [cc_250]; decide +kernel
theorem D250_639 : decode (cod 250) 639 = .ok (.iadd, 1) := by rw [cc_250]; decide +kernel
theorem D250_640 : decode (cod 250) 640 = .ok (.iaload, 1) := by rw [cc_250]; decide +kernel
theorem D250_641 : decode (cod 250) 641 = .ok (.invokevirtual 67, 3) := by rw [cc_250]; decide +kernel
theorem D250_644 : decode (cod 250) 644 = .ok (.aload_n 2, 1) := by rw [cc_250]; decide +kernel
theorem D250_645 : decode (cod 250) 645 = .ok (.aload_n 0, 1) := by rw [cc_250]; decide +kernel
theorem D250_646 : decode (cod 250) 646 = .ok (.iload_n 3, 1) := by rw [cc_250]; decide +kernel
theorem D250_647 : decode (cod 250) 647 = .ok (.iconst 1, 1) := by rw [cc_250]; decide +kernel
theorem D250_648 : decode (cod 250) 648 = .ok (.iadd, 1) := by rw [cc_250]; decide +kernel
theorem D250_649 : decode (cod 250) 649 = .ok (.iaload, 1) := by rw [cc_250]; decide +kernel
theorem D250_650 : decode (cod 250) 650 = .ok (.aload_n 0, 1) := by rw [cc_250]; decide +kernel
theorem D250_651 : decode (cod 250) 651 = .ok (.iload_n 3, 1) := by rw [cc_250]; decide +kernel
theorem D250_652 : decode (cod 250) 652 = .ok (.iconst 2, 1) := by rw [cc_250]; decide +kernel
theorem D250_653 : decode (cod 250) 653 = .ok (.iadd, 1) := by rw [cc_250]; decide +kernel
theorem D250_654 : decode (cod 250) 654 = .ok (.iaload, 1) := by rw [cc_250]; decide +kernel
theorem D250_655 : decode (cod 250) 655 = .ok (.invokevirtual 70, 3) := by rw [cc_250]; decide +kernel
theorem D250_658 : decode (cod 250) 658 = .ok (.if_icmp .eq 812, 3) := by rw [cc_250]; decide +kernel
theorem D250_661 : decode (cod 250) 661 = .ok (.iconst 0, 1) := by rw [cc_250]; decide +kernel
theorem D250_662 : decode (cod 250) 662 = .ok (.ireturn, 1) := by rw [cc_250]; decide +kernel
theorem D250_663 : decode (cod 250) 663 = .ok (.aload_n 1, 1) := by rw [cc_250]; decide +kernel
theorem D250_664 : decode (cod 250) 664 = .ok (.aload_n 0, 1) := by rw [cc_250]; decide +kernel
theorem D250_665 : decode (cod 250) 665 = .ok (.iload_n 3, 1) := by rw [cc_250]; decide +kernel
theorem D250_666 : decode (cod 250) 666 = .ok (.iconst 1, 1) := by rw [cc_250]; decide +kernel
theorem D250_667 : decode (cod 250) 667 = .ok (.iadd, 1) := by rw [cc_250]; decide +kernel
theorem D250_668 : decode (cod 250) 668 = .ok (.iaload, 1) := by rw [cc_250]; decide +kernel
theorem D250_669 : decode (cod 250) 669 = .ok (.aload_n 0, 1) := by rw [cc_250]; decide +kernel
theorem D250_670 : decode (cod 250) 670 = .ok (.iload_n 3, 1) := by rw [cc_250]; decide +kernel
theorem D250_671 : decode (cod 250) 671 = .ok (.iconst 2, 1) := by rw [cc_250]; decide +kernel
theorem D250_672 : decode (cod 250) 672 = .ok (.iadd, 1) := by rw [cc_250]; decide +kernel
theorem D250_673 : decode (cod 250) 673 = .ok (.iaload, 1) := by rw [cc_250]; decide +kernel
theorem D250_674 : decode (cod 250) 674 = .ok (.aload_n 0, 1) := by rw [cc_250]; decide +kernel
theorem D250_675 : decode (cod 250) 675 = .ok (.iload_n 3, 1) := by rw [cc_250]; decide +kernel
theorem D250_676 : decode (cod 250) 676 = .ok (.iconst 3, 1) := by rw [cc_250]; decide +kernel
theorem D250_677 : decode (cod 250) 677 = .ok (.iadd, 1) := by rw [cc_250]; decide +kernel
theorem D250_678 : decode (cod 250) 678 = .ok (.iaload, 1) := by rw [cc_250]; decide +kernel
theorem D250_679 : decode (cod 250) 679 = .ok (.aload_n 0, 1) := by rw [cc_250]; decide +kernel
theorem D250_680 : decode (cod 250) 680 = .ok (.iload_n 3, 1) := by rw [cc_250]; decide +kernel
theorem D250_681 : decode (cod 250) 681 = .ok (.iconst 4, 1) := by rw [cc_250]; decide +kernel
theorem D250_682 : decode (cod 250) 682 = .ok (.iadd, 1) := by rw [cc_250]; decide +kernel
theorem D250_683 : decode (cod 250) 683 = .ok (.iaload, 1) := by rw [cc_250]; decide +kernel
theorem D250_684 : decode (cod 250) 684 = .ok (.aload_n 0, 1) := by rw [cc_250]; decide +kernel
theorem D250_685 : decode (cod 250) 685 = .ok (.iload_n 3, 1) := by rw [cc_250]; decide +kernel
theorem D250_686 : decode (cod 250) 686 = .ok (.iconst 5, 1) := by rw [cc_250]; decide +kernel
theorem D250_687 : decode (cod 250) 687 = .ok (.iadd, 1) := by rw [cc_250]; decide +kernel
theorem D250_688 : decode (cod 250) 688 = .ok (.iaload, 1) := by rw [cc_250]; decide +kernel
theorem D250_689 : decode (cod 250) 689 = .ok (.aload_n 0, 1) := by rw [cc_250]; decide +kernel
theorem D250_690 : decode (cod 250) 690 = .ok (.iload_n 3, 1) := by rw [cc_250]; decide +kernel
theorem D250_691 : decode (cod 250) 691 = .ok (.bipush 6, 2) := by rw [cc_250]; decide +kernel
theorem D250_693 : decode (cod 250) 693 = .ok (.iadd, 1) := by rw [cc_250]; decide +kernel
theorem D250_694 : decode (cod 250) 694 = .ok (.iaload, 1) := by rw [cc_250]; decide +kernel
theorem D250_695 : decode (cod 250) 695 = .ok (.invokevirtual 71, 3) := by rw [cc_250]; decide +kernel
theorem D250_698 : decode (cod 250) 698 = .ok (.aload_n 2, 1) := by rw [cc_250]; decide +kernel
theorem D250_699 : decode (cod 250) 699 = .ok (.aload_n 0, 1) := by rw [cc_250]; decide +kernel
theorem D250_700 : decode (cod 250) 700 = .ok (.iload_n 3, 1) := by rw [cc_250]; decide +kernel
theorem D250_701 : decode (cod 250) 701 = .ok (.iconst 1, 1) := by rw [cc_250]; decide +kernel
theorem D250_702 : decode (cod 250) 702 = .ok (.iadd, 1) := by rw [cc_250]; decide +kernel
theorem D250_703 : decode (cod 250) 703 = .ok (.iaload, 1) := by rw [cc_250]; decide +kernel
theorem D250_704 : decode (cod 250) 704 = .ok (.aload_n 0, 1) := by rw [cc_250]; decide +kernel
theorem D250_705 : decode (cod 250) 705 = .ok (.iload_n 3, 1) := by rw [cc_250]; decide +kernel
theorem D250_706 : decode (cod 250) 706 = .ok (.iconst 2, 1) := by rw [cc_250]; decide +kernel
theorem D250_707 : decode (cod 250) 707 = .ok (.iadd, 1) := by rw [cc_250]; decide +kernel
theorem D250_708 : decode (cod 250) 708 = .ok (.iaload, 1) := by rw [cc_250]; decide +kernel
theorem D250_709 : decode (cod 250) 709 = .ok (.aload_n 0, 1) := by rw [cc_250]; decide +kernel
theorem D250_710 : decode (cod 250) 710 = .ok (.iload_n 3, 1) := by rw [cc_250]; decide +kernel
theorem D250_711 : decode (cod 250) 711 = .ok (.iconst 3, 1) := by rw [cc_250]; decide +kernel
theorem D250_712 : decode (cod 250) 712 = .ok (.iadd, 1) := by rw [cc_250]; decide +kernel
theorem D250_713 : decode (cod 250) 713 = .ok (.iaload, 1) := by rw [cc_250]; decide +kernel
theorem D250_714 : decode (cod 250) 714 = .ok (.aload_n 0, 1) := by rw [cc_250]; decide +kernel
theorem D250_715 : decode (cod 250) 715 = .ok (.iload_n 3, 1) := by rw [cc_250]; decide +kernel
theorem D250_716 : decode (cod 250) 716 = .ok (.iconst 4, 1) := by rw [cc_250]; decide +kernel
theorem D250_717 : decode (cod 250) 717 = .ok (.iadd, 1) := by rw [cc_250]; decide +kernel
theorem D250_718 : decode (cod 250) 718 = .ok (.iaload, 1) := by rw [cc_250]; decide +kernel
theorem D250_719 : decode (cod 250) 719 = .ok (.aload_n 0, 1) := by rw [cc_250]; decide +kernel
theorem D250_720 : decode (cod 250) 720 = .ok (.iload_n 3, 1) := by rw [cc_250]; decide +kernel
theorem D250_721 : decode (cod 250) 721 = .ok (.iconst 5, 1) := by rw [cc_250]; decide +kernel
theorem D250_722 : decode (cod 250) 722 = .ok (.iadd, 1) := by rw [cc_250]; decide +kernel
theorem D250_723 : decode (cod 250) 723 = .ok (.iaload, 1) := by rw [cc_250]; decide +kernel
theorem D250_724 : decode (cod 250) 724 = .ok (.aload_n 0, 1) := by rw [cc_250]; decide +kernel
theorem D250_725 : decode (cod 250) 725 = .ok (.iload_n 3, 1) := by rw [cc_250]; decide +kernel
theorem D250_726 : decode (cod 250) 726 = .ok (.bipush 6, 2) := by rw [cc_250]; decide +kernel
theorem D250_728 : decode (cod 250) 728 = .ok (.iadd, 1) := by rw [cc_250]; decide +kernel
theorem D250_729 : decode (cod 250) 729 = .ok (.iaload, 1) := by rw [cc_250]; decide +kernel
theorem D250_730 : decode (cod 250) 730 = .ok (.invokevirtual 74, 3) := by rw [cc_250]; decide +kernel
theorem D250_733 : decode (cod 250) 733 = .ok (.if_icmp .eq 737, 3) := by rw [cc_250]; decide +kernel
theorem D250_736 : decode (cod 250) 736 = .ok (.iconst 0, 1) := by rw [cc_250]; decide +kernel
theorem D250_737 : decode (cod 250) 737 = .ok (.ireturn, 1) := by rw [cc_250]; decide +kernel
theorem D250_738 : decode (cod 250) 738 = .ok (.aload_n 1, 1) := by rw [cc_250]; decide +kernel
theorem D250_739 : decode (cod 250) 739 = .ok (.aload_n 0, 1) := by rw [cc_250]; decide +kernel
theorem D250_740 : decode (cod 250) 740 = .ok (.iload_n 3, 1) := by rw [cc_250]; decide +kernel
theorem D250_741 : decode (cod 250) 741 = .ok (.iconst 1, 1) := by rw [cc_250]; decide +kernel
theorem D250_742 : decode (cod 250) 742 = .ok (.iadd, 1) := by rw [cc_250]; decide +kernel
theorem D250_743 : decode (cod 250) 743 = .ok (.iaload, 1) := by rw [cc_250]; decide +kernel
theorem D250_744 : decode (cod 250) 744 = .ok (.aload_n 0, 1) := by rw [cc_250]; decide +kernel
theorem D250_745 : decode (cod 250) 745 = .ok (.iload_n 3, 1) := by rw [cc_250]; decide +kernel
theorem D250_746 : decode (cod 250) 746 = .ok (.iconst 2, 1) := by rw [cc_250]; decide +kernel
theorem D250_747 : decode (cod 250) 747 = .ok (.iadd, 1) := by rw [cc_250]; decide +kernel
theorem D250_748 : decode (cod 250) 748 = .ok (.iaload, 1) := by rw [cc_250]; decide +kernel
theorem D250_749 : decode (cod 250) 749 = .ok (.aload_n 0, 1) := by rw [cc_250]; decide +kernel
theorem D250_750 : decode (cod 250) 750 = .ok (.iload_n 3, 1) := by rw [cc_250]; decide +kernel
theorem D250_751 : decode (cod 250) 751 = .ok (.iconst 3, 1) := by rw [cc_250]; decide +kernel
theorem D250_752 : decode (cod 250) 752 = .ok (.iadd, 1) := by rw [cc_250]; decide +kernel
theorem D250_753 : decode (cod 250) 753 = .ok (.iaload, 1) := by rw [cc_250]; decide +kernel
theorem D250_754 : decode (cod 250) 754 = .ok (.aload_n 0, 1) := by rw [cc_250]; decide +kernel
theorem D250_755 : decode (cod 250) 755 = .ok (.iload_n 3, 1) := by rw [cc_250]; decide +kernel
theorem D250_756 : decode (cod 250) 756 = .ok (.iconst 4, 1) := by rw [cc_250]; decide +kernel
theorem D250_757 : decode (cod 250) 757 = .ok (.iadd, 1) := by rw [cc_250]; decide +kernel
theorem D250_758 : decode (cod 250) 758 = .ok (.iaload, 1) := by rw [cc_250]; decide +kernel
theorem D250_759 : decode (cod 250) 759 = .ok (.aload_n 0, 1) := by rw [cc_250]; decide +kernel
theorem D250_760 : decode (cod 250) 760 = .ok (.iload_n 3, 1) := by rw [cc_250]; decide +kernel
theorem D250_761 : decode (cod 250) 761 = .ok (.iconst 5, 1) := by rw [cc_250]; decide +kernel
theorem D250_762 : decode (cod 250) 762 = .ok (.iadd, 1) := by rw [cc_250]; decide +kernel
theorem D250_763 : decode (cod 250) 763 = .ok (.iaload, 1) := by rw [cc_250]; decide +kernel
theorem D250_764 : decode (cod 250) 764 = .ok (.aload_n 0, 1) := by rw [cc_250]; decide +kernel
theorem D250_765 : decode (cod 250) 765 = .ok (.iload_n 3, 1) := by rw [cc_250]; decide +kernel
theorem D250_766 : decode (cod 250) 766 = .ok (.bipush 6, 2) := by rw [cc_250]; decide +kernel
theorem D250_768 : decode (cod 250) 768 = .ok (.iadd, 1) := by rw [cc_250]; decide +kernel
theorem D250_769 : decode (cod 250) 769 = .ok (.iaload, 1) := by rw [cc_250]; decide +kernel
theorem D250_770 : decode (cod 250) 770 = .ok (.invokevirtual 75, 3) := by rw [cc_250]; decide +kernel
theorem D250_773 : decode (cod 250) 773 = .ok (.aload_n 2, 1) := by rw [cc_250]; decide +kernel
theorem D250_774 : decode (cod 250) 774 = .ok (.aload_n 0, 1) := by rw [cc_250]; decide +kernel
theorem D250_775 : decode (cod 250) 775 = .ok (.iload_n 3, 1) := by rw [cc_250]; decide +kernel
theorem D250_776 : decode (cod 250) 776 = .ok (.iconst 1, 1) := by rw [cc_250]; decide +kernel
theorem D250_777 : decode (cod 250) 777 = .ok (.iadd, 1) := by rw [cc_250]; decide +kernel
theorem D250_778 : decode (cod 250) 778 = .ok (.iaload, 1) := by rw [cc_250]; decide +kernel
theorem D250_779 : decode (cod 250) 779 = .ok (.aload_n 0, 1) := by rw [cc_250]; decide +kernel
theorem D250_780 : decode (cod 250) 780 = .ok (.iload_n 3, 1) := by rw [cc_250]; decide +kernel
theorem D250_781 : decode (cod 250) 781 = .ok (.iconst 2, 1) := by rw [cc_250]; decide +kernel
theorem D250_782 : decode (cod 250) 782 = .ok (.iadd, 1) := by rw [cc_250]; decide +kernel
theorem D250_783 : decode (cod 250) 783 = .ok (.iaload, 1) := by rw [cc_250]; decide +kernel
theorem D250_784 : decode (cod 250) 784 = .ok (.aload_n 0, 1) := by rw [cc_250]; decide +kernel
theorem D250_785 : decode (cod 250) 785 = .ok (.iload_n 3, 1) := by rw [cc_250]; decide +kernel
theorem D250_786 : decode (cod 250) 786 = .ok (.iconst 3, 1) := by rw [cc_250]; decide +kernel
theorem D250_787 : decode (cod 250) 787 = .ok (.iadd, 1) := by rw [cc_250]; decide +kernel
theorem D250_788 : decode (cod 250) 788 = .ok (.iaload, 1) := by rw [cc_250]; decide +kernel
theorem D250_789 : decode (cod 250) 789 = .ok (.aload_n 0, 1) := by rw [cc_250]; decide +kernel
theorem D250_790 : decode (cod 250) 790 = .ok (.iload_n 3, 1) := by rw [cc_250]; decide +kernel
theorem D250_791 : decode (cod 250) 791 = .ok (.iconst 4, 1) := by rw [cc_250]; decide +kernel
theorem D250_792 : decode (cod 250) 792 = .ok (.iadd, 1) := by rw [cc_250]; decide +kernel
theorem D250_793 : decode (cod 250) 793 = .ok (.iaload, 1) := by rw [cc_250]; decide +kernel
theorem D250_794 : decode (cod 250) 794 = .ok (.aload_n 0, 1) := by rw [cc_250]; decide +kernel
theorem D250_795 : decode (cod 250) 795 = .ok (.iload_n 3, 1) := by rw [cc_250]; decide +kernel
theorem D250_796 : decode (cod 250) 796 = .ok (.iconst 5, 1) := by rw [cc_250]; decide +kernel
theorem D250_797 : decode (cod 250) 797 = .ok (.iadd, 1) := by rw [cc_250]; decide +kernel
theorem D250_798 : decode (cod 250) 798 = .ok (.iaload, 1) := by rw [cc_250]; decide +kernel
theorem D250_799 : decode (cod 250) 799 = .ok (.aload_n 0, 1) := by rw [cc_250]; decide +kernel
theorem D250_800 : decode (cod 250) 800 = .ok (.iload_n 3, 1) := by rw [cc_250]; decide +kernel
theorem D250_801 : decode (cod 250) 801 = .ok (.bipush 6, 2) := by rw [cc_250]; decide +kernel
theorem D250_803 : decode (cod 250) 803 = .ok (.iadd, 1) := by rw [cc_250]; decide +kernel
theorem D250_804 : decode (cod 250) 804 = .ok (.iaload, 1) := by rw [cc_250]; decide +kernel
theorem D250_805 : decode (cod 250) 805 = .ok (.invokevirtual 78, 3) := by rw [cc_250]; decide +kernel
theorem D250_808 : decode (cod 250) 808 = .ok (.if_icmp .eq 662, 3) := by rw [cc_250]; decide +kernel
theorem D250_811 : decode (cod 250) 811 = .ok (.iconst 0, 1) := by rw [cc_250]; decide +kernel
theorem D250_812 : decode (cod 250) 812 = .ok (.ireturn, 1) := by rw [cc_250]; decide +kernel
theorem D250_813 : decode (cod 250) 813 = .ok (.aload_n 1, 1) := by rw [cc_250]; decide +kernel
theorem D250_814 : decode (cod 250) 814 = .ok (.aload_n 0, 1) := by rw [cc_250]; decide +kernel
theorem D250_815 : decode (cod 250) 815 = .ok (.iload_n 3, 1) := by rw [cc_250]; decide +kernel
theorem D250_816 : decode (cod 250) 816 = .ok (.iconst 1, 1) := by rw [cc_250]; decide +kernel
theorem D250_817 : decode (cod 250) 817 = .ok (.iadd, 1) := by rw [cc_250]; decide +kernel
theorem D250_818 : decode (cod 250) 818 = .ok (.iaload, 1) := by rw [cc_250]; decide +kernel
theorem D250_819 : decode (cod 250) 819 = .ok (.aload_n 0, 1) := by rw [cc_250]; decide +kernel
theorem D250_820 : decode (cod 250) 820 = .ok (.iload_n 3, 1) := by rw [cc_250]; decide +kernel
theorem D250_821 : decode (cod 250) 821 = .ok (.iconst 2, 1) := by rw [cc_250]; decide +kernel
theorem D250_822 : decode (cod 250) 822 = .ok (.iadd, 1) := by rw [cc_250]; decide +kernel
theorem D250_823 : decode (cod 250) 823 = .ok (.iaload, 1) := by rw [cc_250]; decide +kernel
theorem D250_824 : decode (cod 250) 824 = .ok (.invokevirtual 79, 3) := by rw [cc_250]; decide +kernel
theorem D250_827 : decode (cod 250) 827 = .ok (.aload_n 2, 1) := by rw [cc_250]; decide +kernel
theorem D250_828 : decode (cod 250) 828 = .ok (.aload_n 0, 1) := by rw [cc_250]; decide +kernel
theorem D250_829 : decode (cod 250) 829 = .ok (.iload_n 3, 1) := by rw [cc_250]; decide +kernel
theorem D250_830 : decode (cod 250) 830 = .ok (.iconst 1, 1) := by rw [cc_250]; decide +kernel
theorem D250_831 : decode (cod 250) 831 = .ok (.iadd, 1) := by rw [cc_250]; decide +kernel
theorem D250_832 : decode (cod 250) 832 = .ok (.iaload, 1) := by rw [cc_250]; decide +kernel
theorem D250_833 : decode (cod 250) 833 = .ok (.aload_n 0, 1) := by rw [cc_250]; decide +kernel
theorem D250_834 : decode (cod 250) 834 = .ok (.iload_n 3, 1) := by rw [cc_250]; decide +kernel
theorem D250_835 : decode (cod 250) 835 = .ok (.iconst 2, 1) := by rw [cc_250]; decide +kernel
theorem D250_836 : decode (cod 250) 836 = .ok (.iadd, 1) := by rw [cc_250]; decide +kernel
theorem D250_837 : decode (cod 250) 837 = .ok (.iaload, 1) := by rw [cc_250]; decide +kernel
theorem D250_838 : decode (cod 250) 838 = .ok (.invokevirtual 82, 3) := by rw [cc_250]; decide +kernel
theorem D250_841 : decode (cod 250) 841 = .ok (.if_icmp .eq 629, 3) := by rw [cc_250]; decide +kernel
theorem D250_844 : decode (cod 250) 844 = .ok (.iconst 0, 1) := by rw [cc_250]; decide +kernel
theorem D250_845 : decode (cod 250) 845 = .ok (.ireturn, 1) := by rw [cc_250]; decide +kernel
theorem D250_846 : decode (cod 250) 846 = .ok (.aload_n 1, 1) := by rw [cc_250]; decide +kernel
theorem D250_847 : decode (cod 250) 847 = .ok (.aload_n 0, 1) := by rw [cc_250]; decide +kernel
theorem D250_848 : decode (cod 250) 848 = .ok (.iload_n 3, 1) := by rw [cc_250]; decide +kernel
theorem D250_849 : decode (cod 250) 849 = .ok (.iconst 1, 1) := by rw [cc_250]; decide +kernel
theorem D250_850 : decode (cod 250) 850 = .ok (.iadd, 1) := by rw [cc_250]; decide +kernel
theorem D250_851 : decode (cod 250) 851 = .ok (.iaload, 1) := by rw [cc_250]; decide +kernel
theorem D250_852 : decode (cod 250) 852 = .ok (.invokevirtual 83, 3) := by rw [cc_250]; decide +kernel
theorem D250_855 : decode (cod 250) 855 = .ok (.aload_n 2, 1) := by rw [cc_250]; decide +kernel
theorem D250_856 : decode (cod 250) 856 = .ok (.aload_n 0, 1) := by rw [cc_250]; decide +kernel
theorem D250_857 : decode (cod 250) 857 = .ok (.iload_n 3, 1) := by rw [cc_250]; decide +kernel
theorem D250_858 : decode (cod 250) 858 = .ok (.iconst 1, 1) := by rw [cc_250]; decide +kernel
theorem D250_859 : decode (cod 250) 859 = .ok (.iadd, 1) := by rw [cc_250]; decide +kernel
theorem D250_860 : decode (cod 250) 860 = .ok (.iaload, 1) := by rw [cc_250]; decide +kernel
theorem D250_861 : decode (cod 250) 861 = .ok (.invokevirtual 86, 3) := by rw [cc_250]; decide +kernel
theorem D250_864 : decode (cod 250) 864 = .ok (.if_icmp .eq 606, 3) := by rw [cc_250]; decide +kernel
theorem D250_867 : decode (cod 250) 867 = .ok (.iconst 0, 1) := by rw [cc_250]; decide +kernel
theorem D250_868 : decode (cod 250) 868 = .ok (.ireturn, 1) := by rw [cc_250]; decide +kernel
theorem D250_869 : decode (cod 250) 869 = .ok (.aload_n 1, 1) := by rw [cc_250]; decide +kernel
theorem D250_870 : decode (cod 250) 870 = .ok (.aload_n 0, 1) := by rw [cc_250]; decide +kernel
theorem D250_871 : decode (cod 250) 871 = .ok (.iload_n 3, 1) := by rw [cc_250]; decide +kernel
theorem D250_872 : decode (cod 250) 872 = .ok (.iconst 1, 1) := by rw [cc_250]; decide +kernel
theorem D250_873 : decode (cod 250) 873 = .ok (.iadd, 1) := by rw [cc_250]; decide +kernel
theorem D250_874 : decode (cod 250) 874 = .ok (.iaload, 1) := by rw [cc_250]; decide +kernel
theorem D250_875 : decode (cod 250) 875 = .ok (.aload_n 0, 1) := by rw [cc_250]; decide +kernel
theorem D250_876 : decode (cod 250) 876 = .ok (.iload_n 3, 1) := by rw [cc_250]; decide +kernel
theorem D250_877 : decode (cod 250) 877 = .ok (.iconst 2, 1) := by rw [cc_250]; decide +kernel
theorem D250_878 : decode (cod 250) 878 = .ok (.iadd, 1) := by rw [cc_250]; decide +kernel
theorem D250_879 : decode (cod 250) 879 = .ok (.iaload, 1) := by rw [cc_250]; decide +kernel
theorem D250_880 : decode (cod 250) 880 = .ok (.aload_n 0, 1) := by rw [cc_250]; decide +kernel
theorem D250_881 : decode (cod 250) 881 = .ok (.iload_n 3, 1) := by rw [cc_250]; decide +kernel
theorem D250_882 : decode (cod 250) 882 = .ok (.iconst 3, 1) := by rw [cc_250]; decide +kernel
theorem D250_883 : decode (cod 250) 883 = .ok (.iadd, 1) := by rw [cc_250]; decide +kernel
theorem D250_884 : decode (cod 250) 884 = .ok (.iaload, 1) := by rw [cc_250]; decide +kernel
theorem D250_885 : decode (cod 250) 885 = .ok (.invokevirtual 87, 3) := by rw [cc_250]; decide +kernel
theorem D250_888 : decode (cod 250) 888 = .ok (.aload_n 2, 1) := by rw [cc_250]; decide +kernel
theorem D250_889 : decode (cod 250) 889 = .ok (.aload_n 0, 1) := by rw [cc_250]; decide +kernel
theorem D250_890 : decode (cod 250) 890 = .ok (.iload_n 3, 1) := by rw [cc_250]; decide +kernel
theorem D250_891 : decode (cod 250) 891 = .ok (.iconst 1, 1) := by rw [cc_250]; decide +kernel
theorem D250_892 : decode (cod 250) 892 = .ok (.iadd, 1) := by rw [cc_250]; decide +kernel
theorem D250_893 : decode (cod 250) 893 = .ok (.iaload, 1) := by rw [cc_250]; decide +kernel
theorem D250_894 : decode (cod 250) 894 = .ok (.aload_n 0, 1) := by rw [cc_250]; decide +kernel
theorem D250_895 : decode (cod 250) 895 = .ok (.iload_n 3, 1) := by rw [cc_250]; decide +kernel
theorem D250_896 : decode (cod 250) 896 = .ok (.iconst 2, 1) := by rw [cc_250]; decide +kernel
theorem D250_897 : decode (cod 250) 897 = .ok (.iadd, 1) := by rw [cc_250]; decide +kernel
theorem D250_898 : decode (cod 250) 898 = .ok (.iaload, 1) := by rw [cc_250]; decide +kernel
theorem D250_899 : decode (cod 250) 899 = .ok (.aload_n 0, 1) := by rw [cc_250]; decide +kernel
theorem D250_900 : decode (cod 250) 900 = .ok (.iload_n 3, 1) := by rw [cc_250]; decide +kernel
theorem D250_901 : decode (cod 250) 901 = .ok (.iconst 3, 1) := by rw [cc_250]; decide +kernel
theorem D250_902 : decode (cod 250) 902 = .ok (.iadd, 1) := by rw [cc_250]; decide +kernel
theorem D250_903 : decode (cod 250) 903 = .ok (.iaload, 1) := by rw [cc_250]; decide +kernel
theorem D250_904 : decode (cod 250) 904 = .ok (.invokevirtual 91, 3) := by rw [cc_250]; decide +kernel
theorem D250_907 : decode (cod 250) 907 = .ok (.if_icmp .eq 563, 3) := by rw [cc_250]; decide +kernel
theorem D250_910 : decode (cod 250) 910 = .ok (.iconst 0, 1) := by rw [cc_250]; decide +kernel
theorem D250_911 : decode (cod 250) 911 = .ok (.ireturn, 1) := by rw [cc_250]; decide +kernel
theorem D250_912 : decode (cod 250) 912 = .ok (.aload_n 1, 1) := by rw [cc_250]; decide +kernel
theorem D250_913 : decode (cod 250) 913 = .ok (.aload_n 0, 1) := by rw [cc_250]; decide +kernel
theorem D250_914 : decode (cod 250) 914 = .ok (.iload_n 3, 1) := by rw [cc_250]; decide +kernel
theorem D250_915 : decode (cod 250) 915 = .ok (.iconst 1, 1) := by rw [cc_250]; decide +kernel
theorem D250_916 : decode (cod 250) 916 = .ok (.iadd, 1) := by rw [cc_250]; decide +kernel
theorem D250_917 : decode (cod 250) 917 = .ok (.iaload, 1) := by rw [cc_250]; decide +kernel
theorem D250_918 : decode (cod 250) 918 = .ok (.aload_n 0, 1) := by rw [cc_250]; decide +kernel
theorem D250_919 : decode (cod 250) 919 = .ok (.iload_n 3, 1) := by rw [cc_250]; decide +kernel
theorem D250_920 : decode (cod 250) 920 = .ok (.iconst 2, 1) := by rw [cc_250]; decide +kernel
theorem D250_921 : decode (cod 250) 921 = .ok (.iadd, 1) := by rw [cc_250]; decide +kernel
theorem D250_922 : decode (cod 250) 922 = .ok (.iaload, 1) := by rw [cc_250]; decide +kernel
theorem D250_923 : decode (cod 250) 923 = .ok (.invokevirtual 92, 3) := by rw [cc_250]; decide +kernel
theorem D250_926 : decode (cod 250) 926 = .ok (.aload_n 2, 1) := by rw [cc_250]; decide +kernel
theorem D250_927 : decode (cod 250) 927 = .ok (.aload_n 0, 1) := by rw [cc_250]; decide +kernel
theorem D250_928 : decode (cod 250) 928 = .ok (.iload_n 3, 1) := by rw [cc_250]; decide +kernel
theorem D250_929 : decode (cod 250) 929 = .ok (.iconst 1, 1) := by rw [cc_250]; decide +kernel
theorem D250_930 : decode (cod 250) 930 = .ok (.iadd, 1) := by rw [cc_250]; decide +kernel
theorem D250_931 : decode (cod 250) 931 = .ok (.iaload, 1) := by rw [cc_250]; decide +kernel
theorem D250_932 : decode (cod 250) 932 = .ok (.aload_n 0, 1) := by rw [cc_250]; decide +kernel
theorem D250_933 : decode (cod 250) 933 = .ok (.iload_n 3, 1) := by rw [cc_250]; decide +kernel
theorem D250_934 : decode (cod 250) 934 = .ok (.iconst 2, 1) := by rw [cc_250]; decide +kernel
theorem D250_935 : decode (cod 250) 935 = .ok (.iadd, 1) := by rw [cc_250]; decide +kernel
theorem D250_936 : decode (cod 250) 936 = .ok (.iaload, 1) := by rw [cc_250]; decide +kernel
theorem D250_937 : decode (cod 250) 937 = .ok (.invokevirtual 95, 3) := by rw [cc_250]; decide +kernel
theorem D250_940 : decode (cod 250) 940 = .ok (.if_icmp .eq 530, 3) := by rw [cc_250]; decide +kernel
theorem D250_943 : decode (cod 250) 943 = .ok (.iconst 0, 1) := by rw [cc_250]; decide +kernel
theorem D250_944 : decode (cod 250) 944 = .ok (.ireturn, 1) := by rw [cc_250]; decide +kernel
theorem D250_945 : decode (cod 250) 945 = .ok (.aload_n 1, 1) := by rw [cc_250]; decide +kernel
theorem D250_946 : decode (cod 250) 946 = .ok (.aload_n 0, 1) := by rw [cc_250]; decide +kernel
theorem D250_947 : decode (cod 250) 947 = .ok (.iload_n 3, 1) := by rw [cc_250]; decide +kernel
theorem D250_948 : decode (cod 250) 948 = .ok (.iconst 1, 1) := by rw [cc_250]; decide +kernel
theorem D250_949 : decode (cod 250) 949 = .ok (.iadd, 1) := by rw [cc_250]; decide +kernel
theorem D250_950 : decode (cod 250) 950 = .ok (.iaload, 1) := by rw [cc_250]; decide +kernel
theorem D250_951 : decode (cod 250) 951 = .ok (.aload_n 0, 1) := by rw [cc_250]; decide +kernel
theorem D250_952 : decode (cod 250) 952 = .ok (.iload_n 3, 1) := by rw [cc_250]; decide +kernel
theorem D250_953 : decode (cod 250) 953 = .ok (.iconst 2, 1) := by rw [cc_250]; decide +kernel
theorem D250_954 : decode (cod 250) 954 = .ok (.iadd, 1) := by rw [cc_250]; decide +kernel
theorem D250_955 : decode (cod 250) 955 = .ok (.iaload, 1) := by rw [cc_250]; decide +kernel
theorem D250_956 : decode (cod 250) 956 = .ok (.aload_n 0, 1) := by rw [cc_250]; decide +kernel
theorem D250_957 : decode (cod 250) 957 = .ok (.iload_n 3, 1) := by rw [cc_250]; decide +kernel
theorem D250_958 : decode (cod 250) 958 = .ok (.iconst 3, 1) := by rw [cc_250]; decide +kernel
theorem D250_959 : decode (cod 250) 959 = .ok (.iadd, 1) := by rw [cc_250]; decide +kernel
theorem D250_960 : decode (cod 250) 960 = .ok (.iaload, 1) := by rw [cc_250]; decide +kernel
theorem D250_961 : decode (cod 250) 961 = .ok (.invokevirtual 96, 3) := by rw [cc_250]; decide +kernel
theorem D250_964 : decode (cod 250) 964 = .ok (.aload_n 2, 1) := by rw [cc_250]; decide +kernel
theorem D250_965 : decode (cod 250) 965 = .ok (.aload_n 0, 1) := by rw [cc_250]; decide +kernel
theorem D250_966 : decode (cod 250) 966 = .ok (.iload_n 3, 1) := by rw [cc_250]; decide +kernel
theorem D250_967 : decode (cod 250) 967 = .ok (.iconst 1, 1) := by rw [cc_250]; decide +kernel
theorem D250_968 : decode (cod 250) 968 = .ok (.iadd, 1) := by rw [cc_250]; decide +kernel
theorem D250_969 : decode (cod 250) 969 = .ok (.iaload, 1) := by rw [cc_250]; decide +kernel
theorem D250_970 : decode (cod 250) 970 = .ok (.aload_n 0, 1) := by rw [cc_250]; decide +kernel
theorem D250_971 : decode (cod 250) 971 = .ok (.iload_n 3, 1) := by rw [cc_250]; decide +kernel
theorem D250_972 : decode (cod 250) 972 = .ok (.iconst 2, 1) := by rw [cc_250]; decide +kernel
theorem D250_973 : decode (cod 250) 973 = .ok (.iadd, 1) := by rw [cc_250]; decide +kernel
theorem D250_974 : decode (cod 250) 974 = .ok (.iaload, 1) := by rw [cc_250]; decide +kernel
theorem D250_975 : decode (cod 250) 975 = .ok (.aload_n 0, 1) := by rw [cc_250]; decide +kernel
theorem D250_976 : decode (cod 250) 976 = .ok (.iload_n 3, 1) := by rw [cc_250]; decide +kernel
theorem D250_977 : decode (cod 250) 977 = .ok (.iconst 3, 1) := by rw [cc_250]; decide +kernel
theorem D250_978 : decode (cod 250) 978 = .ok (.iadd, 1) := by rw [cc_250]; decide +kernel
theorem D250_979 : decode (cod 250) 979 = .ok (.iaload, 1) := by rw [cc_250]; decide +kernel
theorem D250_980 : decode (cod 250) 980 = .ok (.invokevirtual 99, 3) := by rw [cc_250]; decide +kernel
theorem D250_983 : decode (cod 250) 983 = .ok (.if_icmp .eq 487, 3) := by rw [cc_250]; decide +kernel
theorem D250_986 : decode (cod 250) 986 = .ok (.iconst 0, 1) := by rw [cc_250]; decide +kernel
theorem D250_987 : decode (cod 250) 987 = .ok (.ireturn, 1) := by rw [cc_250]; decide +kernel
theorem D250_988 : decode (cod 250) 988 = .ok (.aload_n 1, 1) := by rw [cc_250]; decide +kernel
theorem D250_989 : decode (cod 250) 989 = .ok (.aload_n 0, 1) := by rw [cc_250]; decide +kernel
theorem D250_990 : decode (cod 250) 990 = .ok (.iload_n 3, 1) := by rw [cc_250]; decide +kernel
theorem D250_991 : decode (cod 250) 991 = .ok (.iconst 1, 1) := by rw [cc_250]; decide +kernel
theorem D250_992 : decode (cod 250) 992 = .ok (.iadd, 1) := by rw [cc_250]; decide +kernel
theorem D250_993 : decode (cod 250) 993 = .ok (.iaload, 1) := by rw [cc_250]; decide +kernel
theorem D250_994 : decode (cod 250) 994 = .ok (.aload_n 0, 1) := by rw [cc_250]; decide +kernel
theorem D250_995 : decode (cod 250) 995 = .ok (.iload_n 3, 1) := by rw [cc_250]; decide +kernel
theorem D250_996 : decode (cod 250) 996 = .ok (.iconst 2, 1) := by rw [cc_250]; decide +kernel
theorem D250_997 : decode (cod 250) 997 = .ok (.iadd, 1) := by rw [cc_250]; decide +kernel
theorem D250_998 : decode (cod 250) 998 = .ok (.iaload, 1) := by rw [cc_250]; decide +kernel
theorem D250_999 : decode (cod 250) 999 = .ok (.aload_n 0, 1) := by rw [cc_250]; decide +kernel
theorem D250_1000 : decode (cod 250) 1000 = .ok (.iload_n 3, 1) := by rw [cc_250]; decide +kernel
theorem D250_1001 : decode (cod 250) 1001 = .ok (.iconst 3, 1) := by rw [cc_250]; decide +kernel
theorem D250_1002 : decode (cod 250) 1002 = .ok (.iadd, 1) := by rw [cc_250]; decide +kernel
theorem D250_1003 : decode (cod 250) 1003 = .ok (.iaload, 1) := by rw [cc_250]; decide +kernel
theorem D250_1004 : decode (cod 250) 1004 = .ok (.invokevirtual 100, 3) := by rw [cc_250]; decide +kernel
theorem D250_1007 : decode (cod 250) 1007 = .ok (.aload_n 2, 1) := by rw [cc_250]; decide +kernel
theorem D250_1008 : decode (cod 250) 1008 = .ok (.aload_n 0, 1) := by rw [cc_250]; decide +kernel
theorem D250_1009 : decode (cod 250) 1009 = .ok (.iload_n 3, 1) := by rw [cc_250]; decide +kernel
theorem D250_1010 : decode (cod 250) 1010 = .ok (.iconst 1, 1) := by rw [cc_250]; decide +kernel
theorem D250_1011 : decode (cod 250) 1011 = .ok (.iadd, 1) := by rw [cc_250]; decide +kernel
theorem D250_1012 : decode (cod 250) 1012 = .ok (.iaload, 1) := by rw [cc_250]; decide +kernel
theorem D250_1013 : decode (cod 250) 1013 = .ok (.aload_n 0, 1) := by rw [cc_250]; decide +kernel
theorem D250_1014 : decode (cod 250) 1014 = .ok (.iload_n 3, 1) := by rw [cc_250]; decide +kernel
theorem D250_1015 : decode (cod 250) 1015 = .ok (.iconst 2, 1) := by rw [cc_250]; decide +kernel
theorem D250_1016 : decode (cod 250) 1016 = .ok (.iadd, 1) := by rw [cc_250]; decide +kernel
theorem D250_1017 : decode (cod 250) 1017 = .ok (.iaload, 1) := by rw [cc_250]; decide +kernel
theorem D250_1018 : decode (cod 250) 1018 = .ok (.aload_n 0, 1) := by rw [cc_250]; decide +kernel
theorem D250_1019 : decode (cod 250) 1019 = .ok (.iload_n 3, 1) := by rw [cc_250]; decide +kernel
theorem D250_1020 : decode (cod 250) 1020 = .ok (.iconst 3, 1) := by rw [cc_250]; decide +kernel
theorem D250_1021 : decode (cod 250) 1021 = .ok (.iadd, 1) := by rw [cc_250]; decide +kernel
theorem D250_1022 : decode (cod 250) 1022 = .ok (.iaload, 1) := by rw [cc_250]; decide +kernel
theorem D250_1023 : decode (cod 250) 1023 = .ok (.invokevirtual 103, 3) := by rw [cc_250]; decide +kernel
theorem D250_1026 : decode (cod 250) 1026 = .ok (.if_icmp .eq 444, 3) := by rw [cc_250]; decide +kernel
theorem D250_1029 : decode (cod 250) 1029 = .ok (.iconst 0, 1) := by rw [cc_250]; decide +kernel
theorem D250_1030 : decode (cod 250) 1030 = .ok (.ireturn, 1) := by rw [cc_250]; decide +kernel
theorem D250_1031 : decode (cod 250) 1031 = .ok (.aload_n 1, 1) := by rw [cc_250]; decide +kernel
theorem D250_1032 : decode (cod 250) 1032 = .ok (.aload_n 0, 1) := by rw [cc_250]; decide +kernel
theorem D250_1033 : decode (cod 250) 1033 = .ok (.iload_n 3, 1) := by rw [cc_250]; decide +kernel
theorem D250_1034 : decode (cod 250) 1034 = .ok (.iconst 1, 1) := by rw [cc_250]; decide +kernel
theorem D250_1035 : decode (cod 250) 1035 = .ok (.iadd, 1) := by rw [cc_250]; decide +kernel
theorem D250_1036 : decode (cod 250) 1036 = .ok (.iaload, 1) := by rw [cc_250]; decide +kernel
theorem D250_1037 : decode (cod 250) 1037 = .ok (.invokevirtual 104, 3) := by rw [cc_250]; decide +kernel
theorem D250_1040 : decode (cod 250) 1040 = .ok (.aload_n 2, 1) := by rw [cc_250]; decide +kernel
theorem D250_1041 : decode (cod 250) 1041 = .ok (.aload_n 0, 1) := by rw [cc_250]; decide +kernel
theorem D250_1042 : decode (cod 250) 1042 = .ok (.iload_n 3, 1) := by rw [cc_250]; decide +kernel
theorem D250_1043 : decode (cod 250) 1043 = .ok (.iconst 1, 1) := by rw [cc_250]; decide +kernel
theorem D250_1044 : decode (cod 250) 1044 = .ok (.iadd, 1) := by rw [cc_250]; decide +kernel
theorem D250_1045 : decode (cod 250) 1045 = .ok (.iaload, 1) := by rw [cc_250]; decide +kernel
theorem D250_1046 : decode (cod 250) 1046 = .ok (.invokevirtual 107, 3) := by rw [cc_250]; decide +kernel
theorem D250_1049 : decode (cod 250) 1049 = .ok (.if_icmp .eq 421, 3) := by rw [cc_250]; decide +kernel
theorem D250_1052 : decode (cod 250) 1052 = .ok (.iconst 0, 1) := by rw [cc_250]; decide +kernel
theorem D250_1053 : decode (cod 250) 1053 = .ok (.ireturn, 1) := by rw [cc_250]; decide +kernel
theorem D250_1054 : decode (cod 250) 1054 = .ok (.aload_n 1, 1) := by rw [cc_250]; decide +kernel
theorem D250_1055 : decode (cod 250) 1055 = .ok (.aload_n 0, 1) := by rw [cc_250]; decide +kernel
theorem D250_1056 : decode (cod 250) 1056 = .ok (.iload_n 3, 1) := by rw [cc_250]; decide +kernel
theorem D250_1057 : decode (cod 250) 1057 = .ok (.iconst 1, 1) := by rw [cc_250]; decide +kernel
theorem D250_1058 : decode (cod 250) 1058 = .ok (.iadd, 1) := by rw [cc_250]; decide +kernel
theorem D250_1059 : decode (cod 250) 1059 = .ok (.iaload, 1) := by rw [cc_250]; decide +kernel
theorem D250_1060 : decode (cod 250) 1060 = .ok (.aload_n 0, 1) := by rw [cc_250]; decide +kernel
theorem D250_1061 : decode (cod 250) 1061 = .ok (.iload_n 3, 1) := by rw [cc_250]; decide +kernel
theorem D250_1062 : decode (cod 250) 1062 = .ok (.iconst 2, 1) := by rw [cc_250]; decide +kernel
theorem D250_1063 : decode (cod 250) 1063 = .ok (.iadd, 1) := by rw [cc_250]; decide +kernel
theorem D250_1064 : decode (cod 250) 1064 = .ok (.iaload, 1) := by rw [cc_250]; decide +kernel
theorem D250_1065 : decode (cod 250) 1065 = .ok (.aload_n 0, 1) := by rw [cc_250]; decide +kernel
theorem D250_1066 : decode (cod 250) 1066 = .ok (.iload_n 3, 1) := by rw [cc_250]; decide +kernel
theorem D250_1067 : decode (cod 250) 1067 = .ok (.iconst 3, 1) := by rw [cc_250]; decide +kernel
theorem D250_1068 : decode (cod 250) 1068 = .ok (.iadd, 1) := by rw [cc_250]; decide +kernel
theorem D250_1069 : decode (cod 250) 1069 = .ok (.iaload, 1) := by rw [cc_250]; decide +kernel
theorem D250_1070 : decode (cod 250) 1070 = .ok (.invokevirtual 108, 3) := by rw [cc_250]; decide +kernel
theorem D250_1073 : decode (cod 250) 1073 = .ok (.aload_n 2, 1) := by rw [cc_250]; decide +kernel
theorem D250_1074 : decode (cod 250) 1074 = .ok (.aload_n 0, 1) := by rw [cc_250]; decide +kernel
theorem D250_1075 : decode (cod 250) 1075 = .ok (.iload_n 3, 1) := by rw [cc_250]; decide +kernel
theorem D250_1076 : decode (cod 250) 1076 = .ok (.iconst 1, 1) := by rw [cc_250]; decide +kernel
theorem D250_1077 : decode (cod 250) 1077 = .ok (.iadd, 1) := by rw [cc_250]; decide +kernel
theorem D250_1078 : decode (cod 250) 1078 = .ok (.iaload, 1) := by rw [cc_250]; decide +kernel
theorem D250_1079 : decode (cod 250) 1079 = .ok (.aload_n 0, 1) := by rw [cc_250]; decide +kernel
theorem D250_1080 : decode (cod 250) 1080 = .ok (.iload_n 3, 1) := by rw [cc_250]; decide +kernel
theorem D250_1081 : decode (cod 250) 1081 = .ok (.iconst 2, 1) := by rw [cc_250]; decide +kernel
theorem D250_1082 : decode (cod 250) 1082 = .ok (.iadd, 1) := by rw [cc_250]; decide +kernel
theorem D250_1083 : decode (cod 250) 1083 = .ok (.iaload, 1) := by rw [cc_250]; decide +kernel
theorem D250_1084 : decode (cod 250) 1084 = .ok (.aload_n 0, 1) := by rw [cc_250]; decide +kernel
theorem D250_1085 : decode (cod 250) 1085 = .ok (.iload_n 3, 1) := by rw [cc_250]; decide +kernel
theorem D250_1086 : decode (cod 250) 1086 = .ok (.iconst 3, 1) := by rw [cc_250]; decide +kernel
theorem D250_1087 : decode (cod 250) 1087 = .ok (.iadd, 1) := by rw [cc_250]; decide +kernel
theorem D250_1088 : decode (cod 250) 1088 = .ok (.iaload, 1) := by rw [cc_250]; decide +kernel
theorem D250_1089 : decode (cod 250) 1089 = .ok (.invokevirtual 111, 3) := by rw [cc_250]; decide +kernel
theorem D250_1092 : decode (cod 250) 1092 = .ok (.if_icmp .eq 378, 3) := by rw [cc_250]; decide +kernel
theorem D250_1095 : decode (cod 250) 1095 = .ok (.iconst 0, 1) := by rw [cc_250]; decide +kernel
theorem D250_1096 : decode (cod 250) 1096 = .ok (.ireturn, 1) := by rw [cc_250]; decide +kernel
theorem D250_1097 : decode (cod 250) 1097 = .ok (.aload_n 1, 1) := by rw [cc_250]; decide +kernel
theorem D250_1098 : decode (cod 250) 1098 = .ok (.aload_n 0, 1) := by rw [cc_250]; decide +kernel
theorem D250_1099 : decode (cod 250) 1099 = .ok (.iload_n 3, 1) := by rw [cc_250]; decide +kernel
theorem D250_1100 : decode (cod 250) 1100 = .ok (.iconst 1, 1) := by rw [cc_250]; decide +kernel
theorem D250_1101 : decode (cod 250) 1101 = .ok (.iadd, 1) := by rw [cc_250]; decide +kernel
theorem D250_1102 : decode (cod 250) 1102 = .ok (.iaload, 1) := by rw [cc_250]; decide +kernel
theorem D250_1103 : decode (cod 250) 1103 = .ok (.aload_n 0, 1) := by rw [cc_250]; decide +kernel
theorem D250_1104 : decode (cod 250) 1104 = .ok (.iload_n 3, 1) := by rw [cc_250]; decide +kernel
theorem D250_1105 : decode (cod 250) 1105 = .ok (.iconst 2, 1) := by rw [cc_250]; decide +kernel
theorem D250_1106 : decode (cod 250) 1106 = .ok (.iadd, 1) := by rw [cc_250]; decide +kernel
theorem D250_1107 : decode (cod 250) 1107 = .ok (.iaload, 1) := by rw [cc_250]; decide +kernel
theorem D250_1108 : decode (cod 250) 1108 = .ok (.aload_n 0, 1) := by rw [cc_250]; decide +kernel
theorem D250_1109 : decode (cod 250) 1109 = .ok (.iload_n 3, 1) := by rw [cc_250]; decide +kernel
theorem D250_1110 : decode (cod 250) 1110 = .ok (.iconst 3, 1) := by rw [cc_250]; decide +kernel
theorem D250_1111 : decode (cod 250) 1111 = .ok (.iadd, 1) := by rw [cc_250]; decide +kernel
theorem D250_1112 : decode (cod 250) 1112 = .ok (.iaload, 1) := by rw [cc_250]; decide +kernel
theorem D250_1113 : decode (cod 250) 1113 = .ok (.invokevirtual 112, 3) := by rw [cc_250]; decide +kernel
theorem D250_1116 : decode (cod 250) 1116 = .ok (.aload_n 2, 1) := by rw [cc_250]; decide +kernel
theorem D250_1117 : decode (cod 250) 1117 = .ok (.aload_n 0, 1) := by rw [cc_250]; decide +kernel
theorem D250_1118 : decode (cod 250) 1118 = .ok (.iload_n 3, 1) := by rw [cc_250]; decide +kernel
theorem D250_1119 : decode (cod 250) 1119 = .ok (.iconst 1, 1) := by rw [cc_250]; decide +kernel
theorem D250_1120 : decode (cod 250) 1120 = .ok (.iadd, 1) := by rw [cc_250]; decide +kernel
theorem D250_1121 : decode (cod 250) 1121 = .ok (.iaload, 1) := by rw [cc_250]; decide +kernel
theorem D250_1122 : decode (cod 250) 1122 = .ok (.aload_n 0, 1) := by rw [cc_250]; decide +kernel
theorem D250_1123 : decode (cod 250) 1123 = .ok (.iload_n 3, 1) := by rw [cc_250]; decide +kernel
theorem D250_1124 : decode (cod 250) 1124 = .ok (.iconst 2, 1) := by rw [cc_250]; decide +kernel
theorem D250_1125 : decode (cod 250) 1125 = .ok (.iadd, 1) := by rw [cc_250]; decide +kernel
theorem D250_1126 : decode (cod 250) 1126 = .ok (.iaload, 1) := by rw [cc_250]; decide +kernel
theorem D250_1127 : decode (cod 250) 1127 = .ok (.aload_n 0, 1) := by rw [cc_250]; decide +kernel
theorem D250_1128 : decode (cod 250) 1128 = .ok (.iload_n 3, 1) := by rw [cc_250]; decide +kernel
theorem D250_1129 : decode (cod 250) 1129 = .ok (.iconst 3, 1) := by rw [cc_250]; decide +kernel
theorem D250_1130 : decode (cod 250) 1130 = .ok (.iadd, 1) := by rw [cc_250]; decide +kernel
theorem D250_1131 : decode (cod 250) 1131 = .ok (.iaload, 1) := by rw [cc_250]; decide +kernel
theorem D250_1132 : decode (cod 250) 1132 = .ok (.invokevirtual 115, 3) := by rw [cc_250]; decide +kernel
theorem D250_1135 : decode (cod 250) 1135 = .ok (.if_icmp .eq 335, 3) := by rw [cc_250]; decide +kernel
theorem D250_1138 : decode (cod 250) 1138 = .ok (.iconst 0, 1) := by rw [cc_250]; decide +kernel
theorem D250_1139 : decode (cod 250) 1139 = .ok (.ireturn, 1) := by rw [cc_250]; decide +kernel
theorem D250_1140 : decode (cod 250) 1140 = .ok (.aload_n 1, 1) := by rw [cc_250]; decide +kernel
theorem D250_1141 : decode (cod 250) 1141 = .ok (.aload_n 0, 1) := by rw [cc_250]; decide +kernel
theorem D250_1142 : decode (cod 250) 1142 = .ok (.iload_n 3, 1) := by rw [cc_250]; decide +kernel
theorem D250_1143 : decode (cod 250) 1143 = .ok (.iconst 1, 1) := by rw [cc_250]; decide +kernel
theorem D250_1144 : decode (cod 250) 1144 = .ok (.iadd, 1) := by rw [cc_250]; decide +kernel
theorem D250_1145 : decode (cod 250) 1145 = .ok (.iaload, 1) := by rw [cc_250]; decide +kernel
theorem D250_1146 : decode (cod 250) 1146 = .ok (.aload_n 0, 1) := by rw [cc_250]; decide +kernel
theorem D250_1147 : decode (cod 250) 1147 = .ok (.iload_n 3, 1) := by rw [cc_250]; decide +kernel
theorem D250_1148 : decode (cod 250) 1148 = .ok (.iconst 2, 1) := by rw [cc_250]; decide +kernel
theorem D250_1149 : decode (cod 250) 1149 = .ok (.iadd, 1) := by rw [cc_250]; decide +kernel
theorem D250_1150 : decode (cod 250) 1150 = .ok (.iaload, 1) := by rw [cc_250]; decide +kernel
theorem D250_1151 : decode (cod 250) 1151 = .ok (.aload_n 0, 1) := by rw [cc_250]; decide +kernel
theorem D250_1152 : decode (cod 250) 1152 = .ok (.iload_n 3, 1) := by rw [cc_250]; decide +kernel
theorem D250_1153 : decode (cod 250) 1153 = .ok (.iconst 3, 1) := by rw [cc_250]; decide +kernel
theorem D250_1154 : decode (cod 250) 1154 = .ok (.iadd, 1) := by rw [cc_250]; decide +kernel
theorem D250_1155 : decode (cod 250) 1155 = .ok (.iaload, 1) := by rw [cc_250]; decide +kernel
theorem D250_1156 : decode (cod 250) 1156 = .ok (.aload_n 0, 1) := by rw [cc_250]; decide +kernel
theorem D250_1157 : decode (cod 250) 1157 = .ok (.iload_n 3, 1) := by rw [cc_250]; decide +kernel
theorem D250_1158 : decode (cod 250) 1158 = .ok (.iconst 4, 1) := by rw [cc_250]; decide +kernel
theorem D250_1159 : decode (cod 250) 1159 = .ok (.iadd, 1) := by rw [cc_250]; decide +kernel
theorem D250_1160 : decode (cod 250) 1160 = .ok (.iaload, 1) := by rw [cc_250]; decide +kernel
theorem D250_1161 : decode (cod 250) 1161 = .ok (.aload_n 0, 1) := by rw [cc_250]; decide +kernel
theorem D250_1162 : decode (cod 250) 1162 = .ok (.iload_n 3, 1) := by rw [cc_250]; decide +kernel
theorem D250_1163 : decode (cod 250) 1163 = .ok (.iconst 5, 1) := by rw [cc_250]; decide +kernel
theorem D250_1164 : decode (cod 250) 1164 = .ok (.iadd, 1) := by rw [cc_250]; decide +kernel
theorem D250_1165 : decode (cod 250) 1165 = .ok (.iaload, 1) := by rw [cc_250]; decide +kernel
theorem D250_1166 : decode (cod 250) 1166 = .ok (.aload_n 0, 1) := by rw [cc_250]; decide +kernel
theorem D250_1167 : decode (cod 250) 1167 = .ok (.iload_n 3, 1) := by rw [cc_250]; decide +kernel
theorem D250_1168 : decode (cod 250) 1168 = .ok (.bipush 6, 2) := by rw [cc_250]; decide +kernel
theorem D250_1170 : decode (cod 250) 1170 = .ok (.iadd, 1) := by rw [cc_250]; decide +kernel
theorem D250_1171 : decode (cod 250) 1171 = .ok (.iaload, 1) := by rw [cc_250]; decide +kernel
theorem D250_1172 : decode (cod 250) 1172 = .ok (.aload_n 0, 1) := by rw [cc_250]; decide +kernel
theorem D250_1173 : decode (cod 250) 1173 = .ok (.iload_n 3, 1) := by rw [cc_250]; decide +kernel
theorem D250_1174 : decode (cod 250) 1174 = .ok (.bipush 7, 2) := by rw [cc_250]; decide +kernel
theorem D250_1176 : decode (cod 250) 1176 = .ok (.iadd, 1) := by rw [cc_250]; decide +kernel
theorem D250_1177 : decode (cod 250) 1177 = .ok (.iaload, 1) := by rw [cc_250]; decide +kernel
theorem D250_1178 : decode (cod 250) 1178 = .ok (.aload_n 0, 1) := by rw [cc_250]; decide +kernel
theorem D250_1179 : decode (cod 250) 1179 = .ok (.iload_n 3, 1) := by rw [cc_250]; decide +kernel
theorem D250_1180 : decode (cod 250) 1180 = .ok (.bipush 8, 2) := by rw [cc_250]; decide +kernel
theorem D250_1182 : decode (cod 250) 1182 = .ok (.iadd, 1) := by rw [cc_250]; decide +kernel
theorem D250_1183 : decode (cod 250) 1183 = .ok (.iaload, 1) := by rw [cc_250]; decide +kernel
theorem D250_1184 : decode (cod 250) 1184 = .ok (.aload_n 0, 1) := by rw [cc_250]; decide +kernel
theorem D250_1185 : decode (cod 250) 1185 = .ok (.iload_n 3, 1) := by rw [cc_250]; decide +kernel
theorem D250_1186 : decode (cod 250) 1186 = .ok (.bipush 9, 2) := by rw [cc_250]; decide +kernel
theorem D250_1188 : decode (cod 250) 1188 = .ok (.iadd, 1) := by rw [cc_250]; decide +kernel
theorem D250_1189 : decode (cod 250) 1189 = .ok (.iaload, 1) := by rw [cc_250]; decide +kernel
theorem D250_1190 : decode (cod 250) 1190 = .ok (.invokevirtual 116, 3) := by rw [cc_250]; decide +kernel
theorem D250_1193 : decode (cod 250) 1193 = .ok (.aload_n 2, 1) := by rw [cc_250]; decide +kernel
theorem D250_1194 : decode (cod 250) 1194 = .ok (.aload_n 0, 1) := by rw [cc_250]; decide +kernel
theorem D250_1195 : decode (cod 250) 1195 = .ok (.iload_n 3, 1) := by rw [cc_250]; decide +kernel
theorem D250_1196 : decode (cod 250) 1196 = .ok (.iconst 1, 1) := by rw [cc_250]; decide +kernel
theorem D250_1197 : decode (cod 250) 1197 = .ok (.iadd, 1) := by rw [cc_250]; decide +kernel
theorem D250_1198 : decode (cod 250) 1198 = .ok (.iaload, 1) := by rw [cc_250]; decide +kernel
theorem D250_1199 : decode (cod 250) 1199 = .ok (.aload_n 0, 1) := by rw [cc_250]; decide +kernel
theorem D250_1200 : decode (cod 250) 1200 = .ok (.iload_n 3, 1) := by rw [cc_250]; decide +kernel
theorem D250_1201 : decode (cod 250) 1201 = .ok (.iconst 2, 1) := by rw [cc_250]; decide +kernel
theorem D250_1202 : decode (cod 250) 1202 = .ok (.iadd, 1) := by rw [cc_250]; decide +kernel
theorem D250_1203 : decode (cod 250) 1203 = .ok (.iaload, 1) := by rw [cc_250]; decide +kernel
theorem D250_1204 : decode (cod 250) 1204 = .ok (.aload_n 0, 1) := by rw [cc_250]; decide +kernel
theorem D250_1205 : decode (cod 250) 1205 = .ok (.iload_n 3, 1) := by rw [cc_250]; decide +kernel
theorem D250_1206 : decode (cod 250) 1206 = .ok (.iconst 3, 1) := by rw [cc_250]; decide +kernel
theorem D250_1207 : decode (cod 250) 1207 = .ok (.iadd, 1) := by rw [cc_250]; decide +kernel
theorem D250_1208 : decode (cod 250) 1208 = .ok (.iaload, 1) := by rw [cc_250]; decide +kernel
theorem D250_1209 : decode (cod 250) 1209 = .ok (.aload_n 0, 1) := by rw [cc_250]; decide +kernel
theorem D250_1210 : decode (cod 250) 1210 = .ok (.iload_n 3, 1) := by rw [cc_250]; decide +kernel
theorem D250_1211 : decode (cod 250) 1211 = .ok (.iconst 4, 1) := by rw [cc_250]; decide +kernel
theorem D250_1212 : decode (cod 250) 1212 = .ok (.iadd, 1) := by rw [cc_250]; decide +kernel
theorem D250_1213 : decode (cod 250) 1213 = .ok (.iaload, 1) := by rw [cc_250]; decide +kernel
theorem D250_1214 : decode (cod 250) 1214 = .ok (.aload_n 0, 1) := by rw [cc_250]; decide +kernel
theorem D250_1215 : decode (cod 250) 1215 = .ok (.iload_n 3, 1) := by rw [cc_250]; decide +kernel
theorem D250_1216 : decode (cod 250) 1216 = .ok (.iconst 5, 1) := by rw [cc_250]; decide +kernel
theorem D250_1217 : decode (cod 250) 1217 = .ok (.iadd, 1) := by rw [cc_250]; decide +kernel
theorem D250_1218 : decode (cod 250) 1218 = .ok (.iaload, 1) := by rw [cc_250]; decide +kernel
theorem D250_1219 : decode (cod 250) 1219 = .ok (.aload_n 0, 1) := by rw [cc_250]; decide +kernel
theorem D250_1220 : decode (cod 250) 1220 = .ok (.iload_n 3, 1) := by rw [cc_250]; decide +kernel
theorem D250_1221 : decode (cod 250) 1221 = .ok (.bipush 6, 2) := by rw [cc_250]; decide +kernel
theorem D250_1223 : decode (cod 250) 1223 = .ok (.iadd, 1) := by rw [cc_250]; decide +kernel
theorem D250_1224 : decode (cod 250) 1224 = .ok (.iaload, 1) := by rw [cc_250]; decide +kernel
theorem D250_1225 : decode (cod 250) 1225 = .ok (.aload_n 0, 1) := by rw [cc_250]; decide +kernel
theorem D250_1226 : decode (cod 250) 1226 = .ok (.iload_n 3, 1) := by rw [cc_250]; decide +kernel
theorem D250_1227 : decode (cod 250) 1227 = .ok (.bipush 7, 2) := by rw [cc_250]; decide +kernel
theorem D250_1229 : decode (cod 250) 1229 = .ok (.iadd, 1) := by rw [cc_250]; decide +kernel
theorem D250_1230 : decode (cod 250) 1230 = .ok (.iaload, 1) := by rw [cc_250]; decide +kernel
theorem D250_1231 : decode (cod 250) 1231 = .ok (.aload_n 0, 1) := by rw [cc_250]; decide +kernel
theorem D250_1232 : decode (cod 250) 1232 = .ok (.iload_n 3, 1) := by rw [cc_250]; decide +kernel
theorem D250_1233 : decode (cod 250) 1233 = .ok (.bipush 8, 2) := by rw [cc_250]; decide +kernel
theorem D250_1235 : decode (cod 250) 1235 = .ok (.iadd, 1) := by rw [cc_250]; decide +kernel
theorem D250_1236 : decode (cod 250) 1236 = .ok (.iaload, 1) := by rw [cc_250]; decide +kernel
theorem D250_1237 : decode (cod 250) 1237 = .ok (.aload_n 0, 1) := by rw [cc_250]; decide +kernel
theorem D250_1238 : decode (cod 250) 1238 = .ok (.iload_n 3, 1) := by rw [cc_250]; decide +kernel
theorem D250_1239 : decode (cod 250) 1239 = .ok (.bipush 9, 2) := by rw [cc_250]; decide +kernel
theorem D250_1241 : decode (cod 250) 1241 = .ok (.iadd, 1) := by rw [cc_250]; decide +kernel
theorem D250_1242 : decode (cod 250) 1242 = .ok (.iaload, 1) := by rw [cc_250]; decide +kernel
theorem D250_1243 : decode (cod 250) 1243 = .ok (.invokevirtual 120, 3) := by rw [cc_250]; decide +kernel
theorem D250_1246 : decode (cod 250) 1246 = .ok (.if_icmp .eq 224, 3) := by rw [cc_250]; decide +kernel
theorem D250_1249 : decode (cod 250) 1249 = .ok (.iconst 0, 1) := by rw [cc_250]; decide +kernel
theorem D250_1250 : decode (cod 250) 1250 = .ok (.ireturn, 1) := by rw [cc_250]; decide +kernel
theorem D250_1251 : decode (cod 250) 1251 = .ok (.aload_n 1, 1) := by rw [cc_250]; decide +kernel
theorem D250_1252 : decode (cod 250) 1252 = .ok (.aload_n 0, 1) := by rw [cc_250]; decide +kernel
theorem D250_1253 : decode (cod 250) 1253 = .ok (.iload_n 3, 1) := by rw [cc_250]; decide +kernel
theorem D250_1254 : decode (cod 250) 1254 = .ok (.iconst 1, 1) := by rw [cc_250]; decide +kernel
theorem D250_1255 : decode (cod 250) 1255 = .ok (.iadd, 1) := by rw [cc_250]; decide +kernel
theorem D250_1256 : decode (cod 250) 1256 = .ok (.iaload, 1) := by rw [cc_250]; decide +kernel
theorem D250_1257 : decode (cod 250) 1257 = .ok (.aload_n 0, 1) := by rw [cc_250]; decide +kernel
theorem D250_1258 : decode (cod 250) 1258 = .ok (.iload_n 3, 1) := by rw [cc_250]; decide +kernel
theorem D250_1259 : decode (cod 250) 1259 = .ok (.iconst 2, 1) := by rw [cc_250]; decide +kernel
theorem D250_1260 : decode (cod 250) 1260 = .ok (.iadd, 1) := by rw [cc_250]; decide +kernel
theorem D250_1261 : decode (cod 250) 1261 = .ok (.iaload, 1) := by rw [cc_250]; decide +kernel
theorem D250_1262 : decode (cod 250) 1262 = .ok (.aload_n 0, 1) := by rw [cc_250]; decide +kernel
theorem D250_1263 : decode (cod 250) 1263 = .ok (.iload_n 3, 1) := by rw [cc_250]; decide +kernel
theorem D250_1264 : decode (cod 250) 1264 = .ok (.iconst 3, 1) := by rw [cc_250]; decide +kernel
theorem D250_1265 : decode (cod 250) 1265 = .ok (.iadd, 1) := by rw [cc_250]; decide +kernel
theorem D250_1266 : decode (cod 250) 1266 = .ok (.iaload, 1) := by rw [cc_250]; decide +kernel
theorem D250_1267 : decode (cod 250) 1267 = .ok (.invokevirtual 121, 3) := by rw [cc_250]; decide +kernel
theorem D250_1270 : decode (cod 250) 1270 = .ok (.aload_n 2, 1) := by rw [cc_250]; decide +kernel
theorem D250_1271 : decode (cod 250) 1271 = .ok (.aload_n 0, 1) := by rw [cc_250]; decide +kernel
theorem D250_1272 : decode (cod 250) 1272 = .ok (.iload_n 3, 1) := by rw [cc_250]; decide +kernel
theorem D250_1273 : decode (cod 250) 1273 = .ok (.iconst 1, 1) := by rw [cc_250]; decide +kernel
theorem D250_1274 : decode (cod 250) 1274 = .ok (.iadd, 1) := by rw [cc_250]; decide +kernel
theorem D250_1275 : decode (cod 250) 1275 = .ok (.iaload, 1) := by rw [cc_250]; decide +kernel
theorem D250_1276 : decode (cod 250) 1276 = .ok (.aload_n 0, 1) := by rw [cc_250]; decide +kernel
theorem D250_1277 : decode (cod 250) 1277 = .ok (.iload_n 3, 1) := by rw [cc_250]; decide +kernel
theorem D250_1278 : decode (cod 250) 1278 = .ok (.iconst 2, 1) := by rw [cc_250]; decide +kernel
theorem D250_1279 : decode (cod 250) 1279 = .ok (.iadd, 1) := by rw [cc_250]; decide +kernel
theorem D250_1280 : decode (cod 250) 1280 = .ok (.iaload, 1) := by rw [cc_250]; decide +kernel
theorem D250_1281 : decode (cod 250) 1281 = .ok (.aload_n 0, 1) := by rw [cc_250]; decide +kernel
theorem D250_1282 : decode (cod 250) 1282 = .ok (.iload_n 3, 1) := by rw [cc_250]; decide +kernel
theorem D250_1283 : decode (cod 250) 1283 = .ok (.iconst 3, 1) := by rw [cc_250]; decide +kernel
theorem D250_1284 : decode (cod 250) 1284 = .ok (.iadd, 1) := by rw [cc_250]; decide +kernel
theorem D250_1285 : decode (cod 250) 1285 = .ok (.iaload, 1) := by rw [cc_250]; decide +kernel
theorem D250_1286 : decode (cod 250) 1286 = .ok (.invokevirtual 124, 3) := by rw [cc_250]; decide +kernel
theorem D250_1289 : decode (cod 250) 1289 = .ok (.if_icmp .eq 181, 3) := by rw [cc_250]; decide +kernel
theorem D250_1292 : decode (cod 250) 1292 = .ok (.iconst 0, 1) := by rw [cc_250]; decide +kernel
theorem D250_1293 : decode (cod 250) 1293 = .ok (.ireturn, 1) := by rw [cc_250]; decide +kernel
theorem D250_1294 : decode (cod 250) 1294 = .ok (.aload_n 1, 1) := by rw [cc_250]; decide +kernel
theorem D250_1295 : decode (cod 250) 1295 = .ok (.aload_n 0, 1) := by rw [cc_250]; decide +kernel
theorem D250_1296 : decode (cod 250) 1296 = .ok (.iload_n 3, 1) := by rw [cc_250]; decide +kernel
theorem D250_1297 : decode (cod 250) 1297 = .ok (.iconst 1, 1) := by rw [cc_250]; decide +kernel
theorem D250_1298 : decode (cod 250) 1298 = .ok (.iadd, 1) := by rw [cc_250]; decide +kernel
theorem D250_1299 : decode (cod 250) 1299 = .ok (.iaload, 1) := by rw [cc_250]; decide +kernel
theorem D250_1300 : decode (cod 250) 1300 = .ok (.aload_n 0, 1) := by rw [cc_250]; decide +kernel
theorem D250_1301 : decode (cod 250) 1301 = .ok (.iload_n 3, 1) := by rw [cc_250]; decide +kernel
theorem D250_1302 : decode (cod 250) 1302 = .ok (.iconst 2, 1) := by rw [cc_250]; decide +kernel
theorem D250_1303 : decode (cod 250) 1303 = .ok (.iadd, 1) := by rw [cc_250]; decide +kernel
theorem D250_1304 : decode (cod 250) 1304 = .ok (.iaload, 1) := by rw [cc_250]; decide +kernel
theorem D250_1305 : decode (cod 250) 1305 = .ok (.invokevirtual 125, 3) := by rw [cc_250]; decide +kernel
theorem D250_1308 : decode (cod 250) 1308 = .ok (.aload_n 2, 1) := by rw [cc_250]; decide +kernel
theorem D250_1309 : decode (cod 250) 1309 = .ok (.aload_n 0, 1) := by rw [cc_250]; decide +kernel
theorem D250_1310 : decode (cod 250) 1310 = .ok (.iload_n 3, 1) := by rw [cc_250]; decide +kernel
theorem D250_1311 : decode (cod 250) 1311 = .ok (.iconst 1, 1) := by rw [cc_250]; decide +kernel
theorem D250_1312 : decode (cod 250) 1312 = .ok (.iadd, 1) := by rw [cc_250]; decide +kernel
theorem D250_1313 : decode (cod 250) 1313 = .ok (.iaload, 1) := by rw [cc_250]; decide +kernel
theorem D250_1314 : decode (cod 250) 1314 = .ok (.aload_n 0, 1) := by rw [cc_250]; decide +kernel
theorem D250_1315 : decode (cod 250) 1315 = .ok (.iload_n 3, 1) := by rw [cc_250]; decide +kernel
theorem D250_1316 : decode (cod 250) 1316 = .ok (.iconst 2, 1) := by rw [cc_250]; decide +kernel
theorem D250_1317 : decode (cod 250) 1317 = .ok (.iadd, 1) := by rw [cc_250]; decide +kernel
theorem D250_1318 : decode (cod 250) 1318 = .ok (.iaload, 1) := by rw [cc_250]; decide +kernel
theorem D250_1319 : decode (cod 250) 1319 = .ok (.invokevirtual 129, 3) := by rw [cc_250]; decide +kernel
theorem D250_1322 : decode (cod 250) 1322 = .ok (.lcmp, 1) := by rw [cc_250]; decide +kernel
theorem D250_1323 : decode (cod 250) 1323 = .ok (.ifCond .eq 147, 3) := by rw [cc_250]; decide +kernel
theorem D250_1326 : decode (cod 250) 1326 = .ok (.iconst 0, 1) := by rw [cc_250]; decide +kernel
theorem D250_1327 : decode (cod 250) 1327 = .ok (.ireturn, 1) := by rw [cc_250]; decide +kernel
theorem D250_1328 : decode (cod 250) 1328 = .ok (.aload_n 1, 1) := by rw [cc_250]; decide +kernel
theorem D250_1329 : decode (cod 250) 1329 = .ok (.aload_n 0, 1) := by rw [cc_250]; decide +kernel
theorem D250_1330 : decode (cod 250) 1330 = .ok (.iload_n 3, 1) := by rw [cc_250]; decide +kernel
theorem D250_1331 : decode (cod 250) 1331 = .ok (.iconst 1, 1) := by rw [cc_250]; decide +kernel
theorem D250_1332 : decode (cod 250) 1332 = .ok (.iadd, 1) := by rw [cc_250]; decide +kernel
theorem D250_1333 : decode (cod 250) 1333 = .ok (.iaload, 1) := by rw [cc_250]; decide +kernel
theorem D250_1334 : decode (cod 250) 1334 = .ok (.aload_n 0, 1) := by rw [cc_250]; decide +kernel
theorem D250_1335 : decode (cod 250) 1335 = .ok (.iload_n 3, 1) := by rw [cc_250]; decide +kernel
theorem D250_1336 : decode (cod 250) 1336 = .ok (.iconst 2, 1) := by rw [cc_250]; decide +kernel
theorem D250_1337 : decode (cod 250) 1337 = .ok (.iadd, 1) := by rw [cc_250]; decide +kernel
theorem D250_1338 : decode (cod 250) 1338 = .ok (.iaload, 1) := by rw [cc_250]; decide +kernel
theorem D250_1339 : decode (cod 250) 1339 = .ok (.invokevirtual 130, 3) := by rw [cc_250]; decide +kernel
theorem D250_1342 : decode (cod 250) 1342 = .ok (.aload_n 2, 1) := by rw [cc_250]; decide +kernel
theorem D250_1343 : decode (cod 250) 1343 = .ok (.aload_n 0, 1) := by rw [cc_250]; decide +kernel
theorem D250_1344 : decode (cod 250) 1344 = .ok (.iload_n 3, 1) := by rw [cc_250]; decide +kernel
theorem D250_1345 : decode (cod 250) 1345 = .ok (.iconst 1, 1) := by rw [cc_250]; decide +kernel
theorem D250_1346 : decode (cod 250) 1346 = .ok (.iadd, 1) := by rw [cc_250]; decide +kernel
theorem D250_1347 : decode (cod 250) 1347 = .ok (.iaload, 1) := by rw [cc_250]; decide +kernel
theorem D250_1348 : decode (cod 250) 1348 = .ok (.aload_n 0, 1) := by rw [cc_250]; decide +kernel
theorem D250_1349 : decode (cod 250) 1349 = .ok (.iload_n 3, 1) := by rw [cc_250]; decide +kernel
theorem D250_1350 : decode (cod 250) 1350 = .ok (.iconst 2, 1) := by rw [cc_250]; decide +kernel
theorem D250_1351 : decode (cod 250) 1351 = .ok (.iadd, 1) := by rw [cc_250]; decide +kernel
theorem D250_1352 : decode (cod 250) 1352 = .ok (.iaload, 1) := by rw [cc_250]; decide +kernel
theorem D250_1353 : decode (cod 250) 1353 = .ok (.invokevirtual 133, 3) := by rw [cc_250]; decide +kernel
theorem D250_1356 : decode (cod 250) 1356 = .ok (.if_icmp .eq 114, 3) := by rw [cc_250]; decide +kernel
theorem D250_1359 : decode (cod 250) 1359 = .ok (.iconst 0, 1) := by rw [cc_250]; decide +kernel
theorem D250_1360 : decode (cod 250) 1360 = .ok (.ireturn, 1) := by rw [cc_250]; decide +kernel
theorem D250_1361 : decode (cod 250) 1361 = .ok (.aload_n 1, 1) := by rw [cc_250]; decide +kernel
theorem D250_1362 : decode (cod 250) 1362 = .ok (.aload_n 0, 1) := by rw [cc_250]; decide +kernel
theorem D250_1363 : decode (cod 250) 1363 = .ok (.iload_n 3, 1) := by rw [cc_250]; decide +kernel
theorem D250_1364 : decode (cod 250) 1364 = .ok (.iconst 1, 1) := by rw [cc_250]; decide +kernel
theorem D250_1365 : decode (cod 250) 1365 = .ok (.iadd, 1) := by rw [cc_250]; decide +kernel
theorem D250_1366 : decode (cod 250) 1366 = .ok (.iaload, 1) := by rw [cc_250]; decide +kernel
theorem D250_1367 : decode (cod 250) 1367 = .ok (.invokevirtual 134, 3) := by rw [cc_250]; decide +kernel
theorem D250_1370 : decode (cod 250) 1370 = .ok (.aload_n 2, 1) := by rw [cc_250]; decide +kernel
theorem D250_1371 : decode (cod 250) 1371 = .ok (.aload_n 0, 1) := by rw [cc_250]; decide +kernel
theorem D250_1372 : decode (cod 250) 1372 = .ok (.iload_n 3, 1) := by rw [cc_250]; decide +kernel
theorem D250_1373 : decode (cod 250) 1373 = .ok (.iconst 1, 1) := by rw [cc_250]; decide +kernel
theorem D250_1374 : decode (cod 250) 1374 = .ok (.iadd, 1) := by rw [cc_250]; decide +kernel
theorem D250_1375 : decode (cod 250) 1375 = .ok (.iaload, 1) := by rw [cc_250]; decide +kernel
theorem D250_1376 : decode (cod 250) 1376 = .ok (.invokevirtual 137, 3) := by rw [cc_250]; decide +kernel
theorem D250_1379 : decode (cod 250) 1379 = .ok (.if_icmp .eq 91, 3) := by rw [cc_250]; decide +kernel
theorem D250_1382 : decode (cod 250) 1382 = .ok (.iconst 0, 1) := by rw [cc_250]; decide +kernel
theorem D250_1383 : decode (cod 250) 1383 = .ok (.ireturn, 1) := by rw [cc_250]; decide +kernel
theorem D250_1384 : decode (cod 250) 1384 = .ok (.aload_n 1, 1) := by rw [cc_250]; decide +kernel
theorem D250_1385 : decode (cod 250) 1385 = .ok (.aload_n 0, 1) := by rw [cc_250]; decide +kernel
theorem D250_1386 : decode (cod 250) 1386 = .ok (.iload_n 3, 1) := by rw [cc_250]; decide +kernel
theorem D250_1387 : decode (cod 250) 1387 = .ok (.iconst 1, 1) := by rw [cc_250]; decide +kernel
theorem D250_1388 : decode (cod 250) 1388 = .ok (.iadd, 1) := by rw [cc_250]; decide +kernel
theorem D250_1389 : decode (cod 250) 1389 = .ok (.iaload, 1) := by rw [cc_250]; decide +kernel
theorem D250_1390 : decode (cod 250) 1390 = .ok (.aload_n 0, 1) := by rw [cc_250]; decide +kernel
theorem D250_1391 : decode (cod 250) 1391 = .ok (.iload_n 3, 1) := by rw [cc_250]; decide +kernel
theorem D250_1392 : decode (cod 250) 1392 = .ok (.iconst 2, 1) := by rw [cc_250]; decide +kernel
theorem D250_1393 : decode (cod 250) 1393 = .ok (.iadd, 1) := by rw [cc_250]; decide +kernel
theorem D250_1394 : decode (cod 250) 1394 = .ok (.iaload, 1) := by rw [cc_250]; decide +kernel
theorem D250_1395 : decode (cod 250) 1395 = .ok (.aload_n 0, 1) := by rw [cc_250]; decide +kernel
theorem D250_1396 : decode (cod 250) 1396 = .ok (.iload_n 3, 1) := by rw [cc_250]; decide +kernel
theorem D250_1397 : decode (cod 250) 1397 = .ok (.iconst 3, 1) := by rw [cc_250]; decide +kernel
theorem D250_1398 : decode (cod 250) 1398 = .ok (.iadd, 1) := by rw [cc_250]; decide +kernel
theorem D250_1399 : decode (cod 250) 1399 = .ok (.iaload, 1) := by rw [cc_250]; decide +kernel
theorem D250_1400 : decode (cod 250) 1400 = .ok (.aload_n 0, 1) := by rw [cc_250]; decide +kernel
theorem D250_1401 : decode (cod 250) 1401 = .ok (.iload_n 3, 1) := by rw [cc_250]; decide +kernel
theorem D250_1402 : decode (cod 250) 1402 = .ok (.iconst 4, 1) := by rw [cc_250]; decide +kernel
theorem D250_1403 : decode (cod 250) 1403 = .ok (.iadd, 1) := by rw [cc_250]; decide +kernel
theorem D250_1404 : decode (cod 250) 1404 = .ok (.iaload, 1) := by rw [cc_250]; decide +kernel
theorem D250_1405 : decode (cod 250) 1405 = .ok (.aload_n 0, 1) := by rw [cc_250]; decide +kernel
theorem D250_1406 : decode (cod 250) 1406 = .ok (.iload_n 3, 1) := by rw [cc_250]; decide +kernel
theorem D250_1407 : decode (cod 250) 1407 = .ok (.iconst 5, 1) := by rw [cc_250]; decide +kernel
theorem D250_1408 : decode (cod 250) 1408 = .ok (.iadd, 1) := by rw [cc_250]; decide +kernel
theorem D250_1409 : decode (cod 250) 1409 = .ok (.iaload, 1) := by rw [cc_250]; decide +kernel
theorem D250_1410 : decode (cod 250) 1410 = .ok (.invokevirtual 138, 3) := by rw [cc_250]; decide +kernel
theorem D250_1413 : decode (cod 250) 1413 = .ok (.aload_n 2, 1) := by rw [cc_250]; decide +kernel
theorem D250_1414 : decode (cod 250) 1414 = .ok (.aload_n 0, 1) := by rw [cc_250]; decide +kernel
theorem D250_1415 : decode (cod 250) 1415 = .ok (.iload_n 3, 1) := by rw [cc_250]; decide +kernel
theorem D250_1416 : decode (cod 250) 1416 = .ok (.iconst 1, 1) := by rw [cc_250]; decide +kernel
theorem D250_1417 : decode (cod 250) 1417 = .ok (.iadd, 1) := by rw [cc_250]; decide +kernel
theorem D250_1418 : decode (cod 250) 1418 = .ok (.iaload, 1) := by rw [cc_250]; decide +kernel
theorem D250_1419 : decode (cod 250) 1419 = .ok (.aload_n 0, 1) := by rw [cc_250]; decide +kernel
theorem D250_1420 : decode (cod 250) 1420 = .ok (.iload_n 3, 1) := by rw [cc_250]; decide +kernel
theorem D250_1421 : decode (cod 250) 1421 = .ok (.iconst 2, 1) := by rw [cc_250]; decide +kernel
theorem D250_1422 : decode (cod 250) 1422 = .ok (.iadd, 1) := by rw [cc_250]; decide +kernel
theorem D250_1423 : decode (cod 250) 1423 = .ok (.iaload, 1) := by rw [cc_250]; decide +kernel
theorem D250_1424 : decode (cod 250) 1424 = .ok (.aload_n 0, 1) := by rw [cc_250]; decide +kernel
theorem D250_1425 : decode (cod 250) 1425 = .ok (.iload_n 3, 1) := by rw [cc_250]; decide +kernel
theorem D250_1426 : decode (cod 250) 1426 = .ok (.iconst 3, 1) := by rw [cc_250]; decide +kernel
theorem D250_1427 : decode (cod 250) 1427 = .ok (.iadd, 1) := by rw [cc_250]; decide +kernel
theorem D250_1428 : decode (cod 250) 1428 = .ok (.iaload, 1) := by rw [cc_250]; decide +kernel
theorem D250_1429 : decode (cod 250) 1429 = .ok (.aload_n 0, 1) := by rw [cc_250]; decide +kernel
theorem D250_1430 : decode (cod 250) 1430 = .ok (.iload_n 3, 1) := by rw [cc_250]; decide +kernel
theorem D250_1431 : decode (cod 250) 1431 = .ok (.iconst 4, 1) := by rw [cc_250]; decide +kernel
theorem D250_1432 : decode (cod 250) 1432 = .ok (.iadd, 1) := by rw [cc_250]; decide +kernel
theorem D250_1433 : decode (cod 250) 1433 = .ok (.iaload, 1) := by rw [cc_250]; decide +kernel
theorem D250_1434 : decode (cod 250) 1434 = .ok (.aload_n 0, 1) := by rw [cc_250]; decide +kernel
theorem D250_1435 : decode (cod 250) 1435 = .ok (.iload_n 3, 1) := by rw [cc_250]; decide +kernel
theorem D250_1436 : decode (cod 250) 1436 = .ok (.iconst 5, 1) := by rw [cc_250]; decide +kernel
theorem D250_1437 : decode (cod 250) 1437 = .ok (.iadd, 1) := by rw [cc_250]; decide +kernel
theorem D250_1438 : decode (cod 250) 1438 = .ok (.iaload, 1) := by rw [cc_250]; decide +kernel
theorem D250_1439 : decode (cod 250) 1439 = .ok (.invokevirtual 141, 3) := by rw [cc_250]; decide +kernel
theorem D250_1442 : decode (cod 250) 1442 = .ok (.if_icmp .eq 28, 3) := by rw [cc_250]; decide +kernel
theorem D250_1445 : decode (cod 250) 1445 = .ok (.iconst 0, 1) := by rw [cc_250]; decide +kernel
theorem D250_1446 : decode (cod 250) 1446 = .ok (.ireturn, 1) := by rw [cc_250]; decide +kernel
theorem D250_1447 : decode (cod 250) 1447 = .ok (.aload_n 1, 1) := by rw [cc_250]; decide +kernel
theorem D250_1448 : decode (cod 250) 1448 = .ok (.aload_n 0, 1) := by rw [cc_250]; decide +kernel
theorem D250_1449 : decode (cod 250) 1449 = .ok (.iload_n 3, 1) := by rw [cc_250]; decide +kernel
theorem D250_1450 : decode (cod 250) 1450 = .ok (.iconst 1, 1) := by rw [cc_250]; decide +kernel
theorem D250_1451 : decode (cod 250) 1451 = .ok (.iadd, 1) := by rw [cc_250]; decide +kernel
theorem D250_1452 : decode (cod 250) 1452 = .ok (.iaload, 1) := by rw [cc_250]; decide +kernel
theorem D250_1453 : decode (cod 250) 1453 = .ok (.invokevirtual 142, 3) := by rw [cc_250]; decide +kernel
theorem D250_1456 : decode (cod 250) 1456 = .ok (.aload_n 2, 1) := by rw [cc_250]; decide +kernel
theorem D250_1457 : decode (cod 250) 1457 = .ok (.aload_n 0, 1) := by rw [cc_250]; decide +kernel
theorem D250_1458 : decode (cod 250) 1458 = .ok (.iload_n 3, 1) := by rw [cc_250]; decide +kernel
theorem D250_1459 : decode (cod 250) 1459 = .ok (.iconst 1, 1) := by rw [cc_250]; decide +kernel
theorem D250_1460 : decode (cod 250) 1460 = .ok (.iadd, 1) := by rw [cc_250]; decide +kernel
theorem D250_1461 : decode (cod 250) 1461 = .ok (.iaload, 1) := by rw [cc_250]; decide +kernel
theorem D250_1462 : decode (cod 250) 1462 = .ok (.invokevirtual 145, 3) := by rw [cc_250]; decide +kernel
theorem D250_1465 : decode (cod 250) 1465 = .ok (.if_icmp .eq 5, 3) := by rw [cc_250]; decide +kernel
theorem D250_1468 : decode (cod 250) 1468 = .ok (.iconst 0, 1) := by rw [cc_250]; decide +kernel
theorem D250_1469 : decode (cod 250) 1469 = .ok (.ireturn, 1) := by rw [cc_250]; decide +kernel
theorem D250_1470 : decode (cod 250) 1470 = .ok (.iinc 3 10, 3) := by rw [cc_250]; decide +kernel
theorem D250_1473 : decode (cod 250) 1473 = .ok (.goto (-1455), 3) := by rw [cc_250]; decide +kernel
theorem D250_1476 : decode (cod 250) 1476 = .ok (.iconst 1, 1) := by rw [cc_250]; decide +kernel
theorem D250_1477 : decode (cod 250) 1477 = .ok (.ireturn, 1) := by rw [cc_250]; decide +kernel
abbrev lsL (S : Nat) (j : Int) : List MV := [vr 118 S, vr 11 0, vr 12 0, vi j]
section LAWC
variable {S j : Nat} {I L : H3} {t : Nat → Nat}
theorem c_arg {d y p0 p1 p2 p3 p4 p5 i : Nat} {st : List MV} {a : Int} (h0 : decode (cod y) p0 = .ok (.aload_n 0, 1)) (q0 : p0 + 1 = p1) (h1 : decode (cod y) p1 = .ok (.iload_n 3, 1)) (q1 : p1 + 1 = p2) (h2 : ∀ st : List MV, Res d y p2 (lsL S j) st (mk I L t) = Res d y p3 (lsL S j) (vi (i : Int) :: st) (mk I L t)) (h3 : decode (cod y) p3 = .ok (.iadd, 1)) (q3 : p3 + 1 = p4) (h4 : decode (cod y) p4 = .ok (.iaload, 1)) (q4 : p4 + 1 = p5) (hS : S ≤ 5120) (g : j + i < S) (ha : I 118 S (j + i) = a) : Res d y p0 (lsL S j) st (mk I L t) = Res d y p5 (lsL S j) (vi a :: st) (mk I L t) := by
  refine Eq.trans (e_aload_n h0 q0 rfl) <| Eq.trans (e_iload_n h1 q1 rfl) <| Eq.trans (h2 _) <| Eq.trans (e_iadd h3 q3) ?_
  rw [show w32 ((j : Int) + (i : Int)) = ((j + i : Nat) : Int) by rw [w32_s (by omega)]; omega]
  refine Eq.trans (e_iald (n := S) h4 q4 (al_118 _) (by omega)) ?_
  rw [Int.toNat_natCast, show ldI (mk I L t) 118 S (j + i) = I 118 S (j + i) from rfl, ha]
theorem c_virt {d y pc q : Nat} {ls st st' : List MV} {h h' : MS} {v : MV} {ix o z ne w : Nat} {as rest : List MV} (hd : decode (cod y) pc = .ok (.invokevirtual ix, 3)) (hq : pc + 3 = q) (ho : own y = o) (hm : mthR o ix = some (z, ne, w)) (hz : z < 250) (hc : cllGo z ne 1 st = some (z, as, rest)) (hv : rcv z as = true) (hk : Cal d z as h = some (v, h')) (hp : psh z v rest = st') : Res (d + 1) y pc ls st h = Res (d + 1) y q ls st' h' := by
  rw [e_callV hd hq ho hm hz hc hv, hk]
  show Res (d + 1) y q ls (psh z v rest) h' = _
  rw [hp]
theorem H250_next {K L2 : H3} {t1 : Nat → Nat} (hS : S ≤ 5120) (g : j + 10 ≤ S) : Res 64 250 1470 (lsL S j) [] (mk K L2 t1) = Res 64 250 18 (lsL S ((j + 10 : Nat) : Int)) [] (mk K L2 t1) := by
  refine Eq.trans (e_iinc (ls1 := lsL S (w32 ((j : Int) + 10))) D250_1470 rfl rfl rfl) (Eq.trans (e_goto (q1 := 18) D250_1473 rfl) ?_)
  rw [w32_s (x := (j : Int) + 10) (by omega)]
  rfl
theorem H250_out (hS : S ≤ 5120) (g : S < j + 10) : Res 64 250 18 (lsL S j) [] (mk I L t) = some (vi 1, mk I L t) := by
  refine Eq.trans (e_iload_n D250_18 rfl rfl) <| Eq.trans (e_aload_n D250_19 rfl rfl) <| Eq.trans (e_alenS D250_20 rfl) <| Eq.trans (e_bipush (x := 10) D250_21 rfl rfl) <| Eq.trans (e_isub D250_23 rfl) <| Eq.trans (e_icgt (q1 := 1476) D250_24 rfl rfl) ?_
  rw [w32_s (x := (S : Int) - 10) (by omega), if_pos (by omega)]
  exact Eq.trans (e_iconst (x := 1) D250_1476 rfl rfl) (e_iret D250_1477 rfl)
theorem H250_in (hS : S ≤ 5120) (g : j + 10 ≤ S) : Res 64 250 18 (lsL S j) [] (mk I L t) = Res 64 250 33 (lsL S j) [vi (vIand (I 118 S j) 31)] (mk I L t) := by
  refine Eq.trans (e_iload_n D250_18 rfl rfl) <| Eq.trans (e_aload_n D250_19 rfl rfl) <| Eq.trans (e_alenS D250_20 rfl) <| Eq.trans (e_bipush (x := 10) D250_21 rfl rfl) <| Eq.trans (e_isub D250_23 rfl) <| Eq.trans (e_icgt (q1 := 1476) D250_24 rfl rfl) ?_
  rw [w32_s (x := (S : Int) - 10) (by omega), if_neg (by omega)]
  refine Eq.trans (e_aload_n D250_27 rfl rfl) <| Eq.trans (e_iload_n D250_28 rfl rfl) <| Eq.trans (e_iald (n := S) D250_29 rfl (al_118 _) (by omega)) <| Eq.trans (e_bipush (x := 31) D250_30 rfl rfl) <| Eq.trans (e_iand D250_32 rfl) ?_
  rw [Int.toNat_natCast]
  rfl
variable {J L1 K L2 : H3} {t1 : Nat → Nat} {x : Int}
theorem C250_0 (hS : S ≤ 5120) (g : j + 10 ≤ S) (e : J 118 = I 118) (c1 : Cal 63 71 [vr 11 0, vi (I 118 S (j + 1)), vi (I 118 S (j + 2)), vi (I 118 S (j + 3)), vi (I 118 S (j + 4)), vi (I 118 S (j + 5))] (mk I L t) = some (vi x, mk J L1 t1)) (c2 : Cal 63 151 [vr 12 0, vi (I 118 S (j + 1)), vi (I 118 S (j + 2)), vi (I 118 S (j + 3)), vi (I 118 S (j + 4)), vi (I 118 S (j + 5))] (mk J L1 t1) = some (vi x, mk K L2 t1)) : Res 64 250 172 (lsL S j) [] (mk I L t) = Res 64 250 18 (lsL S ((j + 10 : Nat) : Int)) [] (mk K L2 t1) :=
  Eq.trans (e_aload_n D250_172 rfl rfl) <| Eq.trans (c_arg (i := 1) D250_173 rfl D250_174 rfl (fun _ => e_iconst (x := 1) D250_175 rfl rfl) D250_176 rfl D250_177 rfl hS (by omega) rfl) <| Eq.trans (c_arg (i := 2) D250_178 rfl D250_179 rfl (fun _ => e_iconst (x := 2) D250_180 rfl rfl) D250_181 rfl D250_182 rfl hS (by omega) rfl) <| Eq.trans (c_arg (i := 3) D250_183 rfl D250_184 rfl (fun _ => e_iconst (x := 3) D250_185 rfl rfl) D250_186 rfl D250_187 rfl hS (by omega) rfl) <| Eq.trans (c_arg (i := 4) D250_188 rfl D250_189 rfl (fun _ => e_iconst (x := 4) D250_190 rfl rfl) D250_191 rfl D250_192 rfl hS (by omega) rfl) <| Eq.trans (c_arg (i := 5) D250_193 rfl D250_194 rfl (fun _ => e_iconst (x := 5) D250_195 rfl rfl) D250_196 rfl D250_197 rfl hS (by omega) rfl) <| Eq.trans (c_virt (z := 71) (ne := 0) (w := 460) (as := [vr 11 0, vi (I 118 S (j + 1)), vi (I 118 S (j + 2)), vi (I 118 S (j + 3)), vi (I 118 S (j + 4)), vi (I 118 S (j + 5))]) (rest := []) (st' := [vi x]) D250_198 rfl rfl rfl (by decide) rfl rfl c1 rfl) <| Eq.trans (e_aload_n D250_201 rfl rfl) <| Eq.trans (c_arg (i := 1) D250_202 rfl D250_203 rfl (fun _ => e_iconst (x := 1) D250_204 rfl rfl) D250_205 rfl D250_206 rfl hS (by omega) (congrFun (congrFun e S) _)) <| Eq.trans (c_arg (i := 2) D250_207 rfl D250_208 rfl (fun _ => e_iconst (x := 2) D250_209 rfl rfl) D250_210 rfl D250_211 rfl hS (by omega) (congrFun (congrFun e S) _)) <| Eq.trans (c_arg (i := 3) D250_212 rfl D250_213 rfl (fun _ => e_iconst (x := 3) D250_214 rfl rfl) D250_215 rfl D250_216 rfl hS (by omega) (congrFun (congrFun e S) _)) <| Eq.trans (c_arg (i := 4) D250_217 rfl D250_218 rfl (fun _ => e_iconst (x := 4) D250_219 rfl rfl) D250_220 rfl D250_221 rfl hS (by omega) (congrFun (congrFun e S) _)) <| Eq.trans (c_arg (i := 5) D250_222 rfl D250_223 rfl (fun _ => e_iconst (x := 5) D250_224 rfl rfl) D250_225 rfl D250_226 rfl hS (by omega) (congrFun (congrFun e S) _)) <| Eq.trans (c_virt (z := 151) (ne := 0) (w := 1394) (as := [vr 12 0, vi (I 118 S (j + 1)), vi (I 118 S (j + 2)), vi (I 118 S (j + 3)), vi (I 118 S (j + 4)), vi (I 118 S (j + 5))]) (rest := [vi x]) (st' := [vi x, vi x]) D250_227 rfl rfl rfl (by decide) rfl rfl c2 rfl) <| Eq.trans (e_iceq (q1 := 1470) D250_230 rfl rfl) <| Eq.trans (if_pos rfl) <| H250_next hS g
theorem C250_1 (hS : S ≤ 5120) (g : j + 10 ≤ S) (e : J 118 = I 118) (c1 : Cal 63 72 [vr 11 0, vi (I 118 S (j + 1)), vi (I 118 S (j + 2))] (mk I L t) = some (vi x, mk J L1 t1)) (c2 : Cal 63 152 [vr 12 0, vi (I 118 S (j + 1)), vi (I 118 S (j + 2))] (mk J L1 t1) = some (vi x, mk K L2 t1)) : Res 64 250 235 (lsL S j) [] (mk I L t) = Res 64 250 18 (lsL S ((j + 10 : Nat) : Int)) [] (mk K L2 t1) :=
  Eq.trans (e_aload_n D250_235 rfl rfl) <| Eq.trans (c_arg (i := 1) D250_236 rfl D250_237 rfl (fun _ => e_iconst (x := 1) D250_238 rfl rfl) D250_239 rfl D250_240 rfl hS (by omega) rfl) <| Eq.trans (c_arg (i := 2) D250_241 rfl D250_242 rfl (fun _ => e_iconst (x := 2) D250_243 rfl rfl) D250_244 rfl D250_245 rfl hS (by omega) rfl) <| Eq.trans (c_virt (z := 72) (ne := 0) (w := 471) (as := [vr 11 0, vi (I 118 S (j + 1)), vi (I 118 S (j + 2))]) (rest := []) (st' := [vi x]) D250_246 rfl rfl rfl (by decide) rfl rfl c1 rfl) <| Eq.trans (e_aload_n D250_249 rfl rfl) <| Eq.trans (c_arg (i := 1) D250_250 rfl D250_251 rfl (fun _ => e_iconst (x := 1) D250_252 rfl rfl) D250_253 rfl D250_254 rfl hS (by omega) (congrFun (congrFun e S) _)) <| Eq.trans (c_arg (i := 2) D250_255 rfl D250_256 rfl (fun _ => e_iconst (x := 2) D250_257 rfl rfl) D250_258 rfl D250_259 rfl hS (by omega) (congrFun (congrFun e S) _)) <| Eq.trans (c_virt (z := 152) (ne := 0) (w := 1404) (as := [vr 12 0, vi (I 118 S (j + 1)), vi (I 118 S (j + 2))]) (rest := [vi x]) (st' := [vi x, vi x]) D250_260 rfl rfl rfl (by decide) rfl rfl c2 rfl) <| Eq.trans (e_iceq (q1 := 1470) D250_263 rfl rfl) <| Eq.trans (if_pos rfl) <| H250_next hS g
theorem C250_2 (hS : S ≤ 5120) (g : j + 10 ≤ S) (e : J 118 = I 118) (c1 : Cal 63 73 [vr 11 0, vi (I 118 S (j + 1)), vi (I 118 S (j + 2))] (mk I L t) = some (vi x, mk J L1 t1)) (c2 : Cal 63 153 [vr 12 0, vi (I 118 S (j + 1)), vi (I 118 S (j + 2))] (mk J L1 t1) = some (vi x, mk K L2 t1)) : Res 64 250 268 (lsL S j) [] (mk I L t) = Res 64 250 18 (lsL S ((j + 10 : Nat) : Int)) [] (mk K L2 t1) :=
  Eq.trans (e_aload_n D250_268 rfl rfl) <| Eq.trans (c_arg (i := 1) D250_269 rfl D250_270 rfl (fun _ => e_iconst (x := 1) D250_271 rfl rfl) D250_272 rfl D250_273 rfl hS (by omega) rfl) <| Eq.trans (c_arg (i := 2) D250_274 rfl D250_275 rfl (fun _ => e_iconst (x := 2) D250_276 rfl rfl) D250_277 rfl D250_278 rfl hS (by omega) rfl) <| Eq.trans (c_virt (z := 73) (ne := 0) (w := 479) (as := [vr 11 0, vi (I 118 S (j + 1)), vi (I 118 S (j + 2))]) (rest := []) (st' := [vi x]) D250_279 rfl rfl rfl (by decide) rfl rfl c1 rfl) <| Eq.trans (e_aload_n D250_282 rfl rfl) <| Eq.trans (c_arg (i := 1) D250_283 rfl D250_284 rfl (fun _ => e_iconst (x := 1) D250_285 rfl rfl) D250_286 rfl D250_287 rfl hS (by omega) (congrFun (congrFun e S) _)) <| Eq.trans (c_arg (i := 2) D250_288 rfl D250_289 rfl (fun _ => e_iconst (x := 2) D250_290 rfl rfl) D250_291 rfl D250_292 rfl hS (by omega) (congrFun (congrFun e S) _)) <| Eq.trans (c_virt (z := 153) (ne := 0) (w := 1412) (as := [vr 12 0, vi (I 118 S (j + 1)), vi (I 118 S (j + 2))]) (rest := [vi x]) (st' := [vi x, vi x]) D250_293 rfl rfl rfl (by decide) rfl rfl c2 rfl) <| Eq.trans (e_iceq (q1 := 1470) D250_296 rfl rfl) <| Eq.trans (if_pos rfl) <| H250_next hS g
theorem C250_3 (hS : S ≤ 5120) (g : j + 10 ≤ S) (e : J 118 = I 118) (c1 : Cal 63 74 [vr 11 0, vi (I 118 S (j + 1)), vi (I 118 S (j + 2))] (mk I L t) = some (vi x, mk J L1 t1)) (c2 : Cal 63 154 [vr 12 0, vi (I 118 S (j + 1)), vi (I 118 S (j + 2))] (mk J L1 t1) = some (vi x, mk K L2 t1)) : Res 64 250 301 (lsL S j) [] (mk I L t) = Res 64 250 18 (lsL S ((j + 10 : Nat) : Int)) [] (mk K L2 t1) :=
  Eq.trans (e_aload_n D250_301 rfl rfl) <| Eq.trans (c_arg (i := 1) D250_302 rfl D250_303 rfl (fun _ => e_iconst (x := 1) D250_304 rfl rfl) D250_305 rfl D250_306 rfl hS (by omega) rfl) <| Eq.trans (c_arg (i := 2) D250_307 rfl D250_308 rfl (fun _ => e_iconst (x := 2) D250_309 rfl rfl) D250_310 rfl D250_311 rfl hS (by omega) rfl) <| Eq.trans (c_virt (z := 74) (ne := 0) (w := 486) (as := [vr 11 0, vi (I 118 S (j + 1)), vi (I 118 S (j + 2))]) (rest := []) (st' := [vi x]) D250_312 rfl rfl rfl (by decide) rfl rfl c1 rfl) <| Eq.trans (e_aload_n D250_315 rfl rfl) <| Eq.trans (c_arg (i := 1) D250_316 rfl D250_317 rfl (fun _ => e_iconst (x := 1) D250_318 rfl rfl) D250_319 rfl D250_320 rfl hS (by omega) (congrFun (congrFun e S) _)) <| Eq.trans (c_arg (i := 2) D250_321 rfl D250_322 rfl (fun _ => e_iconst (x := 2) D250_323 rfl rfl) D250_324 rfl D250_325 rfl hS (by omega) (congrFun (congrFun e S) _)) <| Eq.trans (c_virt (z := 154) (ne := 0) (w := 1416) (as := [vr 12 0, vi (I 118 S (j + 1)), vi (I 118 S (j + 2))]) (rest := [vi x]) (st' := [vi x, vi x]) D250_326 rfl rfl rfl (by decide) rfl rfl c2 rfl) <| Eq.trans (e_iceq (q1 := 1470) D250_329 rfl rfl) <| Eq.trans (if_pos rfl) <| H250_next hS g
theorem C250_4 (hS : S ≤ 5120) (g : j + 10 ≤ S) (e : J 118 = I 118) (c1 : Cal 63 75 [vr 11 0, vi (I 118 S (j + 1))] (mk I L t) = some (vi x, mk J L1 t1)) (c2 : Cal 63 155 [vr 12 0, vi (I 118 S (j + 1))] (mk J L1 t1) = some (vi x, mk K L2 t1)) : Res 64 250 334 (lsL S j) [] (mk I L t) = Res 64 250 18 (lsL S ((j + 10 : Nat) : Int)) [] (mk K L2 t1) :=
  Eq.trans (e_aload_n D250_334 rfl rfl) <| Eq.trans (c_arg (i := 1) D250_335 rfl D250_336 rfl (fun _ => e_iconst (x := 1) D250_337 rfl rfl) D250_338 rfl D250_339 rfl hS (by omega) rfl) <| Eq.trans (c_virt (z := 75) (ne := 0) (w := 494) (as := [vr 11 0, vi (I 118 S (j + 1))]) (rest := []) (st' := [vi x]) D250_340 rfl rfl rfl (by decide) rfl rfl c1 rfl) <| Eq.trans (e_aload_n D250_343 rfl rfl) <| Eq.trans (c_arg (i := 1) D250_344 rfl D250_345 rfl (fun _ => e_iconst (x := 1) D250_346 rfl rfl) D250_347 rfl D250_348 rfl hS (by omega) (congrFun (congrFun e S) _)) <| Eq.trans (c_virt (z := 155) (ne := 0) (w := 1423) (as := [vr 12 0, vi (I 118 S (j + 1))]) (rest := [vi x]) (st' := [vi x, vi x]) D250_349 rfl rfl rfl (by decide) rfl rfl c2 rfl) <| Eq.trans (e_iceq (q1 := 1470) D250_352 rfl rfl) <| Eq.trans (if_pos rfl) <| H250_next hS g
theorem C250_5 (hS : S ≤ 5120) (g : j + 10 ≤ S) (e : J 118 = I 118) (c1 : Cal 63 76 [vr 11 0, vi (I 118 S (j + 1)), vi (I 118 S (j + 2)), vi (I 118 S (j + 3)), vi (I 118 S (j + 4)), vi (I 118 S (j + 5))] (mk I L t) = some (vi x, mk J L1 t1)) (c2 : Cal 63 159 [vr 12 0, vi (I 118 S (j + 1)), vi (I 118 S (j + 2)), vi (I 118 S (j + 3)), vi (I 118 S (j + 4)), vi (I 118 S (j + 5))] (mk J L1 t1) = some (vi x, mk K L2 t1)) : Res 64 250 357 (lsL S j) [] (mk I L t) = Res 64 250 18 (lsL S ((j + 10 : Nat) : Int)) [] (mk K L2 t1) :=
  Eq.trans (e_aload_n D250_357 rfl rfl) <| Eq.trans (c_arg (i := 1) D250_358 rfl D250_359 rfl (fun _ => e_iconst (x := 1) D250_360 rfl rfl) D250_361 rfl D250_362 rfl hS (by omega) rfl) <| Eq.trans (c_arg (i := 2) D250_363 rfl D250_364 rfl (fun _ => e_iconst (x := 2) D250_365 rfl rfl) D250_366 rfl D250_367 rfl hS (by omega) rfl) <| Eq.trans (c_arg (i := 3) D250_368 rfl D250_369 rfl (fun _ => e_iconst (x := 3) D250_370 rfl rfl) D250_371 rfl D250_372 rfl hS (by omega) rfl) <| Eq.trans (c_arg (i := 4) D250_373 rfl D250_374 rfl (fun _ => e_iconst (x := 4) D250_375 rfl rfl) D250_376 rfl D250_377 rfl hS (by omega) rfl) <| Eq.trans (c_arg (i := 5) D250_378 rfl D250_379 rfl (fun _ => e_iconst (x := 5) D250_380 rfl rfl) D250_381 rfl D250_382 rfl hS (by omega) rfl) <| Eq.trans (c_virt (z := 76) (ne := 0) (w := 498) (as := [vr 11 0, vi (I 118 S (j + 1)), vi (I 118 S (j + 2)), vi (I 118 S (j + 3)), vi (I 118 S (j + 4)), vi (I 118 S (j + 5))]) (rest := []) (st' := [vi x]) D250_383 rfl rfl rfl (by decide) rfl rfl c1 rfl) <| Eq.trans (e_aload_n D250_386 rfl rfl) <| Eq.trans (c_arg (i := 1) D250_387 rfl D250_388 rfl (fun _ => e_iconst (x := 1) D250_389 rfl rfl) D250_390 rfl D250_391 rfl hS (by omega) (congrFun (congrFun e S) _)) <| Eq.trans (c_arg (i := 2) D250_392 rfl D250_393 rfl (fun _ => e_iconst (x := 2) D250_394 rfl rfl) D250_395 rfl D250_396 rfl hS (by omega) (congrFun (congrFun e S) _)) <| Eq.trans (c_arg (i := 3) D250_397 rfl D250_398 rfl (fun _ => e_iconst (x := 3) D250_399 rfl rfl) D250_400 rfl D250_401 rfl hS (by omega) (congrFun (congrFun e S) _)) <| Eq.trans (c_arg (i := 4) D250_402 rfl D250_403 rfl (fun _ => e_iconst (x := 4) D250_404 rfl rfl) D250_405 rfl D250_406 rfl hS (by omega) (congrFun (congrFun e S) _)) <| Eq.trans (c_arg (i := 5) D250_407 rfl D250_408 rfl (fun _ => e_iconst (x := 5) D250_409 rfl rfl) D250_410 rfl D250_411 rfl hS (by omega) (congrFun (congrFun e S) _)) <| Eq.trans (c_virt (z := 159) (ne := 0) (w := 1427) (as := [vr 12 0, vi (I 118 S (j + 1)), vi (I 118 S (j + 2)), vi (I 118 S (j + 3)), vi (I 118 S (j + 4)), vi (I 118 S (j + 5))]) (rest := [vi x]) (st' := [vi x, vi x]) D250_412 rfl rfl rfl (by decide) rfl rfl c2 rfl) <| Eq.trans (e_iceq (q1 := 1470) D250_415 rfl rfl) <| Eq.trans (if_pos rfl) <| H250_next hS g
theorem C250_6 (hS : S ≤ 5120) (g : j + 10 ≤ S) (e : J 118 = I 118) (c1 : Cal 63 77 [vr 11 0, vi (I 118 S (j + 1))] (mk I L t) = some (vi x, mk J L1 t1)) (c2 : Cal 63 160 [vr 12 0, vi (I 118 S (j + 1))] (mk J L1 t1) = some (vi x, mk K L2 t1)) : Res 64 250 420 (lsL S j) [] (mk I L t) = Res 64 250 18 (lsL S ((j + 10 : Nat) : Int)) [] (mk K L2 t1) :=
  Eq.trans (e_aload_n D250_420 rfl rfl) <| Eq.trans (c_arg (i := 1) D250_421 rfl D250_422 rfl (fun _ => e_iconst (x := 1) D250_423 rfl rfl) D250_424 rfl D250_425 rfl hS (by omega) rfl) <| Eq.trans (c_virt (z := 77) (ne := 0) (w := 506) (as := [vr 11 0, vi (I 118 S (j + 1))]) (rest := []) (st' := [vi x]) D250_426 rfl rfl rfl (by decide) rfl rfl c1 rfl) <| Eq.trans (e_aload_n D250_429 rfl rfl) <| Eq.trans (c_arg (i := 1) D250_430 rfl D250_431 rfl (fun _ => e_iconst (x := 1) D250_432 rfl rfl) D250_433 rfl D250_434 rfl hS (by omega) (congrFun (congrFun e S) _)) <| Eq.trans (c_virt (z := 160) (ne := 0) (w := 1431) (as := [vr 12 0, vi (I 118 S (j + 1))]) (rest := [vi x]) (st' := [vi x, vi x]) D250_435 rfl rfl rfl (by decide) rfl rfl c2 rfl) <| Eq.trans (e_iceq (q1 := 1470) D250_438 rfl rfl) <| Eq.trans (if_pos rfl) <| H250_next hS g
theorem C250_7 (hS : S ≤ 5120) (g : j + 10 ≤ S) (e : J 118 = I 118) (c1 : Cal 63 78 [vr 11 0, vi (I 118 S (j + 1)), vi (I 118 S (j + 2))] (mk I L t) = some (vi x, mk J L1 t1)) (c2 : Cal 63 179 [vr 12 0, vi (I 118 S (j + 1)), vi (I 118 S (j + 2))] (mk J L1 t1) = some (vi x, mk K L2 t1)) : Res 64 250 443 (lsL S j) [] (mk I L t) = Res 64 250 18 (lsL S ((j + 10 : Nat) : Int)) [] (mk K L2 t1) :=
  Eq.trans (e_aload_n D250_443 rfl rfl) <| Eq.trans (c_arg (i := 1) D250_444 rfl D250_445 rfl (fun _ => e_iconst (x := 1) D250_446 rfl rfl) D250_447 rfl D250_448 rfl hS (by omega) rfl) <| Eq.trans (c_arg (i := 2) D250_449 rfl D250_450 rfl (fun _ => e_iconst (x := 2) D250_451 rfl rfl) D250_452 rfl D250_453 rfl hS (by omega) rfl) <| Eq.trans (c_virt (z := 78) (ne := 0) (w := 510) (as := [vr 11 0, vi (I 118 S (j + 1)), vi (I 118 S (j + 2))]) (rest := []) (st' := [vi x]) D250_454 rfl rfl rfl (by decide) rfl rfl c1 rfl) <| Eq.trans (e_aload_n D250_457 rfl rfl) <| Eq.trans (c_arg (i := 1) D250_458 rfl D250_459 rfl (fun _ => e_iconst (x := 1) D250_460 rfl rfl) D250_461 rfl D250_462 rfl hS (by omega) (congrFun (congrFun e S) _)) <| Eq.trans (c_arg (i := 2) D250_463 rfl D250_464 rfl (fun _ => e_iconst (x := 2) D250_465 rfl rfl) D250_466 rfl D250_467 rfl hS (by omega) (congrFun (congrFun e S) _)) <| Eq.trans (c_virt (z := 179) (ne := 0) (w := 1435) (as := [vr 12 0, vi (I 118 S (j + 1)), vi (I 118 S (j + 2))]) (rest := [vi x]) (st' := [vi x, vi x]) D250_468 rfl rfl rfl (by decide) rfl rfl c2 rfl) <| Eq.trans (e_iceq (q1 := 1470) D250_471 rfl rfl) <| Eq.trans (if_pos rfl) <| H250_next hS g
theorem C250_8 (hS : S ≤ 5120) (g : j + 10 ≤ S) (e : J 118 = I 118) (c1 : Cal 63 79 [vr 11 0, vi (I 118 S (j + 1))] (mk I L t) = some (vi x, mk J L1 t1)) (c2 : Cal 63 181 [vr 12 0, vi (I 118 S (j + 1))] (mk J L1 t1) = some (vi x, mk K L2 t1)) : Res 64 250 476 (lsL S j) [] (mk I L t) = Res 64 250 18 (lsL S ((j + 10 : Nat) : Int)) [] (mk K L2 t1) :=
  Eq.trans (e_aload_n D250_476 rfl rfl) <| Eq.trans (c_arg (i := 1) D250_477 rfl D250_478 rfl (fun _ => e_iconst (x := 1) D250_479 rfl rfl) D250_480 rfl D250_481 rfl hS (by omega) rfl) <| Eq.trans (c_virt (z := 79) (ne := 0) (w := 732) (as := [vr 11 0, vi (I 118 S (j + 1))]) (rest := []) (st' := [vi x]) D250_482 rfl rfl rfl (by decide) rfl rfl c1 rfl) <| Eq.trans (e_aload_n D250_485 rfl rfl) <| Eq.trans (c_arg (i := 1) D250_486 rfl D250_487 rfl (fun _ => e_iconst (x := 1) D250_488 rfl rfl) D250_489 rfl D250_490 rfl hS (by omega) (congrFun (congrFun e S) _)) <| Eq.trans (c_virt (z := 181) (ne := 0) (w := 1538) (as := [vr 12 0, vi (I 118 S (j + 1))]) (rest := [vi x]) (st' := [vi x, vi x]) D250_491 rfl rfl rfl (by decide) rfl rfl c2 rfl) <| Eq.trans (e_iceq (q1 := 1470) D250_494 rfl rfl) <| Eq.trans (if_pos rfl) <| H250_next hS g
theorem C250_9 (hS : S ≤ 5120) (g : j + 10 ≤ S) (e : J 118 = I 118) (c1 : Cal 63 80 [vr 11 0, vi (I 118 S (j + 1))] (mk I L t) = some (vi x, mk J L1 t1)) (c2 : Cal 63 200 [vr 12 0, vi (I 118 S (j + 1))] (mk J L1 t1) = some (vi x, mk K L2 t1)) : Res 64 250 499 (lsL S j) [] (mk I L t) = Res 64 250 18 (lsL S ((j + 10 : Nat) : Int)) [] (mk K L2 t1) :=
  Eq.trans (e_aload_n D250_499 rfl rfl) <| Eq.trans (c_arg (i := 1) D250_500 rfl D250_501 rfl (fun _ => e_iconst (x := 1) D250_502 rfl rfl) D250_503 rfl D250_504 rfl hS (by omega) rfl) <| Eq.trans (c_virt (z := 80) (ne := 0) (w := 736) (as := [vr 11 0, vi (I 118 S (j + 1))]) (rest := []) (st' := [vi x]) D250_505 rfl rfl rfl (by decide) rfl rfl c1 rfl) <| Eq.trans (e_aload_n D250_508 rfl rfl) <| Eq.trans (c_arg (i := 1) D250_509 rfl D250_510 rfl (fun _ => e_iconst (x := 1) D250_511 rfl rfl) D250_512 rfl D250_513 rfl hS (by omega) (congrFun (congrFun e S) _)) <| Eq.trans (c_virt (z := 200) (ne := 0) (w := 1575) (as := [vr 12 0, vi (I 118 S (j + 1))]) (rest := [vi x]) (st' := [vi x, vi x]) D250_514 rfl rfl rfl (by decide) rfl rfl c2 rfl) <| Eq.trans (e_iceq (q1 := 1470) D250_517 rfl rfl) <| Eq.trans (if_pos rfl) <| H250_next hS g
theorem C250_10 (hS : S ≤ 5120) (g : j + 10 ≤ S) (e : J 118 = I 118) (c1 : Cal 63 81 [vr 11 0, vi (I 118 S (j + 1)), vi (I 118 S (j + 2)), vi (I 118 S (j + 3)), vi (I 118 S (j + 4)), vi (I 118 S (j + 5)), vi (I 118 S (j + 6))] (mk I L t) = some (vi x, mk J L1 t1)) (c2 : Cal 63 199 [vr 12 0, vi (I 118 S (j + 1)), vi (I 118 S (j + 2)), vi (I 118 S (j + 3)), vi (I 118 S (j + 4)), vi (I 118 S (j + 5)), vi (I 118 S (j + 6))] (mk J L1 t1) = some (vi x, mk K L2 t1)) : Res 64 250 522 (lsL S j) [] (mk I L t) = Res 64 250 18 (lsL S ((j + 10 : Nat) : Int)) [] (mk K L2 t1) :=
  Eq.trans (e_aload_n D250_522 rfl rfl) <| Eq.trans (c_arg (i := 1) D250_523 rfl D250_524 rfl (fun _ => e_iconst (x := 1) D250_525 rfl rfl) D250_526 rfl D250_527 rfl hS (by omega) rfl) <| Eq.trans (c_arg (i := 2) D250_528 rfl D250_529 rfl (fun _ => e_iconst (x := 2) D250_530 rfl rfl) D250_531 rfl D250_532 rfl hS (by omega) rfl) <| Eq.trans (c_arg (i := 3) D250_533 rfl D250_534 rfl (fun _ => e_iconst (x := 3) D250_535 rfl rfl) D250_536 rfl D250_537 rfl hS (by omega) rfl) <| Eq.trans (c_arg (i := 4) D250_538 rfl D250_539 rfl (fun _ => e_iconst (x := 4) D250_540 rfl rfl) D250_541 rfl D250_542 rfl hS (by omega) rfl) <| Eq.trans (c_arg (i := 5) D250_543 rfl D250_544 rfl (fun _ => e_iconst (x := 5) D250_545 rfl rfl) D250_546 rfl D250_547 rfl hS (by omega) rfl) <| Eq.trans (c_arg (i := 6) D250_548 rfl D250_549 rfl (fun _ => e_bipush (x := 6) D250_550 rfl rfl) D250_552 rfl D250_553 rfl hS (by omega) rfl) <| Eq.trans (c_virt (z := 81) (ne := 0) (w := 777) (as := [vr 11 0, vi (I 118 S (j + 1)), vi (I 118 S (j + 2)), vi (I 118 S (j + 3)), vi (I 118 S (j + 4)), vi (I 118 S (j + 5)), vi (I 118 S (j + 6))]) (rest := []) (st' := [vi x]) D250_554 rfl rfl rfl (by decide) rfl rfl c1 rfl) <| Eq.trans (e_aload_n D250_557 rfl rfl) <| Eq.trans (c_arg (i := 1) D250_558 rfl D250_559 rfl (fun _ => e_iconst (x := 1) D250_560 rfl rfl) D250_561 rfl D250_562 rfl hS (by omega) (congrFun (congrFun e S) _)) <| Eq.trans (c_arg (i := 2) D250_563 rfl D250_564 rfl (fun _ => e_iconst (x := 2) D250_565 rfl rfl) D250_566 rfl D250_567 rfl hS (by omega) (congrFun (congrFun e S) _)) <| Eq.trans (c_arg (i := 3) D250_568 rfl D250_569 rfl (fun _ => e_iconst (x := 3) D250_570 rfl rfl) D250_571 rfl D250_572 rfl hS (by omega) (congrFun (congrFun e S) _)) <| Eq.trans (c_arg (i := 4) D250_573 rfl D250_574 rfl (fun _ => e_iconst (x := 4) D250_575 rfl rfl) D250_576 rfl D250_577 rfl hS (by omega) (congrFun (congrFun e S) _)) <| Eq.trans (c_arg (i := 5) D250_578 rfl D250_579 rfl (fun _ => e_iconst (x := 5) D250_580 rfl rfl) D250_581 rfl D250_582 rfl hS (by omega) (congrFun (congrFun e S) _)) <| Eq.trans (c_arg (i := 6) D250_583 rfl D250_584 rfl (fun _ => e_bipush (x := 6) D250_585 rfl rfl) D250_587 rfl D250_588 rfl hS (by omega) (congrFun (congrFun e S) _)) <| Eq.trans (c_virt (z := 199) (ne := 0) (w := 1542) (as := [vr 12 0, vi (I 118 S (j + 1)), vi (I 118 S (j + 2)), vi (I 118 S (j + 3)), vi (I 118 S (j + 4)), vi (I 118 S (j + 5)), vi (I 118 S (j + 6))]) (rest := [vi x]) (st' := [vi x, vi x]) D250_589 rfl rfl rfl (by decide) rfl rfl c2 rfl) <| Eq.trans (e_iceq (q1 := 1470) D250_592 rfl rfl) <| Eq.trans (if_pos rfl) <| H250_next hS g
theorem C250_11 (hS : S ≤ 5120) (g : j + 10 ≤ S) (e : J 118 = I 118) (c1 : Cal 63 82 [vr 11 0, vi (I 118 S (j + 1)), vi (I 118 S (j + 2))] (mk I L t) = some (vi x, mk J L1 t1)) (c2 : Cal 63 201 [vr 12 0, vi (I 118 S (j + 1)), vi (I 118 S (j + 2))] (mk J L1 t1) = some (vi x, mk K L2 t1)) : Res 64 250 597 (lsL S j) [] (mk I L t) = Res 64 250 18 (lsL S ((j + 10 : Nat) : Int)) [] (mk K L2 t1) :=
  Eq.trans (e_aload_n D250_597 rfl rfl) <| Eq.trans (c_arg (i := 1) D250_598 rfl D250_599 rfl (fun _ => e_iconst (x := 1) D250_600 rfl rfl) D250_601 rfl D250_602 rfl hS (by omega) rfl) <| Eq.trans (c_arg (i := 2) D250_603 rfl D250_604 rfl (fun _ => e_iconst (x := 2) D250_605 rfl rfl) D250_606 rfl D250_607 rfl hS (by omega) rfl) <| Eq.trans (c_virt (z := 82) (ne := 0) (w := 801) (as := [vr 11 0, vi (I 118 S (j + 1)), vi (I 118 S (j + 2))]) (rest := []) (st' := [vi x]) D250_608 rfl rfl rfl (by decide) rfl rfl c1 rfl) <| Eq.trans (e_aload_n D250_611 rfl rfl) <| Eq.trans (c_arg (i := 1) D250_612 rfl D250_613 rfl (fun _ => e_iconst (x := 1) D250_614 rfl rfl) D250_615 rfl D250_616 rfl hS (by omega) (congrFun (congrFun e S) _)) <| Eq.trans (c_arg (i := 2) D250_617 rfl D250_618 rfl (fun _ => e_iconst (x := 2) D250_619 rfl rfl) D250_620 rfl D250_621 rfl hS (by omega) (congrFun (congrFun e S) _)) <| Eq.trans (c_virt (z := 201) (ne := 0) (w := 1591) (as := [vr 12 0, vi (I 118 S (j + 1)), vi (I 118 S (j + 2))]) (rest := [vi x]) (st' := [vi x, vi x]) D250_622 rfl rfl rfl (by decide) rfl rfl c2 rfl) <| Eq.trans (e_iceq (q1 := 1470) D250_625 rfl rfl) <| Eq.trans (if_pos rfl) <| H250_next hS g
theorem C250_12 (hS : S ≤ 5120) (g : j + 10 ≤ S) (e : J 118 = I 118) (c1 : Cal 63 83 [vr 11 0, vi (I 118 S (j + 1)), vi (I 118 S (j + 2))] (mk I L t) = some (vi x, mk J L1 t1)) (c2 : Cal 63 202 [vr 12 0, vi (I 118 S (j + 1)), vi (I 118 S (j + 2))] (mk J L1 t1) = some (vi x, mk K L2 t1)) : Res 64 250 630 (lsL S j) [] (mk I L t) = Res 64 250 18 (lsL S ((j + 10 : Nat) : Int)) [] (mk K L2 t1) :=
  Eq.trans (e_aload_n D250_630 rfl rfl) <| Eq.trans (c_arg (i := 1) D250_631 rfl D250_632 rfl (fun _ => e_iconst (x := 1) D250_633 rfl rfl) D250_634 rfl D250_635 rfl hS (by omega) rfl) <| Eq.trans (c_arg (i := 2) D250_636 rfl D250_637 rfl (fun _ => e_iconst (x := 2) D250_638 rfl rfl) D250_639 rfl D250_640 rfl hS (by omega) rfl) <| Eq.trans (c_virt (z := 83) (ne := 0) (w := 809) (as := [vr 11 0, vi (I 118 S (j + 1)), vi (I 118 S (j + 2))]) (rest := []) (st' := [vi x]) D250_641 rfl rfl rfl (by decide) rfl rfl c1 rfl) <| Eq.trans (e_aload_n D250_644 rfl rfl) <| Eq.trans (c_arg (i := 1) D250_645 rfl D250_646 rfl (fun _ => e_iconst (x := 1) D250_647 rfl rfl) D250_648 rfl D250_649 rfl hS (by omega) (congrFun (congrFun e S) _)) <| Eq.trans (c_arg (i := 2) D250_650 rfl D250_651 rfl (fun _ => e_iconst (x := 2) D250_652 rfl rfl) D250_653 rfl D250_654 rfl hS (by omega) (congrFun (congrFun e S) _)) <| Eq.trans (c_virt (z := 202) (ne := 0) (w := 1599) (as := [vr 12 0, vi (I 118 S (j + 1)), vi (I 118 S (j + 2))]) (rest := [vi x]) (st' := [vi x, vi x]) D250_655 rfl rfl rfl (by decide) rfl rfl c2 rfl) <| Eq.trans (e_iceq (q1 := 1470) D250_658 rfl rfl) <| Eq.trans (if_pos rfl) <| H250_next hS g
theorem C250_13 (hS : S ≤ 5120) (g : j + 10 ≤ S) (e : J 118 = I 118) (c1 : Cal 63 84 [vr 11 0, vi (I 118 S (j + 1)), vi (I 118 S (j + 2)), vi (I 118 S (j + 3)), vi (I 118 S (j + 4)), vi (I 118 S (j + 5)), vi (I 118 S (j + 6))] (mk I L t) = some (vi x, mk J L1 t1)) (c2 : Cal 63 203 [vr 12 0, vi (I 118 S (j + 1)), vi (I 118 S (j + 2)), vi (I 118 S (j + 3)), vi (I 118 S (j + 4)), vi (I 118 S (j + 5)), vi (I 118 S (j + 6))] (mk J L1 t1) = some (vi x, mk K L2 t1)) : Res 64 250 663 (lsL S j) [] (mk I L t) = Res 64 250 18 (lsL S ((j + 10 : Nat) : Int)) [] (mk K L2 t1) :=
  Eq.trans (e_aload_n D250_663 rfl rfl) <| Eq.trans (c_arg (i := 1) D250_664 rfl D250_665 rfl (fun _ => e_iconst (x := 1) D250_666 rfl rfl) D250_667 rfl D250_668 rfl hS (by omega) rfl) <| Eq.trans (c_arg (i := 2) D250_669 rfl D250_670 rfl (fun _ => e_iconst (x := 2) D250_671 rfl rfl) D250_672 rfl D250_673 rfl hS (by omega) rfl) <| Eq.trans (c_arg (i := 3) D250_674 rfl D250_675 rfl (fun _ => e_iconst (x := 3) D250_676 rfl rfl) D250_677 rfl D250_678 rfl hS (by omega) rfl) <| Eq.trans (c_arg (i := 4) D250_679 rfl D250_680 rfl (fun _ => e_iconst (x := 4) D250_681 rfl rfl) D250_682 rfl D250_683 rfl hS (by omega) rfl) <| Eq.trans (c_arg (i := 5) D250_684 rfl D250_685 rfl (fun _ => e_iconst (x := 5) D250_686 rfl rfl) D250_687 rfl D250_688 rfl hS (by omega) rfl) <| Eq.trans (c_arg (i := 6) D250_689 rfl D250_690 rfl (fun _ => e_bipush (x := 6) D250_691 rfl rfl) D250_693 rfl D250_694 rfl hS (by omega) rfl) <| Eq.trans (c_virt (z := 84) (ne := 0) (w := 824) (as := [vr 11 0, vi (I 118 S (j + 1)), vi (I 118 S (j + 2)), vi (I 118 S (j + 3)), vi (I 118 S (j + 4)), vi (I 118 S (j + 5)), vi (I 118 S (j + 6))]) (rest := []) (st' := [vi x]) D250_695 rfl rfl rfl (by decide) rfl rfl c1 rfl) <| Eq.trans (e_aload_n D250_698 rfl rfl) <| Eq.trans (c_arg (i := 1) D250_699 rfl D250_700 rfl (fun _ => e_iconst (x := 1) D250_701 rfl rfl) D250_702 rfl D250_703 rfl hS (by omega) (congrFun (congrFun e S) _)) <| Eq.trans (c_arg (i := 2) D250_704 rfl D250_705 rfl (fun _ => e_iconst (x := 2) D250_706 rfl rfl) D250_707 rfl D250_708 rfl hS (by omega) (congrFun (congrFun e S) _)) <| Eq.trans (c_arg (i := 3) D250_709 rfl D250_710 rfl (fun _ => e_iconst (x := 3) D250_711 rfl rfl) D250_712 rfl D250_713 rfl hS (by omega) (congrFun (congrFun e S) _)) <| Eq.trans (c_arg (i := 4) D250_714 rfl D250_715 rfl (fun _ => e_iconst (x := 4) D250_716 rfl rfl) D250_717 rfl D250_718 rfl hS (by omega) (congrFun (congrFun e S) _)) <| Eq.trans (c_arg (i := 5) D250_719 rfl D250_720 rfl (fun _ => e_iconst (x := 5) D250_721 rfl rfl) D250_722 rfl D250_723 rfl hS (by omega) (congrFun (congrFun e S) _)) <| Eq.trans (c_arg (i := 6) D250_724 rfl D250_725 rfl (fun _ => e_bipush (x := 6) D250_726 rfl rfl) D250_728 rfl D250_729 rfl hS (by omega) (congrFun (congrFun e S) _)) <| Eq.trans (c_virt (z := 203) (ne := 0) (w := 1614) (as := [vr 12 0, vi (I 118 S (j + 1)), vi (I 118 S (j + 2)), vi (I 118 S (j + 3)), vi (I 118 S (j + 4)), vi (I 118 S (j + 5)), vi (I 118 S (j + 6))]) (rest := [vi x]) (st' := [vi x, vi x]) D250_730 rfl rfl rfl (by decide) rfl rfl c2 rfl) <| Eq.trans (e_iceq (q1 := 1470) D250_733 rfl rfl) <| Eq.trans (if_pos rfl) <| H250_next hS g
theorem C250_14 (hS : S ≤ 5120) (g : j + 10 ≤ S) (e : J 118 = I 118) (c1 : Cal 63 85 [vr 11 0, vi (I 118 S (j + 1)), vi (I 118 S (j + 2)), vi (I 118 S (j + 3)), vi (I 118 S (j + 4)), vi (I 118 S (j + 5)), vi (I 118 S (j + 6))] (mk I L t) = some (vi x, mk J L1 t1)) (c2 : Cal 63 205 [vr 12 0, vi (I 118 S (j + 1)), vi (I 118 S (j + 2)), vi (I 118 S (j + 3)), vi (I 118 S (j + 4)), vi (I 118 S (j + 5)), vi (I 118 S (j + 6))] (mk J L1 t1) = some (vi x, mk K L2 t1)) : Res 64 250 738 (lsL S j) [] (mk I L t) = Res 64 250 18 (lsL S ((j + 10 : Nat) : Int)) [] (mk K L2 t1) :=
  Eq.trans (e_aload_n D250_738 rfl rfl) <| Eq.trans (c_arg (i := 1) D250_739 rfl D250_740 rfl (fun _ => e_iconst (x := 1) D250_741 rfl rfl) D250_742 rfl D250_743 rfl hS (by omega) rfl) <| Eq.trans (c_arg (i := 2) D250_744 rfl D250_745 rfl (fun _ => e_iconst (x := 2) D250_746 rfl rfl) D250_747 rfl D250_748 rfl hS (by omega) rfl) <| Eq.trans (c_arg (i := 3) D250_749 rfl D250_750 rfl (fun _ => e_iconst (x := 3) D250_751 rfl rfl) D250_752 rfl D250_753 rfl hS (by omega) rfl) <| Eq.trans (c_arg (i := 4) D250_754 rfl D250_755 rfl (fun _ => e_iconst (x := 4) D250_756 rfl rfl) D250_757 rfl D250_758 rfl hS (by omega) rfl) <| Eq.trans (c_arg (i := 5) D250_759 rfl D250_760 rfl (fun _ => e_iconst (x := 5) D250_761 rfl rfl) D250_762 rfl D250_763 rfl hS (by omega) rfl) <| Eq.trans (c_arg (i := 6) D250_764 rfl D250_765 rfl (fun _ => e_bipush (x := 6) D250_766 rfl rfl) D250_768 rfl D250_769 rfl hS (by omega) rfl) <| Eq.trans (c_virt (z := 85) (ne := 0) (w := 855) (as := [vr 11 0, vi (I 118 S (j + 1)), vi (I 118 S (j + 2)), vi (I 118 S (j + 3)), vi (I 118 S (j + 4)), vi (I 118 S (j + 5)), vi (I 118 S (j + 6))]) (rest := []) (st' := [vi x]) D250_770 rfl rfl rfl (by decide) rfl rfl c1 rfl) <| Eq.trans (e_aload_n D250_773 rfl rfl) <| Eq.trans (c_arg (i := 1) D250_774 rfl D250_775 rfl (fun _ => e_iconst (x := 1) D250_776 rfl rfl) D250_777 rfl D250_778 rfl hS (by omega) (congrFun (congrFun e S) _)) <| Eq.trans (c_arg (i := 2) D250_779 rfl D250_780 rfl (fun _ => e_iconst (x := 2) D250_781 rfl rfl) D250_782 rfl D250_783 rfl hS (by omega) (congrFun (congrFun e S) _)) <| Eq.trans (c_arg (i := 3) D250_784 rfl D250_785 rfl (fun _ => e_iconst (x := 3) D250_786 rfl rfl) D250_787 rfl D250_788 rfl hS (by omega) (congrFun (congrFun e S) _)) <| Eq.trans (c_arg (i := 4) D250_789 rfl D250_790 rfl (fun _ => e_iconst (x := 4) D250_791 rfl rfl) D250_792 rfl D250_793 rfl hS (by omega) (congrFun (congrFun e S) _)) <| Eq.trans (c_arg (i := 5) D250_794 rfl D250_795 rfl (fun _ => e_iconst (x := 5) D250_796 rfl rfl) D250_797 rfl D250_798 rfl hS (by omega) (congrFun (congrFun e S) _)) <| Eq.trans (c_arg (i := 6) D250_799 rfl D250_800 rfl (fun _ => e_bipush (x := 6) D250_801 rfl rfl) D250_803 rfl D250_804 rfl hS (by omega) (congrFun (congrFun e S) _)) <| Eq.trans (c_virt (z := 205) (ne := 0) (w := 1631) (as := [vr 12 0, vi (I 118 S (j + 1)), vi (I 118 S (j + 2)), vi (I 118 S (j + 3)), vi (I 118 S (j + 4)), vi (I 118 S (j + 5)), vi (I 118 S (j + 6))]) (rest := [vi x]) (st' := [vi x, vi x]) D250_805 rfl rfl rfl (by decide) rfl rfl c2 rfl) <| Eq.trans (e_iceq (q1 := 1470) D250_808 rfl rfl) <| Eq.trans (if_pos rfl) <| H250_next hS g
theorem C250_15 (hS : S ≤ 5120) (g : j + 10 ≤ S) (e : J 118 = I 118) (c1 : Cal 63 86 [vr 11 0, vi (I 118 S (j + 1)), vi (I 118 S (j + 2))] (mk I L t) = some (vi x, mk J L1 t1)) (c2 : Cal 63 208 [vr 12 0, vi (I 118 S (j + 1)), vi (I 118 S (j + 2))] (mk J L1 t1) = some (vi x, mk K L2 t1)) : Res 64 250 813 (lsL S j) [] (mk I L t) = Res 64 250 18 (lsL S ((j + 10 : Nat) : Int)) [] (mk K L2 t1) :=
  Eq.trans (e_aload_n D250_813 rfl rfl) <| Eq.trans (c_arg (i := 1) D250_814 rfl D250_815 rfl (fun _ => e_iconst (x := 1) D250_816 rfl rfl) D250_817 rfl D250_818 rfl hS (by omega) rfl) <| Eq.trans (c_arg (i := 2) D250_819 rfl D250_820 rfl (fun _ => e_iconst (x := 2) D250_821 rfl rfl) D250_822 rfl D250_823 rfl hS (by omega) rfl) <| Eq.trans (c_virt (z := 86) (ne := 0) (w := 887) (as := [vr 11 0, vi (I 118 S (j + 1)), vi (I 118 S (j + 2))]) (rest := []) (st' := [vi x]) D250_824 rfl rfl rfl (by decide) rfl rfl c1 rfl) <| Eq.trans (e_aload_n D250_827 rfl rfl) <| Eq.trans (c_arg (i := 1) D250_828 rfl D250_829 rfl (fun _ => e_iconst (x := 1) D250_830 rfl rfl) D250_831 rfl D250_832 rfl hS (by omega) (congrFun (congrFun e S) _)) <| Eq.trans (c_arg (i := 2) D250_833 rfl D250_834 rfl (fun _ => e_iconst (x := 2) D250_835 rfl rfl) D250_836 rfl D250_837 rfl hS (by omega) (congrFun (congrFun e S) _)) <| Eq.trans (c_virt (z := 208) (ne := 0) (w := 1647) (as := [vr 12 0, vi (I 118 S (j + 1)), vi (I 118 S (j + 2))]) (rest := [vi x]) (st' := [vi x, vi x]) D250_838 rfl rfl rfl (by decide) rfl rfl c2 rfl) <| Eq.trans (e_iceq (q1 := 1470) D250_841 rfl rfl) <| Eq.trans (if_pos rfl) <| H250_next hS g
theorem C250_16 (hS : S ≤ 5120) (g : j + 10 ≤ S) (e : J 118 = I 118) (c1 : Cal 63 87 [vr 11 0, vi (I 118 S (j + 1))] (mk I L t) = some (vi x, mk J L1 t1)) (c2 : Cal 63 209 [vr 12 0, vi (I 118 S (j + 1))] (mk J L1 t1) = some (vi x, mk K L2 t1)) : Res 64 250 846 (lsL S j) [] (mk I L t) = Res 64 250 18 (lsL S ((j + 10 : Nat) : Int)) [] (mk K L2 t1) :=
  Eq.trans (e_aload_n D250_846 rfl rfl) <| Eq.trans (c_arg (i := 1) D250_847 rfl D250_848 rfl (fun _ => e_iconst (x := 1) D250_849 rfl rfl) D250_850 rfl D250_851 rfl hS (by omega) rfl) <| Eq.trans (c_virt (z := 87) (ne := 0) (w := 895) (as := [vr 11 0, vi (I 118 S (j + 1))]) (rest := []) (st' := [vi x]) D250_852 rfl rfl rfl (by decide) rfl rfl c1 rfl) <| Eq.trans (e_aload_n D250_855 rfl rfl) <| Eq.trans (c_arg (i := 1) D250_856 rfl D250_857 rfl (fun _ => e_iconst (x := 1) D250_858 rfl rfl) D250_859 rfl D250_860 rfl hS (by omega) (congrFun (congrFun e S) _)) <| Eq.trans (c_virt (z := 209) (ne := 0) (w := 1655) (as := [vr 12 0, vi (I 118 S (j + 1))]) (rest := [vi x]) (st' := [vi x, vi x]) D250_861 rfl rfl rfl (by decide) rfl rfl c2 rfl) <| Eq.trans (e_iceq (q1 := 1470) D250_864 rfl rfl) <| Eq.trans (if_pos rfl) <| H250_next hS g
theorem C250_17 (hS : S ≤ 5120) (g : j + 10 ≤ S) (e : J 118 = I 118) (c1 : Cal 63 88 [vr 11 0, vi (I 118 S (j + 1)), vi (I 118 S (j + 2)), vi (I 118 S (j + 3))] (mk I L t) = some (vi x, mk J L1 t1)) (c2 : Cal 63 210 [vr 12 0, vi (I 118 S (j + 1)), vi (I 118 S (j + 2)), vi (I 118 S (j + 3))] (mk J L1 t1) = some (vi x, mk K L2 t1)) : Res 64 250 869 (lsL S j) [] (mk I L t) = Res 64 250 18 (lsL S ((j + 10 : Nat) : Int)) [] (mk K L2 t1) :=
  Eq.trans (e_aload_n D250_869 rfl rfl) <| Eq.trans (c_arg (i := 1) D250_870 rfl D250_871 rfl (fun _ => e_iconst (x := 1) D250_872 rfl rfl) D250_873 rfl D250_874 rfl hS (by omega) rfl) <| Eq.trans (c_arg (i := 2) D250_875 rfl D250_876 rfl (fun _ => e_iconst (x := 2) D250_877 rfl rfl) D250_878 rfl D250_879 rfl hS (by omega) rfl) <| Eq.trans (c_arg (i := 3) D250_880 rfl D250_881 rfl (fun _ => e_iconst (x := 3) D250_882 rfl rfl) D250_883 rfl D250_884 rfl hS (by omega) rfl) <| Eq.trans (c_virt (z := 88) (ne := 0) (w := 899) (as := [vr 11 0, vi (I 118 S (j + 1)), vi (I 118 S (j + 2)), vi (I 118 S (j + 3))]) (rest := []) (st' := [vi x]) D250_885 rfl rfl rfl (by decide) rfl rfl c1 rfl) <| Eq.trans (e_aload_n D250_888 rfl rfl) <| Eq.trans (c_arg (i := 1) D250_889 rfl D250_890 rfl (fun _ => e_iconst (x := 1) D250_891 rfl rfl) D250_892 rfl D250_893 rfl hS (by omega) (congrFun (congrFun e S) _)) <| Eq.trans (c_arg (i := 2) D250_894 rfl D250_895 rfl (fun _ => e_iconst (x := 2) D250_896 rfl rfl) D250_897 rfl D250_898 rfl hS (by omega) (congrFun (congrFun e S) _)) <| Eq.trans (c_arg (i := 3) D250_899 rfl D250_900 rfl (fun _ => e_iconst (x := 3) D250_901 rfl rfl) D250_902 rfl D250_903 rfl hS (by omega) (congrFun (congrFun e S) _)) <| Eq.trans (c_virt (z := 210) (ne := 0) (w := 1659) (as := [vr 12 0, vi (I 118 S (j + 1)), vi (I 118 S (j + 2)), vi (I 118 S (j + 3))]) (rest := [vi x]) (st' := [vi x, vi x]) D250_904 rfl rfl rfl (by decide) rfl rfl c2 rfl) <| Eq.trans (e_iceq (q1 := 1470) D250_907 rfl rfl) <| Eq.trans (if_pos rfl) <| H250_next hS g
theorem C250_18 (hS : S ≤ 5120) (g : j + 10 ≤ S) (e : J 118 = I 118) (c1 : Cal 63 89 [vr 11 0, vi (I 118 S (j + 1)), vi (I 118 S (j + 2))] (mk I L t) = some (vi x, mk J L1 t1)) (c2 : Cal 63 214 [vr 12 0, vi (I 118 S (j + 1)), vi (I 118 S (j + 2))] (mk J L1 t1) = some (vi x, mk K L2 t1)) : Res 64 250 912 (lsL S j) [] (mk I L t) = Res 64 250 18 (lsL S ((j + 10 : Nat) : Int)) [] (mk K L2 t1) :=
  Eq.trans (e_aload_n D250_912 rfl rfl) <| Eq.trans (c_arg (i := 1) D250_913 rfl D250_914 rfl (fun _ => e_iconst (x := 1) D250_915 rfl rfl) D250_916 rfl D250_917 rfl hS (by omega) rfl) <| Eq.trans (c_arg (i := 2) D250_918 rfl D250_919 rfl (fun _ => e_iconst (x := 2) D250_920 rfl rfl) D250_921 rfl D250_922 rfl hS (by omega) rfl) <| Eq.trans (c_virt (z := 89) (ne := 0) (w := 903) (as := [vr 11 0, vi (I 118 S (j + 1)), vi (I 118 S (j + 2))]) (rest := []) (st' := [vi x]) D250_923 rfl rfl rfl (by decide) rfl rfl c1 rfl) <| Eq.trans (e_aload_n D250_926 rfl rfl) <| Eq.trans (c_arg (i := 1) D250_927 rfl D250_928 rfl (fun _ => e_iconst (x := 1) D250_929 rfl rfl) D250_930 rfl D250_931 rfl hS (by omega) (congrFun (congrFun e S) _)) <| Eq.trans (c_arg (i := 2) D250_932 rfl D250_933 rfl (fun _ => e_iconst (x := 2) D250_934 rfl rfl) D250_935 rfl D250_936 rfl hS (by omega) (congrFun (congrFun e S) _)) <| Eq.trans (c_virt (z := 214) (ne := 0) (w := 1663) (as := [vr 12 0, vi (I 118 S (j + 1)), vi (I 118 S (j + 2))]) (rest := [vi x]) (st' := [vi x, vi x]) D250_937 rfl rfl rfl (by decide) rfl rfl c2 rfl) <| Eq.trans (e_iceq (q1 := 1470) D250_940 rfl rfl) <| Eq.trans (if_pos rfl) <| H250_next hS g
theorem C250_19 (hS : S ≤ 5120) (g : j + 10 ≤ S) (e : J 118 = I 118) (c1 : Cal 63 90 [vr 11 0, vi (I 118 S (j + 1)), vi (I 118 S (j + 2)), vi (I 118 S (j + 3))] (mk I L t) = some (vi x, mk J L1 t1)) (c2 : Cal 63 216 [vr 12 0, vi (I 118 S (j + 1)), vi (I 118 S (j + 2)), vi (I 118 S (j + 3))] (mk J L1 t1) = some (vi x, mk K L2 t1)) : Res 64 250 945 (lsL S j) [] (mk I L t) = Res 64 250 18 (lsL S ((j + 10 : Nat) : Int)) [] (mk K L2 t1) :=
  Eq.trans (e_aload_n D250_945 rfl rfl) <| Eq.trans (c_arg (i := 1) D250_946 rfl D250_947 rfl (fun _ => e_iconst (x := 1) D250_948 rfl rfl) D250_949 rfl D250_950 rfl hS (by omega) rfl) <| Eq.trans (c_arg (i := 2) D250_951 rfl D250_952 rfl (fun _ => e_iconst (x := 2) D250_953 rfl rfl) D250_954 rfl D250_955 rfl hS (by omega) rfl) <| Eq.trans (c_arg (i := 3) D250_956 rfl D250_957 rfl (fun _ => e_iconst (x := 3) D250_958 rfl rfl) D250_959 rfl D250_960 rfl hS (by omega) rfl) <| Eq.trans (c_virt (z := 90) (ne := 0) (w := 922) (as := [vr 11 0, vi (I 118 S (j + 1)), vi (I 118 S (j + 2)), vi (I 118 S (j + 3))]) (rest := []) (st' := [vi x]) D250_961 rfl rfl rfl (by decide) rfl rfl c1 rfl) <| Eq.trans (e_aload_n D250_964 rfl rfl) <| Eq.trans (c_arg (i := 1) D250_965 rfl D250_966 rfl (fun _ => e_iconst (x := 1) D250_967 rfl rfl) D250_968 rfl D250_969 rfl hS (by omega) (congrFun (congrFun e S) _)) <| Eq.trans (c_arg (i := 2) D250_970 rfl D250_971 rfl (fun _ => e_iconst (x := 2) D250_972 rfl rfl) D250_973 rfl D250_974 rfl hS (by omega) (congrFun (congrFun e S) _)) <| Eq.trans (c_arg (i := 3) D250_975 rfl D250_976 rfl (fun _ => e_iconst (x := 3) D250_977 rfl rfl) D250_978 rfl D250_979 rfl hS (by omega) (congrFun (congrFun e S) _)) <| Eq.trans (c_virt (z := 216) (ne := 0) (w := 1683) (as := [vr 12 0, vi (I 118 S (j + 1)), vi (I 118 S (j + 2)), vi (I 118 S (j + 3))]) (rest := [vi x]) (st' := [vi x, vi x]) D250_980 rfl rfl rfl (by decide) rfl rfl c2 rfl) <| Eq.trans (e_iceq (q1 := 1470) D250_983 rfl rfl) <| Eq.trans (if_pos rfl) <| H250_next hS g
theorem C250_20 (hS : S ≤ 5120) (g : j + 10 ≤ S) (e : J 118 = I 118) (c1 : Cal 63 91 [vr 11 0, vi (I 118 S (j + 1)), vi (I 118 S (j + 2)), vi (I 118 S (j + 3))] (mk I L t) = some (vi x, mk J L1 t1)) (c2 : Cal 63 219 [vr 12 0, vi (I 118 S (j + 1)), vi (I 118 S (j + 2)), vi (I 118 S (j + 3))] (mk J L1 t1) = some (vi x, mk K L2 t1)) : Res 64 250 988 (lsL S j) [] (mk I L t) = Res 64 250 18 (lsL S ((j + 10 : Nat) : Int)) [] (mk K L2 t1) :=
  Eq.trans (e_aload_n D250_988 rfl rfl) <| Eq.trans (c_arg (i := 1) D250_989 rfl D250_990 rfl (fun _ => e_iconst (x := 1) D250_991 rfl rfl) D250_992 rfl D250_993 rfl hS (by omega) rfl) <| Eq.trans (c_arg (i := 2) D250_994 rfl D250_995 rfl (fun _ => e_iconst (x := 2) D250_996 rfl rfl) D250_997 rfl D250_998 rfl hS (by omega) rfl) <| Eq.trans (c_arg (i := 3) D250_999 rfl D250_1000 rfl (fun _ => e_iconst (x := 3) D250_1001 rfl rfl) D250_1002 rfl D250_1003 rfl hS (by omega) rfl) <| Eq.trans (c_virt (z := 91) (ne := 0) (w := 935) (as := [vr 11 0, vi (I 118 S (j + 1)), vi (I 118 S (j + 2)), vi (I 118 S (j + 3))]) (rest := []) (st' := [vi x]) D250_1004 rfl rfl rfl (by decide) rfl rfl c1 rfl) <| Eq.trans (e_aload_n D250_1007 rfl rfl) <| Eq.trans (c_arg (i := 1) D250_1008 rfl D250_1009 rfl (fun _ => e_iconst (x := 1) D250_1010 rfl rfl) D250_1011 rfl D250_1012 rfl hS (by omega) (congrFun (congrFun e S) _)) <| Eq.trans (c_arg (i := 2) D250_1013 rfl D250_1014 rfl (fun _ => e_iconst (x := 2) D250_1015 rfl rfl) D250_1016 rfl D250_1017 rfl hS (by omega) (congrFun (congrFun e S) _)) <| Eq.trans (c_arg (i := 3) D250_1018 rfl D250_1019 rfl (fun _ => e_iconst (x := 3) D250_1020 rfl rfl) D250_1021 rfl D250_1022 rfl hS (by omega) (congrFun (congrFun e S) _)) <| Eq.trans (c_virt (z := 219) (ne := 0) (w := 1691) (as := [vr 12 0, vi (I 118 S (j + 1)), vi (I 118 S (j + 2)), vi (I 118 S (j + 3))]) (rest := [vi x]) (st' := [vi x, vi x]) D250_1023 rfl rfl rfl (by decide) rfl rfl c2 rfl) <| Eq.trans (e_iceq (q1 := 1470) D250_1026 rfl rfl) <| Eq.trans (if_pos rfl) <| H250_next hS g
theorem C250_21 (hS : S ≤ 5120) (g : j + 10 ≤ S) (e : J 118 = I 118) (c1 : Cal 63 92 [vr 11 0, vi (I 118 S (j + 1))] (mk I L t) = some (vi x, mk J L1 t1)) (c2 : Cal 63 221 [vr 12 0, vi (I 118 S (j + 1))] (mk J L1 t1) = some (vi x, mk K L2 t1)) : Res 64 250 1031 (lsL S j) [] (mk I L t) = Res 64 250 18 (lsL S ((j + 10 : Nat) : Int)) [] (mk K L2 t1) :=
  Eq.trans (e_aload_n D250_1031 rfl rfl) <| Eq.trans (c_arg (i := 1) D250_1032 rfl D250_1033 rfl (fun _ => e_iconst (x := 1) D250_1034 rfl rfl) D250_1035 rfl D250_1036 rfl hS (by omega) rfl) <| Eq.trans (c_virt (z := 92) (ne := 0) (w := 967) (as := [vr 11 0, vi (I 118 S (j + 1))]) (rest := []) (st' := [vi x]) D250_1037 rfl rfl rfl (by decide) rfl rfl c1 rfl) <| Eq.trans (e_aload_n D250_1040 rfl rfl) <| Eq.trans (c_arg (i := 1) D250_1041 rfl D250_1042 rfl (fun _ => e_iconst (x := 1) D250_1043 rfl rfl) D250_1044 rfl D250_1045 rfl hS (by omega) (congrFun (congrFun e S) _)) <| Eq.trans (c_virt (z := 221) (ne := 0) (w := 1703) (as := [vr 12 0, vi (I 118 S (j + 1))]) (rest := [vi x]) (st' := [vi x, vi x]) D250_1046 rfl rfl rfl (by decide) rfl rfl c2 rfl) <| Eq.trans (e_iceq (q1 := 1470) D250_1049 rfl rfl) <| Eq.trans (if_pos rfl) <| H250_next hS g
theorem C250_22 (hS : S ≤ 5120) (g : j + 10 ≤ S) (e : J 118 = I 118) (c1 : Cal 63 93 [vr 11 0, vi (I 118 S (j + 1)), vi (I 118 S (j + 2)), vi (I 118 S (j + 3))] (mk I L t) = some (vi x, mk J L1 t1)) (c2 : Cal 63 223 [vr 12 0, vi (I 118 S (j + 1)), vi (I 118 S (j + 2)), vi (I 118 S (j + 3))] (mk J L1 t1) = some (vi x, mk K L2 t1)) : Res 64 250 1054 (lsL S j) [] (mk I L t) = Res 64 250 18 (lsL S ((j + 10 : Nat) : Int)) [] (mk K L2 t1) :=
  Eq.trans (e_aload_n D250_1054 rfl rfl) <| Eq.trans (c_arg (i := 1) D250_1055 rfl D250_1056 rfl (fun _ => e_iconst (x := 1) D250_1057 rfl rfl) D250_1058 rfl D250_1059 rfl hS (by omega) rfl) <| Eq.trans (c_arg (i := 2) D250_1060 rfl D250_1061 rfl (fun _ => e_iconst (x := 2) D250_1062 rfl rfl) D250_1063 rfl D250_1064 rfl hS (by omega) rfl) <| Eq.trans (c_arg (i := 3) D250_1065 rfl D250_1066 rfl (fun _ => e_iconst (x := 3) D250_1067 rfl rfl) D250_1068 rfl D250_1069 rfl hS (by omega) rfl) <| Eq.trans (c_virt (z := 93) (ne := 0) (w := 982) (as := [vr 11 0, vi (I 118 S (j + 1)), vi (I 118 S (j + 2)), vi (I 118 S (j + 3))]) (rest := []) (st' := [vi x]) D250_1070 rfl rfl rfl (by decide) rfl rfl c1 rfl) <| Eq.trans (e_aload_n D250_1073 rfl rfl) <| Eq.trans (c_arg (i := 1) D250_1074 rfl D250_1075 rfl (fun _ => e_iconst (x := 1) D250_1076 rfl rfl) D250_1077 rfl D250_1078 rfl hS (by omega) (congrFun (congrFun e S) _)) <| Eq.trans (c_arg (i := 2) D250_1079 rfl D250_1080 rfl (fun _ => e_iconst (x := 2) D250_1081 rfl rfl) D250_1082 rfl D250_1083 rfl hS (by omega) (congrFun (congrFun e S) _)) <| Eq.trans (c_arg (i := 3) D250_1084 rfl D250_1085 rfl (fun _ => e_iconst (x := 3) D250_1086 rfl rfl) D250_1087 rfl D250_1088 rfl hS (by omega) (congrFun (congrFun e S) _)) <| Eq.trans (c_virt (z := 223) (ne := 0) (w := 1711) (as := [vr 12 0, vi (I 118 S (j + 1)), vi (I 118 S (j + 2)), vi (I 118 S (j + 3))]) (rest := [vi x]) (st' := [vi x, vi x]) D250_1089 rfl rfl rfl (by decide) rfl rfl c2 rfl) <| Eq.trans (e_iceq (q1 := 1470) D250_1092 rfl rfl) <| Eq.trans (if_pos rfl) <| H250_next hS g
theorem C250_23 (hS : S ≤ 5120) (g : j + 10 ≤ S) (e : J 118 = I 118) (c1 : Cal 63 94 [vr 11 0, vi (I 118 S (j + 1)), vi (I 118 S (j + 2)), vi (I 118 S (j + 3))] (mk I L t) = some (vi x, mk J L1 t1)) (c2 : Cal 63 225 [vr 12 0, vi (I 118 S (j + 1)), vi (I 118 S (j + 2)), vi (I 118 S (j + 3))] (mk J L1 t1) = some (vi x, mk K L2 t1)) : Res 64 250 1097 (lsL S j) [] (mk I L t) = Res 64 250 18 (lsL S ((j + 10 : Nat) : Int)) [] (mk K L2 t1) :=
  Eq.trans (e_aload_n D250_1097 rfl rfl) <| Eq.trans (c_arg (i := 1) D250_1098 rfl D250_1099 rfl (fun _ => e_iconst (x := 1) D250_1100 rfl rfl) D250_1101 rfl D250_1102 rfl hS (by omega) rfl) <| Eq.trans (c_arg (i := 2) D250_1103 rfl D250_1104 rfl (fun _ => e_iconst (x := 2) D250_1105 rfl rfl) D250_1106 rfl D250_1107 rfl hS (by omega) rfl) <| Eq.trans (c_arg (i := 3) D250_1108 rfl D250_1109 rfl (fun _ => e_iconst (x := 3) D250_1110 rfl rfl) D250_1111 rfl D250_1112 rfl hS (by omega) rfl) <| Eq.trans (c_virt (z := 94) (ne := 0) (w := 991) (as := [vr 11 0, vi (I 118 S (j + 1)), vi (I 118 S (j + 2)), vi (I 118 S (j + 3))]) (rest := []) (st' := [vi x]) D250_1113 rfl rfl rfl (by decide) rfl rfl c1 rfl) <| Eq.trans (e_aload_n D250_1116 rfl rfl) <| Eq.trans (c_arg (i := 1) D250_1117 rfl D250_1118 rfl (fun _ => e_iconst (x := 1) D250_1119 rfl rfl) D250_1120 rfl D250_1121 rfl hS (by omega) (congrFun (congrFun e S) _)) <| Eq.trans (c_arg (i := 2) D250_1122 rfl D250_1123 rfl (fun _ => e_iconst (x := 2) D250_1124 rfl rfl) D250_1125 rfl D250_1126 rfl hS (by omega) (congrFun (congrFun e S) _)) <| Eq.trans (c_arg (i := 3) D250_1127 rfl D250_1128 rfl (fun _ => e_iconst (x := 3) D250_1129 rfl rfl) D250_1130 rfl D250_1131 rfl hS (by omega) (congrFun (congrFun e S) _)) <| Eq.trans (c_virt (z := 225) (ne := 0) (w := 1720) (as := [vr 12 0, vi (I 118 S (j + 1)), vi (I 118 S (j + 2)), vi (I 118 S (j + 3))]) (rest := [vi x]) (st' := [vi x, vi x]) D250_1132 rfl rfl rfl (by decide) rfl rfl c2 rfl) <| Eq.trans (e_iceq (q1 := 1470) D250_1135 rfl rfl) <| Eq.trans (if_pos rfl) <| H250_next hS g
theorem C250_24 (hS : S ≤ 5120) (g : j + 10 ≤ S) (e : J 118 = I 118) (c1 : Cal 63 95 [vr 11 0, vi (I 118 S (j + 1)), vi (I 118 S (j + 2)), vi (I 118 S (j + 3)), vi (I 118 S (j + 4)), vi (I 118 S (j + 5)), vi (I 118 S (j + 6)), vi (I 118 S (j + 7)), vi (I 118 S (j + 8)), vi (I 118 S (j + 9))] (mk I L t) = some (vi x, mk J L1 t1)) (c2 : Cal 63 226 [vr 12 0, vi (I 118 S (j + 1)), vi (I 118 S (j + 2)), vi (I 118 S (j + 3)), vi (I 118 S (j + 4)), vi (I 118 S (j + 5)), vi (I 118 S (j + 6)), vi (I 118 S (j + 7)), vi (I 118 S (j + 8)), vi (I 118 S (j + 9))] (mk J L1 t1) = some (vi x, mk K L2 t1)) : Res 64 250 1140 (lsL S j) [] (mk I L t) = Res 64 250 18 (lsL S ((j + 10 : Nat) : Int)) [] (mk K L2 t1) :=
  Eq.trans (e_aload_n D250_1140 rfl rfl) <| Eq.trans (c_arg (i := 1) D250_1141 rfl D250_1142 rfl (fun _ => e_iconst (x := 1) D250_1143 rfl rfl) D250_1144 rfl D250_1145 rfl hS (by omega) rfl) <| Eq.trans (c_arg (i := 2) D250_1146 rfl D250_1147 rfl (fun _ => e_iconst (x := 2) D250_1148 rfl rfl) D250_1149 rfl D250_1150 rfl hS (by omega) rfl) <| Eq.trans (c_arg (i := 3) D250_1151 rfl D250_1152 rfl (fun _ => e_iconst (x := 3) D250_1153 rfl rfl) D250_1154 rfl D250_1155 rfl hS (by omega) rfl) <| Eq.trans (c_arg (i := 4) D250_1156 rfl D250_1157 rfl (fun _ => e_iconst (x := 4) D250_1158 rfl rfl) D250_1159 rfl D250_1160 rfl hS (by omega) rfl) <| Eq.trans (c_arg (i := 5) D250_1161 rfl D250_1162 rfl (fun _ => e_iconst (x := 5) D250_1163 rfl rfl) D250_1164 rfl D250_1165 rfl hS (by omega) rfl) <| Eq.trans (c_arg (i := 6) D250_1166 rfl D250_1167 rfl (fun _ => e_bipush (x := 6) D250_1168 rfl rfl) D250_1170 rfl D250_1171 rfl hS (by omega) rfl) <| Eq.trans (c_arg (i := 7) D250_1172 rfl D250_1173 rfl (fun _ => e_bipush (x := 7) D250_1174 rfl rfl) D250_1176 rfl D250_1177 rfl hS (by omega) rfl) <| Eq.trans (c_arg (i := 8) D250_1178 rfl D250_1179 rfl (fun _ => e_bipush (x := 8) D250_1180 rfl rfl) D250_1182 rfl D250_1183 rfl hS (by omega) rfl) <| Eq.trans (c_arg (i := 9) D250_1184 rfl D250_1185 rfl (fun _ => e_bipush (x := 9) D250_1186 rfl rfl) D250_1188 rfl D250_1189 rfl hS (by omega) rfl) <| Eq.trans (c_virt (z := 95) (ne := 0) (w := 1013) (as := [vr 11 0, vi (I 118 S (j + 1)), vi (I 118 S (j + 2)), vi (I 118 S (j + 3)), vi (I 118 S (j + 4)), vi (I 118 S (j + 5)), vi (I 118 S (j + 6)), vi (I 118 S (j + 7)), vi (I 118 S (j + 8)), vi (I 118 S (j + 9))]) (rest := []) (st' := [vi x]) D250_1190 rfl rfl rfl (by decide) rfl rfl c1 rfl) <| Eq.trans (e_aload_n D250_1193 rfl rfl) <| Eq.trans (c_arg (i := 1) D250_1194 rfl D250_1195 rfl (fun _ => e_iconst (x := 1) D250_1196 rfl rfl) D250_1197 rfl D250_1198 rfl hS (by omega) (congrFun (congrFun e S) _)) <| Eq.trans (c_arg (i := 2) D250_1199 rfl D250_1200 rfl (fun _ => e_iconst (x := 2) D250_1201 rfl rfl) D250_1202 rfl D250_1203 rfl hS (by omega) (congrFun (congrFun e S) _)) <| Eq.trans (c_arg (i := 3) D250_1204 rfl D250_1205 rfl (fun _ => e_iconst (x := 3) D250_1206 rfl rfl) D250_1207 rfl D250_1208 rfl hS (by omega) (congrFun (congrFun e S) _)) <| Eq.trans (c_arg (i := 4) D250_1209 rfl D250_1210 rfl (fun _ => e_iconst (x := 4) D250_1211 rfl rfl) D250_1212 rfl D250_1213 rfl hS (by omega) (congrFun (congrFun e S) _)) <| Eq.trans (c_arg (i := 5) D250_1214 rfl D250_1215 rfl (fun _ => e_iconst (x := 5) D250_1216 rfl rfl) D250_1217 rfl D250_1218 rfl hS (by omega) (congrFun (congrFun e S) _)) <| Eq.trans (c_arg (i := 6) D250_1219 rfl D250_1220 rfl (fun _ => e_bipush (x := 6) D250_1221 rfl rfl) D250_1223 rfl D250_1224 rfl hS (by omega) (congrFun (congrFun e S) _)) <| Eq.trans (c_arg (i := 7) D250_1225 rfl D250_1226 rfl (fun _ => e_bipush (x := 7) D250_1227 rfl rfl) D250_1229 rfl D250_1230 rfl hS (by omega) (congrFun (congrFun e S) _)) <| Eq.trans (c_arg (i := 8) D250_1231 rfl D250_1232 rfl (fun _ => e_bipush (x := 8) D250_1233 rfl rfl) D250_1235 rfl D250_1236 rfl hS (by omega) (congrFun (congrFun e S) _)) <| Eq.trans (c_arg (i := 9) D250_1237 rfl D250_1238 rfl (fun _ => e_bipush (x := 9) D250_1239 rfl rfl) D250_1241 rfl D250_1242 rfl hS (by omega) (congrFun (congrFun e S) _)) <| Eq.trans (c_virt (z := 226) (ne := 0) (w := 1727) (as := [vr 12 0, vi (I 118 S (j + 1)), vi (I 118 S (j + 2)), vi (I 118 S (j + 3)), vi (I 118 S (j + 4)), vi (I 118 S (j + 5)), vi (I 118 S (j + 6)), vi (I 118 S (j + 7)), vi (I 118 S (j + 8)), vi (I 118 S (j + 9))]) (rest := [vi x]) (st' := [vi x, vi x]) D250_1243 rfl rfl rfl (by decide) rfl rfl c2 rfl) <| Eq.trans (e_iceq (q1 := 1470) D250_1246 rfl rfl) <| Eq.trans (if_pos rfl) <| H250_next hS g
theorem C250_25 (hS : S ≤ 5120) (g : j + 10 ≤ S) (e : J 118 = I 118) (c1 : Cal 63 96 [vr 11 0, vi (I 118 S (j + 1)), vi (I 118 S (j + 2)), vi (I 118 S (j + 3))] (mk I L t) = some (vi x, mk J L1 t1)) (c2 : Cal 63 230 [vr 12 0, vi (I 118 S (j + 1)), vi (I 118 S (j + 2)), vi (I 118 S (j + 3))] (mk J L1 t1) = some (vi x, mk K L2 t1)) : Res 64 250 1251 (lsL S j) [] (mk I L t) = Res 64 250 18 (lsL S ((j + 10 : Nat) : Int)) [] (mk K L2 t1) :=
  Eq.trans (e_aload_n D250_1251 rfl rfl) <| Eq.trans (c_arg (i := 1) D250_1252 rfl D250_1253 rfl (fun _ => e_iconst (x := 1) D250_1254 rfl rfl) D250_1255 rfl D250_1256 rfl hS (by omega) rfl) <| Eq.trans (c_arg (i := 2) D250_1257 rfl D250_1258 rfl (fun _ => e_iconst (x := 2) D250_1259 rfl rfl) D250_1260 rfl D250_1261 rfl hS (by omega) rfl) <| Eq.trans (c_arg (i := 3) D250_1262 rfl D250_1263 rfl (fun _ => e_iconst (x := 3) D250_1264 rfl rfl) D250_1265 rfl D250_1266 rfl hS (by omega) rfl) <| Eq.trans (c_virt (z := 96) (ne := 0) (w := 1017) (as := [vr 11 0, vi (I 118 S (j + 1)), vi (I 118 S (j + 2)), vi (I 118 S (j + 3))]) (rest := []) (st' := [vi x]) D250_1267 rfl rfl rfl (by decide) rfl rfl c1 rfl) <| Eq.trans (e_aload_n D250_1270 rfl rfl) <| Eq.trans (c_arg (i := 1) D250_1271 rfl D250_1272 rfl (fun _ => e_iconst (x := 1) D250_1273 rfl rfl) D250_1274 rfl D250_1275 rfl hS (by omega) (congrFun (congrFun e S) _)) <| Eq.trans (c_arg (i := 2) D250_1276 rfl D250_1277 rfl (fun _ => e_iconst (x := 2) D250_1278 rfl rfl) D250_1279 rfl D250_1280 rfl hS (by omega) (congrFun (congrFun e S) _)) <| Eq.trans (c_arg (i := 3) D250_1281 rfl D250_1282 rfl (fun _ => e_iconst (x := 3) D250_1283 rfl rfl) D250_1284 rfl D250_1285 rfl hS (by omega) (congrFun (congrFun e S) _)) <| Eq.trans (c_virt (z := 230) (ne := 0) (w := 1731) (as := [vr 12 0, vi (I 118 S (j + 1)), vi (I 118 S (j + 2)), vi (I 118 S (j + 3))]) (rest := [vi x]) (st' := [vi x, vi x]) D250_1286 rfl rfl rfl (by decide) rfl rfl c2 rfl) <| Eq.trans (e_iceq (q1 := 1470) D250_1289 rfl rfl) <| Eq.trans (if_pos rfl) <| H250_next hS g
theorem vLcmp_self (x : Int) : vLcmp x x = 0 := by
  unfold vLcmp
  simp
theorem C250_26 (hS : S ≤ 5120) (g : j + 10 ≤ S) (e : J 118 = I 118) (c1 : Cal 63 97 [vr 11 0, vi (I 118 S (j + 1)), vi (I 118 S (j + 2))] (mk I L t) = some (vl x, mk J L1 t1)) (c2 : Cal 63 235 [vr 12 0, vi (I 118 S (j + 1)), vi (I 118 S (j + 2))] (mk J L1 t1) = some (vl x, mk K L2 t1)) : Res 64 250 1294 (lsL S j) [] (mk I L t) = Res 64 250 18 (lsL S ((j + 10 : Nat) : Int)) [] (mk K L2 t1) :=
  Eq.trans (e_aload_n D250_1294 rfl rfl) <| Eq.trans (c_arg (i := 1) D250_1295 rfl D250_1296 rfl (fun _ => e_iconst (x := 1) D250_1297 rfl rfl) D250_1298 rfl D250_1299 rfl hS (by omega) rfl) <| Eq.trans (c_arg (i := 2) D250_1300 rfl D250_1301 rfl (fun _ => e_iconst (x := 2) D250_1302 rfl rfl) D250_1303 rfl D250_1304 rfl hS (by omega) rfl) <| Eq.trans (c_virt (z := 97) (ne := 0) (w := 1038) (as := [vr 11 0, vi (I 118 S (j + 1)), vi (I 118 S (j + 2))]) (rest := []) (st' := [vl x]) D250_1305 rfl rfl rfl (by decide) rfl rfl c1 rfl) <| Eq.trans (e_aload_n D250_1308 rfl rfl) <| Eq.trans (c_arg (i := 1) D250_1309 rfl D250_1310 rfl (fun _ => e_iconst (x := 1) D250_1311 rfl rfl) D250_1312 rfl D250_1313 rfl hS (by omega) (congrFun (congrFun e S) _)) <| Eq.trans (c_arg (i := 2) D250_1314 rfl D250_1315 rfl (fun _ => e_iconst (x := 2) D250_1316 rfl rfl) D250_1317 rfl D250_1318 rfl hS (by omega) (congrFun (congrFun e S) _)) <| Eq.trans (c_virt (z := 235) (ne := 0) (w := 1746) (as := [vr 12 0, vi (I 118 S (j + 1)), vi (I 118 S (j + 2))]) (rest := [vl x]) (st' := [vl x, vl x]) D250_1319 rfl rfl rfl (by decide) rfl rfl c2 rfl) <| Eq.trans (e_lcmp D250_1322 rfl) <| Eq.trans (e_ifeq (q1 := 1470) D250_1323 rfl rfl) <| Eq.trans (if_pos (vLcmp_self x)) <| H250_next hS g
theorem C250_27 (hS : S ≤ 5120) (g : j + 10 ≤ S) (e : J 118 = I 118) (c1 : Cal 63 98 [vr 11 0, vi (I 118 S (j + 1)), vi (I 118 S (j + 2))] (mk I L t) = some (vi x, mk J L1 t1)) (c2 : Cal 63 238 [vr 12 0, vi (I 118 S (j + 1)), vi (I 118 S (j + 2))] (mk J L1 t1) = some (vi x, mk K L2 t1)) : Res 64 250 1328 (lsL S j) [] (mk I L t) = Res 64 250 18 (lsL S ((j + 10 : Nat) : Int)) [] (mk K L2 t1) :=
  Eq.trans (e_aload_n D250_1328 rfl rfl) <| Eq.trans (c_arg (i := 1) D250_1329 rfl D250_1330 rfl (fun _ => e_iconst (x := 1) D250_1331 rfl rfl) D250_1332 rfl D250_1333 rfl hS (by omega) rfl) <| Eq.trans (c_arg (i := 2) D250_1334 rfl D250_1335 rfl (fun _ => e_iconst (x := 2) D250_1336 rfl rfl) D250_1337 rfl D250_1338 rfl hS (by omega) rfl) <| Eq.trans (c_virt (z := 98) (ne := 0) (w := 1063) (as := [vr 11 0, vi (I 118 S (j + 1)), vi (I 118 S (j + 2))]) (rest := []) (st' := [vi x]) D250_1339 rfl rfl rfl (by decide) rfl rfl c1 rfl) <| Eq.trans (e_aload_n D250_1342 rfl rfl) <| Eq.trans (c_arg (i := 1) D250_1343 rfl D250_1344 rfl (fun _ => e_iconst (x := 1) D250_1345 rfl rfl) D250_1346 rfl D250_1347 rfl hS (by omega) (congrFun (congrFun e S) _)) <| Eq.trans (c_arg (i := 2) D250_1348 rfl D250_1349 rfl (fun _ => e_iconst (x := 2) D250_1350 rfl rfl) D250_1351 rfl D250_1352 rfl hS (by omega) (congrFun (congrFun e S) _)) <| Eq.trans (c_virt (z := 238) (ne := 0) (w := 1767) (as := [vr 12 0, vi (I 118 S (j + 1)), vi (I 118 S (j + 2))]) (rest := [vi x]) (st' := [vi x, vi x]) D250_1353 rfl rfl rfl (by decide) rfl rfl c2 rfl) <| Eq.trans (e_iceq (q1 := 1470) D250_1356 rfl rfl) <| Eq.trans (if_pos rfl) <| H250_next hS g
theorem C250_28 (hS : S ≤ 5120) (g : j + 10 ≤ S) (e : J 118 = I 118) (c1 : Cal 63 99 [vr 11 0, vi (I 118 S (j + 1))] (mk I L t) = some (vi x, mk J L1 t1)) (c2 : Cal 63 239 [vr 12 0, vi (I 118 S (j + 1))] (mk J L1 t1) = some (vi x, mk K L2 t1)) : Res 64 250 1361 (lsL S j) [] (mk I L t) = Res 64 250 18 (lsL S ((j + 10 : Nat) : Int)) [] (mk K L2 t1) :=
  Eq.trans (e_aload_n D250_1361 rfl rfl) <| Eq.trans (c_arg (i := 1) D250_1362 rfl D250_1363 rfl (fun _ => e_iconst (x := 1) D250_1364 rfl rfl) D250_1365 rfl D250_1366 rfl hS (by omega) rfl) <| Eq.trans (c_virt (z := 99) (ne := 0) (w := 1083) (as := [vr 11 0, vi (I 118 S (j + 1))]) (rest := []) (st' := [vi x]) D250_1367 rfl rfl rfl (by decide) rfl rfl c1 rfl) <| Eq.trans (e_aload_n D250_1370 rfl rfl) <| Eq.trans (c_arg (i := 1) D250_1371 rfl D250_1372 rfl (fun _ => e_iconst (x := 1) D250_1373 rfl rfl) D250_1374 rfl D250_1375 rfl hS (by omega) (congrFun (congrFun e S) _)) <| Eq.trans (c_virt (z := 239) (ne := 0) (w := 1783) (as := [vr 12 0, vi (I 118 S (j + 1))]) (rest := [vi x]) (st' := [vi x, vi x]) D250_1376 rfl rfl rfl (by decide) rfl rfl c2 rfl) <| Eq.trans (e_iceq (q1 := 1470) D250_1379 rfl rfl) <| Eq.trans (if_pos rfl) <| H250_next hS g
theorem C250_29 (hS : S ≤ 5120) (g : j + 10 ≤ S) (e : J 118 = I 118) (c1 : Cal 63 100 [vr 11 0, vi (I 118 S (j + 1)), vi (I 118 S (j + 2)), vi (I 118 S (j + 3)), vi (I 118 S (j + 4)), vi (I 118 S (j + 5))] (mk I L t) = some (vi x, mk J L1 t1)) (c2 : Cal 63 241 [vr 12 0, vi (I 118 S (j + 1)), vi (I 118 S (j + 2)), vi (I 118 S (j + 3)), vi (I 118 S (j + 4)), vi (I 118 S (j + 5))] (mk J L1 t1) = some (vi x, mk K L2 t1)) : Res 64 250 1384 (lsL S j) [] (mk I L t) = Res 64 250 18 (lsL S ((j + 10 : Nat) : Int)) [] (mk K L2 t1) :=
  Eq.trans (e_aload_n D250_1384 rfl rfl) <| Eq.trans (c_arg (i := 1) D250_1385 rfl D250_1386 rfl (fun _ => e_iconst (x := 1) D250_1387 rfl rfl) D250_1388 rfl D250_1389 rfl hS (by omega) rfl) <| Eq.trans (c_arg (i := 2) D250_1390 rfl D250_1391 rfl (fun _ => e_iconst (x := 2) D250_1392 rfl rfl) D250_1393 rfl D250_1394 rfl hS (by omega) rfl) <| Eq.trans (c_arg (i := 3) D250_1395 rfl D250_1396 rfl (fun _ => e_iconst (x := 3) D250_1397 rfl rfl) D250_1398 rfl D250_1399 rfl hS (by omega) rfl) <| Eq.trans (c_arg (i := 4) D250_1400 rfl D250_1401 rfl (fun _ => e_iconst (x := 4) D250_1402 rfl rfl) D250_1403 rfl D250_1404 rfl hS (by omega) rfl) <| Eq.trans (c_arg (i := 5) D250_1405 rfl D250_1406 rfl (fun _ => e_iconst (x := 5) D250_1407 rfl rfl) D250_1408 rfl D250_1409 rfl hS (by omega) rfl) <| Eq.trans (c_virt (z := 100) (ne := 0) (w := 1087) (as := [vr 11 0, vi (I 118 S (j + 1)), vi (I 118 S (j + 2)), vi (I 118 S (j + 3)), vi (I 118 S (j + 4)), vi (I 118 S (j + 5))]) (rest := []) (st' := [vi x]) D250_1410 rfl rfl rfl (by decide) rfl rfl c1 rfl) <| Eq.trans (e_aload_n D250_1413 rfl rfl) <| Eq.trans (c_arg (i := 1) D250_1414 rfl D250_1415 rfl (fun _ => e_iconst (x := 1) D250_1416 rfl rfl) D250_1417 rfl D250_1418 rfl hS (by omega) (congrFun (congrFun e S) _)) <| Eq.trans (c_arg (i := 2) D250_1419 rfl D250_1420 rfl (fun _ => e_iconst (x := 2) D250_1421 rfl rfl) D250_1422 rfl D250_1423 rfl hS (by omega) (congrFun (congrFun e S) _)) <| Eq.trans (c_arg (i := 3) D250_1424 rfl D250_1425 rfl (fun _ => e_iconst (x := 3) D250_1426 rfl rfl) D250_1427 rfl D250_1428 rfl hS (by omega) (congrFun (congrFun e S) _)) <| Eq.trans (c_arg (i := 4) D250_1429 rfl D250_1430 rfl (fun _ => e_iconst (x := 4) D250_1431 rfl rfl) D250_1432 rfl D250_1433 rfl hS (by omega) (congrFun (congrFun e S) _)) <| Eq.trans (c_arg (i := 5) D250_1434 rfl D250_1435 rfl (fun _ => e_iconst (x := 5) D250_1436 rfl rfl) D250_1437 rfl D250_1438 rfl hS (by omega) (congrFun (congrFun e S) _)) <| Eq.trans (c_virt (z := 241) (ne := 0) (w := 1787) (as := [vr 12 0, vi (I 118 S (j + 1)), vi (I 118 S (j + 2)), vi (I 118 S (j + 3)), vi (I 118 S (j + 4)), vi (I 118 S (j + 5))]) (rest := [vi x]) (st' := [vi x, vi x]) D250_1439 rfl rfl rfl (by decide) rfl rfl c2 rfl) <| Eq.trans (e_iceq (q1 := 1470) D250_1442 rfl rfl) <| Eq.trans (if_pos rfl) <| H250_next hS g
theorem C250_30 (hS : S ≤ 5120) (g : j + 10 ≤ S) (e : J 118 = I 118) (c1 : Cal 63 101 [vr 11 0, vi (I 118 S (j + 1))] (mk I L t) = some (vi x, mk J L1 t1)) (c2 : Cal 63 242 [vr 12 0, vi (I 118 S (j + 1))] (mk J L1 t1) = some (vi x, mk K L2 t1)) : Res 64 250 1447 (lsL S j) [] (mk I L t) = Res 64 250 18 (lsL S ((j + 10 : Nat) : Int)) [] (mk K L2 t1) :=
  Eq.trans (e_aload_n D250_1447 rfl rfl) <| Eq.trans (c_arg (i := 1) D250_1448 rfl D250_1449 rfl (fun _ => e_iconst (x := 1) D250_1450 rfl rfl) D250_1451 rfl D250_1452 rfl hS (by omega) rfl) <| Eq.trans (c_virt (z := 101) (ne := 0) (w := 1100) (as := [vr 11 0, vi (I 118 S (j + 1))]) (rest := []) (st' := [vi x]) D250_1453 rfl rfl rfl (by decide) rfl rfl c1 rfl) <| Eq.trans (e_aload_n D250_1456 rfl rfl) <| Eq.trans (c_arg (i := 1) D250_1457 rfl D250_1458 rfl (fun _ => e_iconst (x := 1) D250_1459 rfl rfl) D250_1460 rfl D250_1461 rfl hS (by omega) (congrFun (congrFun e S) _)) <| Eq.trans (c_virt (z := 242) (ne := 0) (w := 1795) (as := [vr 12 0, vi (I 118 S (j + 1))]) (rest := [vi x]) (st' := [vi x, vi x]) D250_1462 rfl rfl rfl (by decide) rfl rfl c2 rfl) <| Eq.trans (e_iceq (q1 := 1470) D250_1465 rfl rfl) <| Eq.trans (if_pos rfl) <| H250_next hS g
end LAWC
theorem law_step {S j : Nat} {I L : H3} {t : Nat → Nat} (hS : S ≤ 5120) (g : j + 10 ≤ S) (h : Rel I t) : ∃ (K L2 : H3) (t1 : Nat → Nat), Rel K t1 ∧ Res 64 250 18 (lsL S j) [] (mk I L t) = Res 64 250 18 (lsL S ((j + 10 : Nat) : Int)) [] (mk K L2 t1) := by
  rw [H250_in hS g]
  generalize hv : vIand (I 118 S j) 31 = v
  by_cases e0 : v = 0
  · obtain ⟨x, J, L1, K, L2, t1, a, b, r⟩ := both_face (I 118 S (j + 1)) (I 118 S (j + 2)) (I 118 S (j + 3)) (I 118 S (j + 4)) (I 118 S (j + 5)) 13 I L t h
    exact ⟨K, L2, t1, r, Eq.trans (e_tswK (k := 0) (q1 := 172) D250_33 e0 (by decide) rfl rfl) (C250_0 hS g (cal_scr a) a b)⟩
  by_cases e1 : v = 1
  · obtain ⟨x, J, L1, K, L2, t1, a, b, r⟩ := both_number (I 118 S (j + 1)) (I 118 S (j + 2)) 13 I L t h
    exact ⟨K, L2, t1, r, Eq.trans (e_tswK (k := 1) (q1 := 235) D250_33 e1 (by decide) rfl rfl) (C250_1 hS g (cal_scr a) a b)⟩
  by_cases e2 : v = 2
  · obtain ⟨x, J, L1, K, L2, t1, a, b, r⟩ := both_type (I 118 S (j + 1)) (I 118 S (j + 2)) 13 I L t h
    exact ⟨K, L2, t1, r, Eq.trans (e_tswK (k := 2) (q1 := 268) D250_33 e2 (by decide) rfl rfl) (C250_2 hS g (cal_scr a) a b)⟩
  by_cases e3 : v = 3
  · obtain ⟨x, J, L1, K, L2, t1, a, b, r⟩ := both_put (I 118 S (j + 1)) (I 118 S (j + 2)) 13 I L t h
    exact ⟨K, L2, t1, r, Eq.trans (e_tswK (k := 3) (q1 := 301) D250_33 e3 (by decide) rfl rfl) (C250_3 hS g (cal_scr a) a b)⟩
  by_cases e4 : v = 4
  · obtain ⟨x, J, L1, K, L2, t1, a, b, r⟩ := both_clear (I 118 S (j + 1)) 13 I L t h
    exact ⟨K, L2, t1, r, Eq.trans (e_tswK (k := 4) (q1 := 334) D250_33 e4 (by decide) rfl rfl) (C250_4 hS g (cal_scr a) a b)⟩
  by_cases e5 : v = 5
  · obtain ⟨x, J, L1, K, L2, t1, a, b, r⟩ := both_feed (I 118 S (j + 1)) (I 118 S (j + 2)) (I 118 S (j + 3)) (I 118 S (j + 4)) (I 118 S (j + 5)) 13 I L t h
    exact ⟨K, L2, t1, r, Eq.trans (e_tswK (k := 5) (q1 := 357) D250_33 e5 (by decide) rfl rfl) (C250_5 hS g (cal_scr a) a b)⟩
  by_cases e6 : v = 6
  · obtain ⟨x, J, L1, K, L2, t1, a, b, r⟩ := both_end (I 118 S (j + 1)) 13 I L t h
    exact ⟨K, L2, t1, r, Eq.trans (e_tswK (k := 6) (q1 := 420) D250_33 e6 (by decide) rfl rfl) (C250_6 hS g (cal_scr a) a b)⟩
  by_cases e7 : v = 7
  · obtain ⟨x, J, L1, K, L2, t1, a, b, r⟩ := both_text (I 118 S (j + 1)) (I 118 S (j + 2)) 13 I L t h
    exact ⟨K, L2, t1, r, Eq.trans (e_tswK (k := 7) (q1 := 443) D250_33 e7 (by decide) rfl rfl) (C250_7 hS g (cal_scr a) a b)⟩
  by_cases e8 : v = 8
  · obtain ⟨x, J, L1, K, L2, t1, a, b, r⟩ := both_fault (I 118 S (j + 1)) 13 I L t h
    exact ⟨K, L2, t1, r, Eq.trans (e_tswK (k := 8) (q1 := 476) D250_33 e8 (by decide) rfl rfl) (C250_8 hS g (cal_scr a) a b)⟩
  by_cases e9 : v = 9
  · obtain ⟨x, J, L1, K, L2, t1, a, b, r⟩ := both_days (I 118 S (j + 1)) 13 I L t h
    exact ⟨K, L2, t1, r, Eq.trans (e_tswK (k := 9) (q1 := 499) D250_33 e9 (by decide) rfl rfl) (C250_9 hS g (cal_scr a) a b)⟩
  by_cases e10 : v = 10
  · obtain ⟨x, J, L1, K, L2, t1, a, b, r⟩ := both_witness (I 118 S (j + 1)) (I 118 S (j + 2)) (I 118 S (j + 3)) (I 118 S (j + 4)) (I 118 S (j + 5)) (I 118 S (j + 6)) 13 I L t h
    exact ⟨K, L2, t1, r, Eq.trans (e_tswK (k := 10) (q1 := 522) D250_33 e10 (by decide) rfl rfl) (C250_10 hS g (cal_scr a) a b)⟩
  by_cases e11 : v = 11
  · obtain ⟨x, J, L1, K, L2, t1, a, b, r⟩ := both_memory (I 118 S (j + 1)) (I 118 S (j + 2)) 13 I L t h
    exact ⟨K, L2, t1, r, Eq.trans (e_tswK (k := 11) (q1 := 597) D250_33 e11 (by decide) rfl rfl) (C250_11 hS g (cal_scr a) a b)⟩
  by_cases e12 : v = 12
  · obtain ⟨x, J, L1, K, L2, t1, a, b, r⟩ := both_far (I 118 S (j + 1)) (I 118 S (j + 2)) 13 I L t h
    exact ⟨K, L2, t1, r, Eq.trans (e_tswK (k := 12) (q1 := 630) D250_33 e12 (by decide) rfl rfl) (C250_12 hS g (cal_scr a) a b)⟩
  by_cases e13 : v = 13
  · obtain ⟨x, J, L1, K, L2, t1, a, b, r⟩ := both_odds (I 118 S (j + 1)) (I 118 S (j + 2)) (I 118 S (j + 3)) (I 118 S (j + 4)) (I 118 S (j + 5)) (I 118 S (j + 6)) 13 I L t h
    exact ⟨K, L2, t1, r, Eq.trans (e_tswK (k := 13) (q1 := 663) D250_33 e13 (by decide) rfl rfl) (C250_13 hS g (cal_scr a) a b)⟩
  by_cases e14 : v = 14
  · obtain ⟨x, J, L1, K, L2, t1, a, b, r⟩ := both_show (I 118 S (j + 1)) (I 118 S (j + 2)) (I 118 S (j + 3)) (I 118 S (j + 4)) (I 118 S (j + 5)) (I 118 S (j + 6)) 13 I L t h
    exact ⟨K, L2, t1, r, Eq.trans (e_tswK (k := 14) (q1 := 738) D250_33 e14 (by decide) rfl rfl) (C250_14 hS g (cal_scr a) a b)⟩
  by_cases e15 : v = 15
  · obtain ⟨x, J, L1, K, L2, t1, a, b, r⟩ := both_showing (I 118 S (j + 1)) (I 118 S (j + 2)) 13 I L t h
    exact ⟨K, L2, t1, r, Eq.trans (e_tswK (k := 15) (q1 := 813) D250_33 e15 (by decide) rfl rfl) (C250_15 hS g (cal_scr a) a b)⟩
  by_cases e16 : v = 16
  · obtain ⟨x, J, L1, K, L2, t1, a, b, r⟩ := both_praise (I 118 S (j + 1)) 13 I L t h
    exact ⟨K, L2, t1, r, Eq.trans (e_tswK (k := 16) (q1 := 846) D250_33 e16 (by decide) rfl rfl) (C250_16 hS g (cal_scr a) a b)⟩
  by_cases e17 : v = 17
  · obtain ⟨x, J, L1, K, L2, t1, a, b, r⟩ := both_sure (I 118 S (j + 1)) (I 118 S (j + 2)) (I 118 S (j + 3)) 13 I L t h
    exact ⟨K, L2, t1, r, Eq.trans (e_tswK (k := 17) (q1 := 869) D250_33 e17 (by decide) rfl rfl) (C250_17 hS g (cal_scr a) a b)⟩
  by_cases e18 : v = 18
  · obtain ⟨x, J, L1, K, L2, t1, a, b, r⟩ := both_together (I 118 S (j + 1)) (I 118 S (j + 2)) 13 I L t h
    exact ⟨K, L2, t1, r, Eq.trans (e_tswK (k := 18) (q1 := 912) D250_33 e18 (by decide) rfl rfl) (C250_18 hS g (cal_scr a) a b)⟩
  by_cases e19 : v = 19
  · obtain ⟨x, J, L1, K, L2, t1, a, b, r⟩ := both_known (I 118 S (j + 1)) (I 118 S (j + 2)) (I 118 S (j + 3)) 13 I L t h
    exact ⟨K, L2, t1, r, Eq.trans (e_tswK (k := 19) (q1 := 945) D250_33 e19 (by decide) rfl rfl) (C250_19 hS g (cal_scr a) a b)⟩
  by_cases e20 : v = 20
  · obtain ⟨x, J, L1, K, L2, t1, a, b, r⟩ := both_bred (I 118 S (j + 1)) (I 118 S (j + 2)) (I 118 S (j + 3)) 13 I L t h
    exact ⟨K, L2, t1, r, Eq.trans (e_tswK (k := 20) (q1 := 988) D250_33 e20 (by decide) rfl rfl) (C250_20 hS g (cal_scr a) a b)⟩
  by_cases e21 : v = 21
  · obtain ⟨x, J, L1, K, L2, t1, a, b, r⟩ := both_score (I 118 S (j + 1)) 13 I L t h
    exact ⟨K, L2, t1, r, Eq.trans (e_tswK (k := 21) (q1 := 1031) D250_33 e21 (by decide) rfl rfl) (C250_21 hS g (cal_scr a) a b)⟩
  by_cases e22 : v = 22
  · obtain ⟨x, J, L1, K, L2, t1, a, b, r⟩ := both_mock (I 118 S (j + 1)) (I 118 S (j + 2)) (I 118 S (j + 3)) 13 I L t h
    exact ⟨K, L2, t1, r, Eq.trans (e_tswK (k := 22) (q1 := 1054) D250_33 e22 (by decide) rfl rfl) (C250_22 hS g (cal_scr a) a b)⟩
  by_cases e23 : v = 23
  · obtain ⟨x, J, L1, K, L2, t1, a, b, r⟩ := both_fillers (I 118 S (j + 1)) (I 118 S (j + 2)) (I 118 S (j + 3)) 13 I L t h
    exact ⟨K, L2, t1, r, Eq.trans (e_tswK (k := 23) (q1 := 1097) D250_33 e23 (by decide) rfl rfl) (C250_23 hS g (cal_scr a) a b)⟩
  by_cases e24 : v = 24
  · obtain ⟨x, J, L1, K, L2, t1, a, b, r⟩ := both_world (I 118 S (j + 1)) (I 118 S (j + 2)) (I 118 S (j + 3)) (I 118 S (j + 4)) (I 118 S (j + 5)) (I 118 S (j + 6)) (I 118 S (j + 7)) (I 118 S (j + 8)) (I 118 S (j + 9)) 13 I L t h
    exact ⟨K, L2, t1, r, Eq.trans (e_tswK (k := 24) (q1 := 1140) D250_33 e24 (by decide) rfl rfl) (C250_24 hS g (cal_scr a) a b)⟩
  by_cases e25 : v = 25
  · obtain ⟨x, J, L1, K, L2, t1, a, b, r⟩ := both_tried (I 118 S (j + 1)) (I 118 S (j + 2)) (I 118 S (j + 3)) 13 I L t h
    exact ⟨K, L2, t1, r, Eq.trans (e_tswK (k := 25) (q1 := 1251) D250_33 e25 (by decide) rfl rfl) (C250_25 hS g (cal_scr a) a b)⟩
  by_cases e26 : v = 26
  · obtain ⟨x, J, L1, K, L2, t1, a, b, r⟩ := both_way (I 118 S (j + 1)) (I 118 S (j + 2)) 13 I L t h
    exact ⟨K, L2, t1, r, Eq.trans (e_tswK (k := 26) (q1 := 1294) D250_33 e26 (by decide) rfl rfl) (C250_26 hS g (cal_scr a) a b)⟩
  by_cases e27 : v = 27
  · obtain ⟨x, J, L1, K, L2, t1, a, b, r⟩ := both_replayed (I 118 S (j + 1)) (I 118 S (j + 2)) 13 I L t h
    exact ⟨K, L2, t1, r, Eq.trans (e_tswK (k := 27) (q1 := 1328) D250_33 e27 (by decide) rfl rfl) (C250_27 hS g (cal_scr a) a b)⟩
  by_cases e28 : v = 28
  · obtain ⟨x, J, L1, K, L2, t1, a, b, r⟩ := both_spoilt (I 118 S (j + 1)) 13 I L t h
    exact ⟨K, L2, t1, r, Eq.trans (e_tswK (k := 28) (q1 := 1361) D250_33 e28 (by decide) rfl rfl) (C250_28 hS g (cal_scr a) a b)⟩
  by_cases e29 : v = 29
  · obtain ⟨x, J, L1, K, L2, t1, a, b, r⟩ := both_both (I 118 S (j + 1)) (I 118 S (j + 2)) (I 118 S (j + 3)) (I 118 S (j + 4)) (I 118 S (j + 5)) 13 I L t h
    exact ⟨K, L2, t1, r, Eq.trans (e_tswK (k := 29) (q1 := 1384) D250_33 e29 (by decide) rfl rfl) (C250_29 hS g (cal_scr a) a b)⟩
  by_cases e30 : v = 30
  · obtain ⟨x, J, L1, K, L2, t1, a, b, r⟩ := both_look (I 118 S (j + 1)) 13 I L t h
    exact ⟨K, L2, t1, r, Eq.trans (e_tswK (k := 30) (q1 := 1447) D250_33 e30 (by decide) rfl rfl) (C250_30 hS g (cal_scr a) a b)⟩
  exact ⟨I, L, t, h, Eq.trans (e_tswD (q1 := 1470) D250_33 (by omega) rfl) (H250_next hS g)⟩
theorem law_loop {S : Nat} (hS : S ≤ 5120) : ∀ (f j : Nat) (I L : H3) (t : Nat → Nat), Rel I t → S < j + 10 * f + 10 → ∃ h1 : MS, Res 64 250 18 (lsL S j) [] (mk I L t) = some (vi 1, h1) ∧ h1.2.2.2 = 1021
  | 0, j, I, L, t, h, hf => ⟨_, H250_out hS (by omega), rfl⟩
  | f + 1, j, I, L, t, h, hf => by
    by_cases g : j + 10 ≤ S
    · obtain ⟨K, L2, t1, r, e⟩ := law_step (L := L) hS g h
      obtain ⟨h1, e1, k1⟩ := law_loop hS f (j + 10) K L2 t1 r (by omega)
      exact ⟨h1, e.trans e1, k1⟩
    · exact ⟨_, H250_out hS (by omega), rfl⟩
