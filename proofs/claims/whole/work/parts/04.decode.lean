theorem dL_law_0 : decode code 0 = .ok (.new 7, 3) := by decide +kernel
theorem dL_law_3 : decode code 3 = .ok (.dup, 1) := by decide +kernel
theorem dL_law_4 : decode code 4 = .ok (.invokespecial 9, 3) := by decide +kernel
theorem dL_law_7 : decode code 7 = .ok (.astore_n 1, 1) := by decide +kernel
theorem dL_law_8 : decode code 8 = .ok (.new 10, 3) := by decide +kernel
theorem dL_law_11 : decode code 11 = .ok (.dup, 1) := by decide +kernel
theorem dL_law_12 : decode code 12 = .ok (.invokespecial 12, 3) := by decide +kernel
theorem dL_law_15 : decode code 15 = .ok (.astore_n 2, 1) := by decide +kernel
theorem dL_law_16 : decode code 16 = .ok (.iconst 0, 1) := by decide +kernel
theorem dL_law_17 : decode code 17 = .ok (.istore_n 3, 1) := by decide +kernel
theorem dL_law_18 : decode code 18 = .ok (.iload_n 3, 1) := by decide +kernel
theorem dL_law_19 : decode code 19 = .ok (.aload_n 0, 1) := by decide +kernel
theorem dL_law_20 : decode code 20 = .ok (.arraylength, 1) := by decide +kernel
theorem dL_law_21 : decode code 21 = .ok (.iconst 4, 1) := by decide +kernel
theorem dL_law_22 : decode code 22 = .ok (.isub, 1) := by decide +kernel
theorem dL_law_23 : decode code 23 = .ok (.if_icmp .gt 396, 3) := by decide +kernel
theorem dL_law_26 : decode code 26 = .ok (.aload_n 0, 1) := by decide +kernel
theorem dL_law_27 : decode code 27 = .ok (.iload_n 3, 1) := by decide +kernel
theorem dL_law_28 : decode code 28 = .ok (.iaload, 1) := by decide +kernel
theorem dL_law_29 : decode code 29 = .ok (.bipush 15, 2) := by decide +kernel
theorem dL_law_31 : decode code 31 = .ok (.iand, 1) := by decide +kernel
theorem dL_law_32 : decode code 32 = .ok (.tableswitch 381 0 14 #[76, 99, 142, 165, 178, 201, 244, 257, 270, 293, 306, 319, 332, 345, 368], 76) := by decide +kernel
theorem dL_law_108 : decode code 108 = .ok (.aload_n 1, 1) := by decide +kernel
theorem dL_law_109 : decode code 109 = .ok (.aload_n 0, 1) := by decide +kernel
theorem dL_law_110 : decode code 110 = .ok (.iload_n 3, 1) := by decide +kernel
theorem dL_law_111 : decode code 111 = .ok (.iconst 1, 1) := by decide +kernel
theorem dL_law_112 : decode code 112 = .ok (.iadd, 1) := by decide +kernel
theorem dL_law_113 : decode code 113 = .ok (.iaload, 1) := by decide +kernel
theorem dL_law_114 : decode code 114 = .ok (.invokevirtual 13, 3) := by decide +kernel
theorem dL_law_117 : decode code 117 = .ok (.aload_n 2, 1) := by decide +kernel
theorem dL_law_118 : decode code 118 = .ok (.aload_n 0, 1) := by decide +kernel
theorem dL_law_119 : decode code 119 = .ok (.iload_n 3, 1) := by decide +kernel
theorem dL_law_120 : decode code 120 = .ok (.iconst 1, 1) := by decide +kernel
theorem dL_law_121 : decode code 121 = .ok (.iadd, 1) := by decide +kernel
theorem dL_law_122 : decode code 122 = .ok (.iaload, 1) := by decide +kernel
theorem dL_law_123 : decode code 123 = .ok (.invokevirtual 17, 3) := by decide +kernel
theorem dL_law_126 : decode code 126 = .ok (.if_icmp .eq 287, 3) := by decide +kernel
theorem dL_law_129 : decode code 129 = .ok (.iconst 0, 1) := by decide +kernel
theorem dL_law_130 : decode code 130 = .ok (.ireturn, 1) := by decide +kernel
theorem dL_law_131 : decode code 131 = .ok (.aload_n 1, 1) := by decide +kernel
theorem dL_law_132 : decode code 132 = .ok (.aload_n 0, 1) := by decide +kernel
theorem dL_law_133 : decode code 133 = .ok (.iload_n 3, 1) := by decide +kernel
theorem dL_law_134 : decode code 134 = .ok (.iconst 1, 1) := by decide +kernel
theorem dL_law_135 : decode code 135 = .ok (.iadd, 1) := by decide +kernel
theorem dL_law_136 : decode code 136 = .ok (.iaload, 1) := by decide +kernel
theorem dL_law_137 : decode code 137 = .ok (.aload_n 0, 1) := by decide +kernel
theorem dL_law_138 : decode code 138 = .ok (.iload_n 3, 1) := by decide +kernel
theorem dL_law_139 : decode code 139 = .ok (.iconst 2, 1) := by decide +kernel
theorem dL_law_140 : decode code 140 = .ok (.iadd, 1) := by decide +kernel
theorem dL_law_141 : decode code 141 = .ok (.iaload, 1) := by decide +kernel
theorem dL_law_142 : decode code 142 = .ok (.aload_n 0, 1) := by decide +kernel
theorem dL_law_143 : decode code 143 = .ok (.iload_n 3, 1) := by decide +kernel
theorem dL_law_144 : decode code 144 = .ok (.iconst 3, 1) := by decide +kernel
theorem dL_law_145 : decode code 145 = .ok (.iadd, 1) := by decide +kernel
theorem dL_law_146 : decode code 146 = .ok (.iaload, 1) := by decide +kernel
theorem dL_law_147 : decode code 147 = .ok (.invokevirtual 18, 3) := by decide +kernel
theorem dL_law_150 : decode code 150 = .ok (.aload_n 2, 1) := by decide +kernel
theorem dL_law_151 : decode code 151 = .ok (.aload_n 0, 1) := by decide +kernel
theorem dL_law_152 : decode code 152 = .ok (.iload_n 3, 1) := by decide +kernel
theorem dL_law_153 : decode code 153 = .ok (.iconst 1, 1) := by decide +kernel
theorem dL_law_154 : decode code 154 = .ok (.iadd, 1) := by decide +kernel
theorem dL_law_155 : decode code 155 = .ok (.iaload, 1) := by decide +kernel
theorem dL_law_156 : decode code 156 = .ok (.aload_n 0, 1) := by decide +kernel
theorem dL_law_157 : decode code 157 = .ok (.iload_n 3, 1) := by decide +kernel
theorem dL_law_158 : decode code 158 = .ok (.iconst 2, 1) := by decide +kernel
theorem dL_law_159 : decode code 159 = .ok (.iadd, 1) := by decide +kernel
theorem dL_law_160 : decode code 160 = .ok (.iaload, 1) := by decide +kernel
theorem dL_law_161 : decode code 161 = .ok (.aload_n 0, 1) := by decide +kernel
theorem dL_law_162 : decode code 162 = .ok (.iload_n 3, 1) := by decide +kernel
theorem dL_law_163 : decode code 163 = .ok (.iconst 3, 1) := by decide +kernel
theorem dL_law_164 : decode code 164 = .ok (.iadd, 1) := by decide +kernel
theorem dL_law_165 : decode code 165 = .ok (.iaload, 1) := by decide +kernel
theorem dL_law_166 : decode code 166 = .ok (.invokevirtual 22, 3) := by decide +kernel
theorem dL_law_169 : decode code 169 = .ok (.if_icmp .eq 244, 3) := by decide +kernel
theorem dL_law_172 : decode code 172 = .ok (.iconst 0, 1) := by decide +kernel
theorem dL_law_173 : decode code 173 = .ok (.ireturn, 1) := by decide +kernel
theorem dL_law_174 : decode code 174 = .ok (.aload_n 1, 1) := by decide +kernel
theorem dL_law_175 : decode code 175 = .ok (.aload_n 0, 1) := by decide +kernel
theorem dL_law_176 : decode code 176 = .ok (.iload_n 3, 1) := by decide +kernel
theorem dL_law_177 : decode code 177 = .ok (.iconst 1, 1) := by decide +kernel
theorem dL_law_178 : decode code 178 = .ok (.iadd, 1) := by decide +kernel
theorem dL_law_179 : decode code 179 = .ok (.iaload, 1) := by decide +kernel
theorem dL_law_180 : decode code 180 = .ok (.invokevirtual 23, 3) := by decide +kernel
theorem dL_law_183 : decode code 183 = .ok (.aload_n 2, 1) := by decide +kernel
theorem dL_law_184 : decode code 184 = .ok (.aload_n 0, 1) := by decide +kernel
theorem dL_law_185 : decode code 185 = .ok (.iload_n 3, 1) := by decide +kernel
theorem dL_law_186 : decode code 186 = .ok (.iconst 1, 1) := by decide +kernel
theorem dL_law_187 : decode code 187 = .ok (.iadd, 1) := by decide +kernel
theorem dL_law_188 : decode code 188 = .ok (.iaload, 1) := by decide +kernel
theorem dL_law_189 : decode code 189 = .ok (.invokevirtual 27, 3) := by decide +kernel
theorem dL_law_192 : decode code 192 = .ok (.if_icmp .eq 221, 3) := by decide +kernel
theorem dL_law_195 : decode code 195 = .ok (.iconst 0, 1) := by decide +kernel
theorem dL_law_196 : decode code 196 = .ok (.ireturn, 1) := by decide +kernel
theorem dL_law_197 : decode code 197 = .ok (.aload_n 1, 1) := by decide +kernel
theorem dL_law_198 : decode code 198 = .ok (.invokevirtual 28, 3) := by decide +kernel
theorem dL_law_201 : decode code 201 = .ok (.aload_n 2, 1) := by decide +kernel
theorem dL_law_202 : decode code 202 = .ok (.invokevirtual 32, 3) := by decide +kernel
theorem dL_law_205 : decode code 205 = .ok (.if_icmp .eq 208, 3) := by decide +kernel
theorem dL_law_208 : decode code 208 = .ok (.iconst 0, 1) := by decide +kernel
theorem dL_law_209 : decode code 209 = .ok (.ireturn, 1) := by decide +kernel
theorem dL_law_210 : decode code 210 = .ok (.aload_n 1, 1) := by decide +kernel
theorem dL_law_211 : decode code 211 = .ok (.aload_n 0, 1) := by decide +kernel
theorem dL_law_212 : decode code 212 = .ok (.iload_n 3, 1) := by decide +kernel
theorem dL_law_213 : decode code 213 = .ok (.iconst 1, 1) := by decide +kernel
theorem dL_law_214 : decode code 214 = .ok (.iadd, 1) := by decide +kernel
theorem dL_law_215 : decode code 215 = .ok (.iaload, 1) := by decide +kernel
theorem dL_law_216 : decode code 216 = .ok (.invokevirtual 33, 3) := by decide +kernel
theorem dL_law_219 : decode code 219 = .ok (.aload_n 2, 1) := by decide +kernel
theorem dL_law_220 : decode code 220 = .ok (.aload_n 0, 1) := by decide +kernel
theorem dL_law_221 : decode code 221 = .ok (.iload_n 3, 1) := by decide +kernel
theorem dL_law_222 : decode code 222 = .ok (.iconst 1, 1) := by decide +kernel
theorem dL_law_223 : decode code 223 = .ok (.iadd, 1) := by decide +kernel
theorem dL_law_224 : decode code 224 = .ok (.iaload, 1) := by decide +kernel
theorem dL_law_225 : decode code 225 = .ok (.invokevirtual 36, 3) := by decide +kernel
theorem dL_law_228 : decode code 228 = .ok (.if_icmp .eq 185, 3) := by decide +kernel
theorem dL_law_231 : decode code 231 = .ok (.iconst 0, 1) := by decide +kernel
theorem dL_law_232 : decode code 232 = .ok (.ireturn, 1) := by decide +kernel
theorem dL_law_233 : decode code 233 = .ok (.aload_n 1, 1) := by decide +kernel
theorem dL_law_234 : decode code 234 = .ok (.aload_n 0, 1) := by decide +kernel
theorem dL_law_235 : decode code 235 = .ok (.iload_n 3, 1) := by decide +kernel
theorem dL_law_236 : decode code 236 = .ok (.iconst 1, 1) := by decide +kernel
theorem dL_law_237 : decode code 237 = .ok (.iadd, 1) := by decide +kernel
theorem dL_law_238 : decode code 238 = .ok (.iaload, 1) := by decide +kernel
theorem dL_law_239 : decode code 239 = .ok (.aload_n 0, 1) := by decide +kernel
theorem dL_law_240 : decode code 240 = .ok (.iload_n 3, 1) := by decide +kernel
theorem dL_law_241 : decode code 241 = .ok (.iconst 2, 1) := by decide +kernel
theorem dL_law_242 : decode code 242 = .ok (.iadd, 1) := by decide +kernel
theorem dL_law_243 : decode code 243 = .ok (.iaload, 1) := by decide +kernel
theorem dL_law_244 : decode code 244 = .ok (.aload_n 0, 1) := by decide +kernel
theorem dL_law_245 : decode code 245 = .ok (.iload_n 3, 1) := by decide +kernel
theorem dL_law_246 : decode code 246 = .ok (.iconst 3, 1) := by decide +kernel
theorem dL_law_247 : decode code 247 = .ok (.iadd, 1) := by decide +kernel
theorem dL_law_248 : decode code 248 = .ok (.iaload, 1) := by decide +kernel
theorem dL_law_249 : decode code 249 = .ok (.invokevirtual 37, 3) := by decide +kernel
theorem dL_law_252 : decode code 252 = .ok (.aload_n 2, 1) := by decide +kernel
theorem dL_law_253 : decode code 253 = .ok (.aload_n 0, 1) := by decide +kernel
theorem dL_law_254 : decode code 254 = .ok (.iload_n 3, 1) := by decide +kernel
theorem dL_law_255 : decode code 255 = .ok (.iconst 1, 1) := by decide +kernel
theorem dL_law_256 : decode code 256 = .ok (.iadd, 1) := by decide +kernel
theorem dL_law_257 : decode code 257 = .ok (.iaload, 1) := by decide +kernel
theorem dL_law_258 : decode code 258 = .ok (.aload_n 0, 1) := by decide +kernel
theorem dL_law_259 : decode code 259 = .ok (.iload_n 3, 1) := by decide +kernel
theorem dL_law_260 : decode code 260 = .ok (.iconst 2, 1) := by decide +kernel
theorem dL_law_261 : decode code 261 = .ok (.iadd, 1) := by decide +kernel
theorem dL_law_262 : decode code 262 = .ok (.iaload, 1) := by decide +kernel
theorem dL_law_263 : decode code 263 = .ok (.aload_n 0, 1) := by decide +kernel
theorem dL_law_264 : decode code 264 = .ok (.iload_n 3, 1) := by decide +kernel
theorem dL_law_265 : decode code 265 = .ok (.iconst 3, 1) := by decide +kernel
theorem dL_law_266 : decode code 266 = .ok (.iadd, 1) := by decide +kernel
theorem dL_law_267 : decode code 267 = .ok (.iaload, 1) := by decide +kernel
theorem dL_law_268 : decode code 268 = .ok (.invokevirtual 41, 3) := by decide +kernel
theorem dL_law_271 : decode code 271 = .ok (.if_icmp .eq 142, 3) := by decide +kernel
theorem dL_law_274 : decode code 274 = .ok (.iconst 0, 1) := by decide +kernel
theorem dL_law_275 : decode code 275 = .ok (.ireturn, 1) := by decide +kernel
theorem dL_law_276 : decode code 276 = .ok (.aload_n 1, 1) := by decide +kernel
theorem dL_law_277 : decode code 277 = .ok (.invokevirtual 42, 3) := by decide +kernel
theorem dL_law_280 : decode code 280 = .ok (.aload_n 2, 1) := by decide +kernel
theorem dL_law_281 : decode code 281 = .ok (.invokevirtual 46, 3) := by decide +kernel
theorem dL_law_284 : decode code 284 = .ok (.if_icmp .eq 129, 3) := by decide +kernel
theorem dL_law_287 : decode code 287 = .ok (.iconst 0, 1) := by decide +kernel
theorem dL_law_288 : decode code 288 = .ok (.ireturn, 1) := by decide +kernel
theorem dL_law_289 : decode code 289 = .ok (.aload_n 1, 1) := by decide +kernel
theorem dL_law_290 : decode code 290 = .ok (.invokevirtual 47, 3) := by decide +kernel
theorem dL_law_293 : decode code 293 = .ok (.aload_n 2, 1) := by decide +kernel
theorem dL_law_294 : decode code 294 = .ok (.invokevirtual 50, 3) := by decide +kernel
theorem dL_law_297 : decode code 297 = .ok (.if_icmp .eq 116, 3) := by decide +kernel
theorem dL_law_300 : decode code 300 = .ok (.iconst 0, 1) := by decide +kernel
theorem dL_law_301 : decode code 301 = .ok (.ireturn, 1) := by decide +kernel
theorem dL_law_302 : decode code 302 = .ok (.aload_n 1, 1) := by decide +kernel
theorem dL_law_303 : decode code 303 = .ok (.aload_n 0, 1) := by decide +kernel
theorem dL_law_304 : decode code 304 = .ok (.iload_n 3, 1) := by decide +kernel
theorem dL_law_305 : decode code 305 = .ok (.iconst 1, 1) := by decide +kernel
theorem dL_law_306 : decode code 306 = .ok (.iadd, 1) := by decide +kernel
theorem dL_law_307 : decode code 307 = .ok (.iaload, 1) := by decide +kernel
theorem dL_law_308 : decode code 308 = .ok (.invokevirtual 51, 3) := by decide +kernel
theorem dL_law_311 : decode code 311 = .ok (.aload_n 2, 1) := by decide +kernel
theorem dL_law_312 : decode code 312 = .ok (.aload_n 0, 1) := by decide +kernel
theorem dL_law_313 : decode code 313 = .ok (.iload_n 3, 1) := by decide +kernel
theorem dL_law_314 : decode code 314 = .ok (.iconst 1, 1) := by decide +kernel
theorem dL_law_315 : decode code 315 = .ok (.iadd, 1) := by decide +kernel
theorem dL_law_316 : decode code 316 = .ok (.iaload, 1) := by decide +kernel
theorem dL_law_317 : decode code 317 = .ok (.invokevirtual 54, 3) := by decide +kernel
theorem dL_law_320 : decode code 320 = .ok (.if_icmp .eq 93, 3) := by decide +kernel
theorem dL_law_323 : decode code 323 = .ok (.iconst 0, 1) := by decide +kernel
theorem dL_law_324 : decode code 324 = .ok (.ireturn, 1) := by decide +kernel
theorem dL_law_325 : decode code 325 = .ok (.aload_n 1, 1) := by decide +kernel
theorem dL_law_326 : decode code 326 = .ok (.invokevirtual 55, 3) := by decide +kernel
theorem dL_law_329 : decode code 329 = .ok (.aload_n 2, 1) := by decide +kernel
theorem dL_law_330 : decode code 330 = .ok (.invokevirtual 58, 3) := by decide +kernel
theorem dL_law_333 : decode code 333 = .ok (.if_icmp .eq 80, 3) := by decide +kernel
theorem dL_law_336 : decode code 336 = .ok (.iconst 0, 1) := by decide +kernel
theorem dL_law_337 : decode code 337 = .ok (.ireturn, 1) := by decide +kernel
theorem dL_law_338 : decode code 338 = .ok (.aload_n 1, 1) := by decide +kernel
theorem dL_law_339 : decode code 339 = .ok (.invokevirtual 59, 3) := by decide +kernel
theorem dL_law_342 : decode code 342 = .ok (.aload_n 2, 1) := by decide +kernel
theorem dL_law_343 : decode code 343 = .ok (.invokevirtual 62, 3) := by decide +kernel
theorem dL_law_346 : decode code 346 = .ok (.if_icmp .eq 67, 3) := by decide +kernel
theorem dL_law_349 : decode code 349 = .ok (.iconst 0, 1) := by decide +kernel
theorem dL_law_350 : decode code 350 = .ok (.ireturn, 1) := by decide +kernel
theorem dL_law_351 : decode code 351 = .ok (.aload_n 1, 1) := by decide +kernel
theorem dL_law_352 : decode code 352 = .ok (.invokevirtual 63, 3) := by decide +kernel
theorem dL_law_355 : decode code 355 = .ok (.aload_n 2, 1) := by decide +kernel
theorem dL_law_356 : decode code 356 = .ok (.invokevirtual 66, 3) := by decide +kernel
theorem dL_law_359 : decode code 359 = .ok (.if_icmp .eq 54, 3) := by decide +kernel
theorem dL_law_362 : decode code 362 = .ok (.iconst 0, 1) := by decide +kernel
theorem dL_law_363 : decode code 363 = .ok (.ireturn, 1) := by decide +kernel
theorem dL_law_364 : decode code 364 = .ok (.aload_n 1, 1) := by decide +kernel
theorem dL_law_365 : decode code 365 = .ok (.invokevirtual 67, 3) := by decide +kernel
theorem dL_law_368 : decode code 368 = .ok (.aload_n 2, 1) := by decide +kernel
theorem dL_law_369 : decode code 369 = .ok (.invokevirtual 70, 3) := by decide +kernel
theorem dL_law_372 : decode code 372 = .ok (.if_icmp .eq 41, 3) := by decide +kernel
theorem dL_law_375 : decode code 375 = .ok (.iconst 0, 1) := by decide +kernel
theorem dL_law_376 : decode code 376 = .ok (.ireturn, 1) := by decide +kernel
theorem dL_law_377 : decode code 377 = .ok (.aload_n 1, 1) := by decide +kernel
theorem dL_law_378 : decode code 378 = .ok (.aload_n 0, 1) := by decide +kernel
theorem dL_law_379 : decode code 379 = .ok (.iload_n 3, 1) := by decide +kernel
theorem dL_law_380 : decode code 380 = .ok (.iconst 1, 1) := by decide +kernel
theorem dL_law_381 : decode code 381 = .ok (.iadd, 1) := by decide +kernel
theorem dL_law_382 : decode code 382 = .ok (.iaload, 1) := by decide +kernel
theorem dL_law_383 : decode code 383 = .ok (.invokevirtual 71, 3) := by decide +kernel
theorem dL_law_386 : decode code 386 = .ok (.aload_n 2, 1) := by decide +kernel
theorem dL_law_387 : decode code 387 = .ok (.aload_n 0, 1) := by decide +kernel
theorem dL_law_388 : decode code 388 = .ok (.iload_n 3, 1) := by decide +kernel
theorem dL_law_389 : decode code 389 = .ok (.iconst 1, 1) := by decide +kernel
theorem dL_law_390 : decode code 390 = .ok (.iadd, 1) := by decide +kernel
theorem dL_law_391 : decode code 391 = .ok (.iaload, 1) := by decide +kernel
theorem dL_law_392 : decode code 392 = .ok (.invokevirtual 74, 3) := by decide +kernel
theorem dL_law_395 : decode code 395 = .ok (.if_icmp .eq 18, 3) := by decide +kernel
theorem dL_law_398 : decode code 398 = .ok (.iconst 0, 1) := by decide +kernel
theorem dL_law_399 : decode code 399 = .ok (.ireturn, 1) := by decide +kernel
theorem dL_law_400 : decode code 400 = .ok (.aload_n 1, 1) := by decide +kernel
theorem dL_law_401 : decode code 401 = .ok (.invokevirtual 75, 3) := by decide +kernel
theorem dL_law_404 : decode code 404 = .ok (.aload_n 2, 1) := by decide +kernel
theorem dL_law_405 : decode code 405 = .ok (.invokevirtual 78, 3) := by decide +kernel
theorem dL_law_408 : decode code 408 = .ok (.if_icmp .eq 5, 3) := by decide +kernel
theorem dL_law_411 : decode code 411 = .ok (.iconst 0, 1) := by decide +kernel
theorem dL_law_412 : decode code 412 = .ok (.ireturn, 1) := by decide +kernel
theorem dL_law_413 : decode code 413 = .ok (.iinc 3 4, 3) := by decide +kernel
theorem dL_law_416 : decode code 416 = .ok (.goto (-398), 3) := by decide +kernel
theorem dL_law_419 : decode code 419 = .ok (.iconst 1, 1) := by decide +kernel
theorem dL_law_420 : decode code 420 = .ok (.ireturn, 1) := by decide +kernel
