theorem dX12_shaBlock_90 : decode cX12_shaBlock 90 = .ok (.lxor, 1) := by decide +kernel
theorem dX12_shaBlock_91 : decode cX12_shaBlock 91 = .ok (.lload 5, 2) := by decide +kernel
theorem dX12_shaBlock_93 : decode cX12_shaBlock 93 = .ok (.bipush 7, 2) := by decide +kernel
theorem dX12_shaBlock_95 : decode cX12_shaBlock 95 = .ok (.lushr, 1) := by decide +kernel
theorem dX12_shaBlock_96 : decode cX12_shaBlock 96 = .ok (.lxor, 1) := by decide +kernel
theorem dX12_shaBlock_97 : decode cX12_shaBlock 97 = .ok (.lload 7, 2) := by decide +kernel
theorem dX12_shaBlock_99 : decode cX12_shaBlock 99 = .ok (.bipush 19, 2) := by decide +kernel
theorem dX12_shaBlock_101 : decode cX12_shaBlock 101 = .ok (.invokestatic 253, 3) := by decide +kernel
theorem dX12_shaBlock_104 : decode cX12_shaBlock 104 = .ok (.lload 7, 2) := by decide +kernel
theorem dX12_shaBlock_106 : decode cX12_shaBlock 106 = .ok (.bipush 61, 2) := by decide +kernel
theorem dX12_shaBlock_108 : decode cX12_shaBlock 108 = .ok (.invokestatic 253, 3) := by decide +kernel
theorem dX12_shaBlock_111 : decode cX12_shaBlock 111 = .ok (.lxor, 1) := by decide +kernel
theorem dX12_shaBlock_112 : decode cX12_shaBlock 112 = .ok (.lload 7, 2) := by decide +kernel
theorem dX12_shaBlock_114 : decode cX12_shaBlock 114 = .ok (.bipush 6, 2) := by decide +kernel
theorem dX12_shaBlock_116 : decode cX12_shaBlock 116 = .ok (.lushr, 1) := by decide +kernel
theorem dX12_shaBlock_117 : decode cX12_shaBlock 117 = .ok (.lxor, 1) := by decide +kernel
theorem dX12_shaBlock_118 : decode cX12_shaBlock 118 = .ok (.ladd, 1) := by decide +kernel
theorem dX12_shaBlock_119 : decode cX12_shaBlock 119 = .ok (.aload_n 0, 1) := by decide +kernel
theorem dX12_shaBlock_120 : decode cX12_shaBlock 120 = .ok (.getfield 78, 3) := by decide +kernel
theorem dX12_shaBlock_123 : decode cX12_shaBlock 123 = .ok (.iload_n 2, 1) := by decide +kernel
theorem dX12_shaBlock_124 : decode cX12_shaBlock 124 = .ok (.bipush 7, 2) := by decide +kernel
theorem dX12_shaBlock_126 : decode cX12_shaBlock 126 = .ok (.isub, 1) := by decide +kernel
theorem dX12_shaBlock_127 : decode cX12_shaBlock 127 = .ok (.laload, 1) := by decide +kernel
theorem dX12_shaBlock_128 : decode cX12_shaBlock 128 = .ok (.ladd, 1) := by decide +kernel
theorem dX12_shaBlock_129 : decode cX12_shaBlock 129 = .ok (.aload_n 0, 1) := by decide +kernel
theorem dX12_shaBlock_130 : decode cX12_shaBlock 130 = .ok (.getfield 78, 3) := by decide +kernel
theorem dX12_shaBlock_133 : decode cX12_shaBlock 133 = .ok (.iload_n 2, 1) := by decide +kernel
theorem dX12_shaBlock_134 : decode cX12_shaBlock 134 = .ok (.bipush 16, 2) := by decide +kernel
theorem dX12_shaBlock_136 : decode cX12_shaBlock 136 = .ok (.isub, 1) := by decide +kernel
theorem dX12_shaBlock_137 : decode cX12_shaBlock 137 = .ok (.laload, 1) := by decide +kernel
theorem dX12_shaBlock_138 : decode cX12_shaBlock 138 = .ok (.ladd, 1) := by decide +kernel
theorem dX12_shaBlock_139 : decode cX12_shaBlock 139 = .ok (.lstore_n 3, 1) := by decide +kernel
theorem dX12_shaBlock_140 : decode cX12_shaBlock 140 = .ok (.aload_n 0, 1) := by decide +kernel
theorem dX12_shaBlock_141 : decode cX12_shaBlock 141 = .ok (.getfield 78, 3) := by decide +kernel
theorem dX12_shaBlock_144 : decode cX12_shaBlock 144 = .ok (.iload_n 2, 1) := by decide +kernel
theorem dX12_shaBlock_145 : decode cX12_shaBlock 145 = .ok (.lload_n 3, 1) := by decide +kernel
theorem dX12_shaBlock_146 : decode cX12_shaBlock 146 = .ok (.lastore, 1) := by decide +kernel
theorem dX12_shaBlock_147 : decode cX12_shaBlock 147 = .ok (.iinc 2 1, 3) := by decide +kernel
theorem dX12_shaBlock_150 : decode cX12_shaBlock 150 = .ok (.goto (-148), 3) := by decide +kernel
theorem dX12_shaBlock_153 : decode cX12_shaBlock 153 = .ok (.aload_n 0, 1) := by decide +kernel
theorem dX12_shaBlock_154 : decode cX12_shaBlock 154 = .ok (.getfield 69, 3) := by decide +kernel
theorem dX12_shaBlock_157 : decode cX12_shaBlock 157 = .ok (.iconst 0, 1) := by decide +kernel
theorem dX12_shaBlock_158 : decode cX12_shaBlock 158 = .ok (.laload, 1) := by decide +kernel
theorem dX12_shaBlock_159 : decode cX12_shaBlock 159 = .ok (.lstore_n 2, 1) := by decide +kernel
theorem dX12_shaBlock_160 : decode cX12_shaBlock 160 = .ok (.aload_n 0, 1) := by decide +kernel
theorem dX12_shaBlock_161 : decode cX12_shaBlock 161 = .ok (.getfield 69, 3) := by decide +kernel
theorem dX12_shaBlock_164 : decode cX12_shaBlock 164 = .ok (.iconst 1, 1) := by decide +kernel
theorem dX12_shaBlock_165 : decode cX12_shaBlock 165 = .ok (.laload, 1) := by decide +kernel
theorem dX12_shaBlock_166 : decode cX12_shaBlock 166 = .ok (.lstore 4, 2) := by decide +kernel
theorem dX12_shaBlock_168 : decode cX12_shaBlock 168 = .ok (.aload_n 0, 1) := by decide +kernel
theorem dX12_shaBlock_169 : decode cX12_shaBlock 169 = .ok (.getfield 69, 3) := by decide +kernel
theorem dX12_shaBlock_172 : decode cX12_shaBlock 172 = .ok (.iconst 2, 1) := by decide +kernel
theorem dX12_shaBlock_173 : decode cX12_shaBlock 173 = .ok (.laload, 1) := by decide +kernel
theorem dX12_shaBlock_174 : decode cX12_shaBlock 174 = .ok (.lstore 6, 2) := by decide +kernel
theorem dX12_shaBlock_176 : decode cX12_shaBlock 176 = .ok (.aload_n 0, 1) := by decide +kernel
theorem dX12_shaBlock_177 : decode cX12_shaBlock 177 = .ok (.getfield 69, 3) := by decide +kernel
theorem dX12_shaBlock_180 : decode cX12_shaBlock 180 = .ok (.iconst 3, 1) := by decide +kernel
theorem dX12_shaBlock_181 : decode cX12_shaBlock 181 = .ok (.laload, 1) := by decide +kernel
theorem dX12_shaBlock_182 : decode cX12_shaBlock 182 = .ok (.lstore 8, 2) := by decide +kernel
theorem dX12_shaBlock_184 : decode cX12_shaBlock 184 = .ok (.aload_n 0, 1) := by decide +kernel
theorem dX12_shaBlock_185 : decode cX12_shaBlock 185 = .ok (.getfield 69, 3) := by decide +kernel
theorem dX12_shaBlock_188 : decode cX12_shaBlock 188 = .ok (.iconst 4, 1) := by decide +kernel
theorem dX12_shaBlock_189 : decode cX12_shaBlock 189 = .ok (.laload, 1) := by decide +kernel
theorem dX12_shaBlock_190 : decode cX12_shaBlock 190 = .ok (.lstore 10, 2) := by decide +kernel
theorem dX12_shaBlock_192 : decode cX12_shaBlock 192 = .ok (.aload_n 0, 1) := by decide +kernel
theorem dX12_shaBlock_193 : decode cX12_shaBlock 193 = .ok (.getfield 69, 3) := by decide +kernel
theorem dX12_shaBlock_196 : decode cX12_shaBlock 196 = .ok (.iconst 5, 1) := by decide +kernel
theorem dX12_shaBlock_197 : decode cX12_shaBlock 197 = .ok (.laload, 1) := by decide +kernel
theorem dX12_shaBlock_198 : decode cX12_shaBlock 198 = .ok (.lstore 12, 2) := by decide +kernel
theorem dX12_shaBlock_200 : decode cX12_shaBlock 200 = .ok (.aload_n 0, 1) := by decide +kernel
theorem dX12_shaBlock_201 : decode cX12_shaBlock 201 = .ok (.getfield 69, 3) := by decide +kernel
theorem dX12_shaBlock_204 : decode cX12_shaBlock 204 = .ok (.bipush 6, 2) := by decide +kernel
theorem dX12_shaBlock_206 : decode cX12_shaBlock 206 = .ok (.laload, 1) := by decide +kernel
theorem dX12_shaBlock_207 : decode cX12_shaBlock 207 = .ok (.lstore 14, 2) := by decide +kernel
theorem dX12_shaBlock_209 : decode cX12_shaBlock 209 = .ok (.aload_n 0, 1) := by decide +kernel
theorem dX12_shaBlock_210 : decode cX12_shaBlock 210 = .ok (.getfield 69, 3) := by decide +kernel
theorem dX12_shaBlock_213 : decode cX12_shaBlock 213 = .ok (.bipush 7, 2) := by decide +kernel
theorem dX12_shaBlock_215 : decode cX12_shaBlock 215 = .ok (.laload, 1) := by decide +kernel
theorem dX12_shaBlock_216 : decode cX12_shaBlock 216 = .ok (.lstore 16, 2) := by decide +kernel
theorem dX12_shaBlock_218 : decode cX12_shaBlock 218 = .ok (.iconst 0, 1) := by decide +kernel
theorem dX12_shaBlock_219 : decode cX12_shaBlock 219 = .ok (.istore 18, 2) := by decide +kernel
theorem dX12_shaBlock_221 : decode cX12_shaBlock 221 = .ok (.iload 18, 2) := by decide +kernel
theorem dX12_shaBlock_223 : decode cX12_shaBlock 223 = .ok (.bipush 80, 2) := by decide +kernel
theorem dX12_shaBlock_225 : decode cX12_shaBlock 225 = .ok (.if_icmp .ge 143, 3) := by decide +kernel
theorem dX12_shaBlock_228 : decode cX12_shaBlock 228 = .ok (.lload 16, 2) := by decide +kernel
theorem dX12_shaBlock_230 : decode cX12_shaBlock 230 = .ok (.lload 10, 2) := by decide +kernel
theorem dX12_shaBlock_232 : decode cX12_shaBlock 232 = .ok (.bipush 14, 2) := by decide +kernel
theorem dX12_shaBlock_234 : decode cX12_shaBlock 234 = .ok (.invokestatic 253, 3) := by decide +kernel
theorem dX12_shaBlock_237 : decode cX12_shaBlock 237 = .ok (.lload 10, 2) := by decide +kernel
theorem dX12_shaBlock_239 : decode cX12_shaBlock 239 = .ok (.bipush 18, 2) := by decide +kernel
theorem dX12_shaBlock_241 : decode cX12_shaBlock 241 = .ok (.invokestatic 253, 3) := by decide +kernel
theorem dX12_shaBlock_244 : decode cX12_shaBlock 244 = .ok (.lxor, 1) := by decide +kernel
theorem dX12_shaBlock_245 : decode cX12_shaBlock 245 = .ok (.lload 10, 2) := by decide +kernel
theorem dX12_shaBlock_247 : decode cX12_shaBlock 247 = .ok (.bipush 41, 2) := by decide +kernel
theorem dX12_shaBlock_249 : decode cX12_shaBlock 249 = .ok (.invokestatic 253, 3) := by decide +kernel
theorem dX12_shaBlock_252 : decode cX12_shaBlock 252 = .ok (.lxor, 1) := by decide +kernel
theorem dX12_shaBlock_253 : decode cX12_shaBlock 253 = .ok (.ladd, 1) := by decide +kernel
theorem dX12_shaBlock_254 : decode cX12_shaBlock 254 = .ok (.lload 10, 2) := by decide +kernel
theorem dX12_shaBlock_256 : decode cX12_shaBlock 256 = .ok (.lload 12, 2) := by decide +kernel
theorem dX12_shaBlock_258 : decode cX12_shaBlock 258 = .ok (.land, 1) := by decide +kernel
theorem dX12_shaBlock_259 : decode cX12_shaBlock 259 = .ok (.lload 10, 2) := by decide +kernel
theorem dX12_shaBlock_261 : decode cX12_shaBlock 261 = .ok (.ldc2_w 257, 3) := by decide +kernel
theorem dX12_shaBlock_264 : decode cX12_shaBlock 264 = .ok (.lxor, 1) := by decide +kernel
theorem dX12_shaBlock_265 : decode cX12_shaBlock 265 = .ok (.lload 14, 2) := by decide +kernel
theorem dX12_shaBlock_267 : decode cX12_shaBlock 267 = .ok (.land, 1) := by decide +kernel
theorem dX12_shaBlock_268 : decode cX12_shaBlock 268 = .ok (.lxor, 1) := by decide +kernel
theorem dX12_shaBlock_269 : decode cX12_shaBlock 269 = .ok (.ladd, 1) := by decide +kernel
theorem dX12_shaBlock_270 : decode cX12_shaBlock 270 = .ok (.aload_n 0, 1) := by decide +kernel
theorem dX12_shaBlock_271 : decode cX12_shaBlock 271 = .ok (.getfield 75, 3) := by decide +kernel
theorem dX12_shaBlock_274 : decode cX12_shaBlock 274 = .ok (.iload 18, 2) := by decide +kernel
theorem dX12_shaBlock_276 : decode cX12_shaBlock 276 = .ok (.laload, 1) := by decide +kernel
theorem dX12_shaBlock_277 : decode cX12_shaBlock 277 = .ok (.ladd, 1) := by decide +kernel
theorem dX12_shaBlock_278 : decode cX12_shaBlock 278 = .ok (.aload_n 0, 1) := by decide +kernel
theorem dX12_shaBlock_279 : decode cX12_shaBlock 279 = .ok (.getfield 78, 3) := by decide +kernel
theorem dX12_shaBlock_282 : decode cX12_shaBlock 282 = .ok (.iload 18, 2) := by decide +kernel
theorem dX12_shaBlock_284 : decode cX12_shaBlock 284 = .ok (.laload, 1) := by decide +kernel
theorem dX12_shaBlock_285 : decode cX12_shaBlock 285 = .ok (.ladd, 1) := by decide +kernel
theorem dX12_shaBlock_286 : decode cX12_shaBlock 286 = .ok (.lstore 19, 2) := by decide +kernel
theorem dX12_shaBlock_288 : decode cX12_shaBlock 288 = .ok (.lload_n 2, 1) := by decide +kernel
theorem dX12_shaBlock_289 : decode cX12_shaBlock 289 = .ok (.bipush 28, 2) := by decide +kernel
theorem dX12_shaBlock_291 : decode cX12_shaBlock 291 = .ok (.invokestatic 253, 3) := by decide +kernel
theorem dX12_shaBlock_294 : decode cX12_shaBlock 294 = .ok (.lload_n 2, 1) := by decide +kernel
theorem dX12_shaBlock_295 : decode cX12_shaBlock 295 = .ok (.bipush 34, 2) := by decide +kernel
theorem dX12_shaBlock_297 : decode cX12_shaBlock 297 = .ok (.invokestatic 253, 3) := by decide +kernel
theorem dX12_shaBlock_300 : decode cX12_shaBlock 300 = .ok (.lxor, 1) := by decide +kernel
theorem dX12_shaBlock_301 : decode cX12_shaBlock 301 = .ok (.lload_n 2, 1) := by decide +kernel
theorem dX12_shaBlock_302 : decode cX12_shaBlock 302 = .ok (.bipush 39, 2) := by decide +kernel
theorem dX12_shaBlock_304 : decode cX12_shaBlock 304 = .ok (.invokestatic 253, 3) := by decide +kernel
theorem dX12_shaBlock_307 : decode cX12_shaBlock 307 = .ok (.lxor, 1) := by decide +kernel
theorem dX12_shaBlock_308 : decode cX12_shaBlock 308 = .ok (.lload_n 2, 1) := by decide +kernel
theorem dX12_shaBlock_309 : decode cX12_shaBlock 309 = .ok (.lload 4, 2) := by decide +kernel
theorem dX12_shaBlock_311 : decode cX12_shaBlock 311 = .ok (.land, 1) := by decide +kernel
theorem dX12_shaBlock_312 : decode cX12_shaBlock 312 = .ok (.lload_n 2, 1) := by decide +kernel
theorem dX12_shaBlock_313 : decode cX12_shaBlock 313 = .ok (.lload 6, 2) := by decide +kernel
theorem dX12_shaBlock_315 : decode cX12_shaBlock 315 = .ok (.land, 1) := by decide +kernel
theorem dX12_shaBlock_316 : decode cX12_shaBlock 316 = .ok (.lxor, 1) := by decide +kernel
theorem dX12_shaBlock_317 : decode cX12_shaBlock 317 = .ok (.lload 4, 2) := by decide +kernel
theorem dX12_shaBlock_319 : decode cX12_shaBlock 319 = .ok (.lload 6, 2) := by decide +kernel
theorem dX12_shaBlock_321 : decode cX12_shaBlock 321 = .ok (.land, 1) := by decide +kernel
theorem dX12_shaBlock_322 : decode cX12_shaBlock 322 = .ok (.lxor, 1) := by decide +kernel
theorem dX12_shaBlock_323 : decode cX12_shaBlock 323 = .ok (.ladd, 1) := by decide +kernel
theorem dX12_shaBlock_324 : decode cX12_shaBlock 324 = .ok (.lstore 21, 2) := by decide +kernel
theorem dX12_shaBlock_326 : decode cX12_shaBlock 326 = .ok (.lload 14, 2) := by decide +kernel
theorem dX12_shaBlock_328 : decode cX12_shaBlock 328 = .ok (.lstore 16, 2) := by decide +kernel
theorem dX12_shaBlock_330 : decode cX12_shaBlock 330 = .ok (.lload 12, 2) := by decide +kernel
theorem dX12_shaBlock_332 : decode cX12_shaBlock 332 = .ok (.lstore 14, 2) := by decide +kernel
theorem dX12_shaBlock_334 : decode cX12_shaBlock 334 = .ok (.lload 10, 2) := by decide +kernel
theorem dX12_shaBlock_336 : decode cX12_shaBlock 336 = .ok (.lstore 12, 2) := by decide +kernel
theorem dX12_shaBlock_338 : decode cX12_shaBlock 338 = .ok (.lload 8, 2) := by decide +kernel
theorem dX12_shaBlock_340 : decode cX12_shaBlock 340 = .ok (.lload 19, 2) := by decide +kernel
theorem dX12_shaBlock_342 : decode cX12_shaBlock 342 = .ok (.ladd, 1) := by decide +kernel
theorem dX12_shaBlock_343 : decode cX12_shaBlock 343 = .ok (.lstore 10, 2) := by decide +kernel
theorem dX12_shaBlock_345 : decode cX12_shaBlock 345 = .ok (.lload 6, 2) := by decide +kernel
theorem dX12_shaBlock_347 : decode cX12_shaBlock 347 = .ok (.lstore 8, 2) := by decide +kernel
theorem dX12_shaBlock_349 : decode cX12_shaBlock 349 = .ok (.lload 4, 2) := by decide +kernel
theorem dX12_shaBlock_351 : decode cX12_shaBlock 351 = .ok (.lstore 6, 2) := by decide +kernel
theorem dX12_shaBlock_353 : decode cX12_shaBlock 353 = .ok (.lload_n 2, 1) := by decide +kernel
theorem dX12_shaBlock_354 : decode cX12_shaBlock 354 = .ok (.lstore 4, 2) := by decide +kernel
theorem dX12_shaBlock_356 : decode cX12_shaBlock 356 = .ok (.lload 19, 2) := by decide +kernel
theorem dX12_shaBlock_358 : decode cX12_shaBlock 358 = .ok (.lload 21, 2) := by decide +kernel
theorem dX12_shaBlock_360 : decode cX12_shaBlock 360 = .ok (.ladd, 1) := by decide +kernel
theorem dX12_shaBlock_361 : decode cX12_shaBlock 361 = .ok (.lstore_n 2, 1) := by decide +kernel
theorem dX12_shaBlock_362 : decode cX12_shaBlock 362 = .ok (.iinc 18 1, 3) := by decide +kernel
theorem dX12_shaBlock_365 : decode cX12_shaBlock 365 = .ok (.goto (-144), 3) := by decide +kernel
theorem dX12_shaBlock_368 : decode cX12_shaBlock 368 = .ok (.aload_n 0, 1) := by decide +kernel
theorem dX12_shaBlock_369 : decode cX12_shaBlock 369 = .ok (.getfield 69, 3) := by decide +kernel
theorem dX12_shaBlock_372 : decode cX12_shaBlock 372 = .ok (.iconst 0, 1) := by decide +kernel
theorem dX12_shaBlock_373 : decode cX12_shaBlock 373 = .ok (.dup2, 1) := by decide +kernel
theorem dX12_shaBlock_374 : decode cX12_shaBlock 374 = .ok (.laload, 1) := by decide +kernel
theorem dX12_shaBlock_375 : decode cX12_shaBlock 375 = .ok (.lload_n 2, 1) := by decide +kernel
theorem dX12_shaBlock_376 : decode cX12_shaBlock 376 = .ok (.ladd, 1) := by decide +kernel
theorem dX12_shaBlock_377 : decode cX12_shaBlock 377 = .ok (.lastore, 1) := by decide +kernel
theorem dX12_shaBlock_378 : decode cX12_shaBlock 378 = .ok (.aload_n 0, 1) := by decide +kernel
theorem dX12_shaBlock_379 : decode cX12_shaBlock 379 = .ok (.getfield 69, 3) := by decide +kernel
theorem dX12_shaBlock_382 : decode cX12_shaBlock 382 = .ok (.iconst 1, 1) := by decide +kernel
theorem dX12_shaBlock_383 : decode cX12_shaBlock 383 = .ok (.dup2, 1) := by decide +kernel
theorem dX12_shaBlock_384 : decode cX12_shaBlock 384 = .ok (.laload, 1) := by decide +kernel
theorem dX12_shaBlock_385 : decode cX12_shaBlock 385 = .ok (.lload 4, 2) := by decide +kernel
theorem dX12_shaBlock_387 : decode cX12_shaBlock 387 = .ok (.ladd, 1) := by decide +kernel
theorem dX12_shaBlock_388 : decode cX12_shaBlock 388 = .ok (.lastore, 1) := by decide +kernel
theorem dX12_shaBlock_389 : decode cX12_shaBlock 389 = .ok (.aload_n 0, 1) := by decide +kernel
theorem dX12_shaBlock_390 : decode cX12_shaBlock 390 = .ok (.getfield 69, 3) := by decide +kernel
theorem dX12_shaBlock_393 : decode cX12_shaBlock 393 = .ok (.iconst 2, 1) := by decide +kernel
theorem dX12_shaBlock_394 : decode cX12_shaBlock 394 = .ok (.dup2, 1) := by decide +kernel
theorem dX12_shaBlock_395 : decode cX12_shaBlock 395 = .ok (.laload, 1) := by decide +kernel
theorem dX12_shaBlock_396 : decode cX12_shaBlock 396 = .ok (.lload 6, 2) := by decide +kernel
theorem dX12_shaBlock_398 : decode cX12_shaBlock 398 = .ok (.ladd, 1) := by decide +kernel
theorem dX12_shaBlock_399 : decode cX12_shaBlock 399 = .ok (.lastore, 1) := by decide +kernel
theorem dX12_shaBlock_400 : decode cX12_shaBlock 400 = .ok (.aload_n 0, 1) := by decide +kernel
theorem dX12_shaBlock_401 : decode cX12_shaBlock 401 = .ok (.getfield 69, 3) := by decide +kernel
theorem dX12_shaBlock_404 : decode cX12_shaBlock 404 = .ok (.iconst 3, 1) := by decide +kernel
theorem dX12_shaBlock_405 : decode cX12_shaBlock 405 = .ok (.dup2, 1) := by decide +kernel
theorem dX12_shaBlock_406 : decode cX12_shaBlock 406 = .ok (.laload, 1) := by decide +kernel
theorem dX12_shaBlock_407 : decode cX12_shaBlock 407 = .ok (.lload 8, 2) := by decide +kernel
theorem dX12_shaBlock_409 : decode cX12_shaBlock 409 = .ok (.ladd, 1) := by decide +kernel
theorem dX12_shaBlock_410 : decode cX12_shaBlock 410 = .ok (.lastore, 1) := by decide +kernel
theorem dX12_shaBlock_411 : decode cX12_shaBlock 411 = .ok (.aload_n 0, 1) := by decide +kernel
theorem dX12_shaBlock_412 : decode cX12_shaBlock 412 = .ok (.getfield 69, 3) := by decide +kernel
theorem dX12_shaBlock_415 : decode cX12_shaBlock 415 = .ok (.iconst 4, 1) := by decide +kernel
theorem dX12_shaBlock_416 : decode cX12_shaBlock 416 = .ok (.dup2, 1) := by decide +kernel
theorem dX12_shaBlock_417 : decode cX12_shaBlock 417 = .ok (.laload, 1) := by decide +kernel
theorem dX12_shaBlock_418 : decode cX12_shaBlock 418 = .ok (.lload 10, 2) := by decide +kernel
theorem dX12_shaBlock_420 : decode cX12_shaBlock 420 = .ok (.ladd, 1) := by decide +kernel
theorem dX12_shaBlock_421 : decode cX12_shaBlock 421 = .ok (.lastore, 1) := by decide +kernel
theorem dX12_shaBlock_422 : decode cX12_shaBlock 422 = .ok (.aload_n 0, 1) := by decide +kernel
theorem dX12_shaBlock_423 : decode cX12_shaBlock 423 = .ok (.getfield 69, 3) := by decide +kernel
theorem dX12_shaBlock_426 : decode cX12_shaBlock 426 = .ok (.iconst 5, 1) := by decide +kernel
theorem dX12_shaBlock_427 : decode cX12_shaBlock 427 = .ok (.dup2, 1) := by decide +kernel
theorem dX12_shaBlock_428 : decode cX12_shaBlock 428 = .ok (.laload, 1) := by decide +kernel
theorem dX12_shaBlock_429 : decode cX12_shaBlock 429 = .ok (.lload 12, 2) := by decide +kernel
theorem dX12_shaBlock_431 : decode cX12_shaBlock 431 = .ok (.ladd, 1) := by decide +kernel
theorem dX12_shaBlock_432 : decode cX12_shaBlock 432 = .ok (.lastore, 1) := by decide +kernel
theorem dX12_shaBlock_433 : decode cX12_shaBlock 433 = .ok (.aload_n 0, 1) := by decide +kernel
theorem dX12_shaBlock_434 : decode cX12_shaBlock 434 = .ok (.getfield 69, 3) := by decide +kernel
theorem dX12_shaBlock_437 : decode cX12_shaBlock 437 = .ok (.bipush 6, 2) := by decide +kernel
theorem dX12_shaBlock_439 : decode cX12_shaBlock 439 = .ok (.dup2, 1) := by decide +kernel
theorem dX12_shaBlock_440 : decode cX12_shaBlock 440 = .ok (.laload, 1) := by decide +kernel
theorem dX12_shaBlock_441 : decode cX12_shaBlock 441 = .ok (.lload 14, 2) := by decide +kernel
theorem dX12_shaBlock_443 : decode cX12_shaBlock 443 = .ok (.ladd, 1) := by decide +kernel
theorem dX12_shaBlock_444 : decode cX12_shaBlock 444 = .ok (.lastore, 1) := by decide +kernel
theorem dX12_shaBlock_445 : decode cX12_shaBlock 445 = .ok (.aload_n 0, 1) := by decide +kernel
theorem dX12_shaBlock_446 : decode cX12_shaBlock 446 = .ok (.getfield 69, 3) := by decide +kernel
theorem dX12_shaBlock_449 : decode cX12_shaBlock 449 = .ok (.bipush 7, 2) := by decide +kernel
theorem dX12_shaBlock_451 : decode cX12_shaBlock 451 = .ok (.dup2, 1) := by decide +kernel
theorem dX12_shaBlock_452 : decode cX12_shaBlock 452 = .ok (.laload, 1) := by decide +kernel
theorem dX12_shaBlock_453 : decode cX12_shaBlock 453 = .ok (.lload 16, 2) := by decide +kernel
theorem dX12_shaBlock_455 : decode cX12_shaBlock 455 = .ok (.ladd, 1) := by decide +kernel
theorem dX12_shaBlock_456 : decode cX12_shaBlock 456 = .ok (.lastore, 1) := by decide +kernel
theorem dX12_shaBlock_457 : decode cX12_shaBlock 457 = .ok (.return_, 1) := by decide +kernel
theorem dX12_shake_0 : decode cX12_shake 0 = .ok (.aload_n 0, 1) := by decide +kernel
theorem dX12_shake_1 : decode cX12_shake 1 = .ok (.getfield 60, 3) := by decide +kernel
theorem dX12_shake_4 : decode cX12_shake 4 = .ok (.aload_n 0, 1) := by decide +kernel
theorem dX12_shake_5 : decode cX12_shake 5 = .ok (.getfield 63, 3) := by decide +kernel
theorem dX12_shake_8 : decode cX12_shake 8 = .ok (.bipush 31, 2) := by decide +kernel
theorem dX12_shake_10 : decode cX12_shake 10 = .ok (.iastore, 1) := by decide +kernel
theorem dX12_shake_11 : decode cX12_shake 11 = .ok (.aload_n 0, 1) := by decide +kernel
theorem dX12_shake_12 : decode cX12_shake 12 = .ok (.dup, 1) := by decide +kernel
theorem dX12_shake_13 : decode cX12_shake 13 = .ok (.getfield 63, 3) := by decide +kernel
theorem dX12_shake_16 : decode cX12_shake 16 = .ok (.iconst 1, 1) := by decide +kernel
theorem dX12_shake_17 : decode cX12_shake 17 = .ok (.iadd, 1) := by decide +kernel
theorem dX12_shake_18 : decode cX12_shake 18 = .ok (.putfield 63, 3) := by decide +kernel
theorem dX12_shake_21 : decode cX12_shake 21 = .ok (.aload_n 0, 1) := by decide +kernel
theorem dX12_shake_22 : decode cX12_shake 22 = .ok (.getfield 63, 3) := by decide +kernel
theorem dX12_shake_25 : decode cX12_shake 25 = .ok (.sipush 136, 3) := by decide +kernel
theorem dX12_shake_28 : decode cX12_shake 28 = .ok (.irem, 1) := by decide +kernel
theorem dX12_shake_29 : decode cX12_shake 29 = .ok (.ifCond .eq 26, 3) := by decide +kernel
theorem dX12_shake_32 : decode cX12_shake 32 = .ok (.aload_n 0, 1) := by decide +kernel
theorem dX12_shake_33 : decode cX12_shake 33 = .ok (.getfield 60, 3) := by decide +kernel
theorem dX12_shake_36 : decode cX12_shake 36 = .ok (.aload_n 0, 1) := by decide +kernel
theorem dX12_shake_37 : decode cX12_shake 37 = .ok (.getfield 63, 3) := by decide +kernel
theorem dX12_shake_40 : decode cX12_shake 40 = .ok (.iconst 0, 1) := by decide +kernel
theorem dX12_shake_41 : decode cX12_shake 41 = .ok (.iastore, 1) := by decide +kernel
theorem dX12_shake_42 : decode cX12_shake 42 = .ok (.aload_n 0, 1) := by decide +kernel
theorem dX12_shake_43 : decode cX12_shake 43 = .ok (.dup, 1) := by decide +kernel
theorem dX12_shake_44 : decode cX12_shake 44 = .ok (.getfield 63, 3) := by decide +kernel
theorem dX12_shake_47 : decode cX12_shake 47 = .ok (.iconst 1, 1) := by decide +kernel
theorem dX12_shake_48 : decode cX12_shake 48 = .ok (.iadd, 1) := by decide +kernel
theorem dX12_shake_49 : decode cX12_shake 49 = .ok (.putfield 63, 3) := by decide +kernel
theorem dX12_shake_52 : decode cX12_shake 52 = .ok (.goto (-31), 3) := by decide +kernel
theorem dX12_shake_55 : decode cX12_shake 55 = .ok (.aload_n 0, 1) := by decide +kernel
theorem dX12_shake_56 : decode cX12_shake 56 = .ok (.getfield 60, 3) := by decide +kernel
theorem dX12_shake_59 : decode cX12_shake 59 = .ok (.aload_n 0, 1) := by decide +kernel
theorem dX12_shake_60 : decode cX12_shake 60 = .ok (.getfield 63, 3) := by decide +kernel
theorem dX12_shake_63 : decode cX12_shake 63 = .ok (.iconst 1, 1) := by decide +kernel
theorem dX12_shake_64 : decode cX12_shake 64 = .ok (.isub, 1) := by decide +kernel
theorem dX12_shake_65 : decode cX12_shake 65 = .ok (.aload_n 0, 1) := by decide +kernel
theorem dX12_shake_66 : decode cX12_shake 66 = .ok (.getfield 60, 3) := by decide +kernel
theorem dX12_shake_69 : decode cX12_shake 69 = .ok (.aload_n 0, 1) := by decide +kernel
theorem dX12_shake_70 : decode cX12_shake 70 = .ok (.getfield 63, 3) := by decide +kernel
theorem dX12_shake_73 : decode cX12_shake 73 = .ok (.iconst 1, 1) := by decide +kernel
theorem dX12_shake_74 : decode cX12_shake 74 = .ok (.isub, 1) := by decide +kernel
theorem dX12_shake_75 : decode cX12_shake 75 = .ok (.iaload, 1) := by decide +kernel
theorem dX12_shake_76 : decode cX12_shake 76 = .ok (.sipush 128, 3) := by decide +kernel
theorem dX12_shake_79 : decode cX12_shake 79 = .ok (.ixor, 1) := by decide +kernel
theorem dX12_shake_80 : decode cX12_shake 80 = .ok (.iastore, 1) := by decide +kernel
theorem dX12_shake_81 : decode cX12_shake 81 = .ok (.iconst 0, 1) := by decide +kernel
theorem dX12_shake_82 : decode cX12_shake 82 = .ok (.istore_n 2, 1) := by decide +kernel
theorem dX12_shake_83 : decode cX12_shake 83 = .ok (.iload_n 2, 1) := by decide +kernel
theorem dX12_shake_84 : decode cX12_shake 84 = .ok (.bipush 25, 2) := by decide +kernel
theorem dX12_shake_86 : decode cX12_shake 86 = .ok (.if_icmp .ge 16, 3) := by decide +kernel
theorem dX12_shake_89 : decode cX12_shake 89 = .ok (.aload_n 0, 1) := by decide +kernel
theorem dX12_shake_90 : decode cX12_shake 90 = .ok (.getfield 81, 3) := by decide +kernel
theorem dX12_shake_93 : decode cX12_shake 93 = .ok (.iload_n 2, 1) := by decide +kernel
theorem dX12_shake_94 : decode cX12_shake 94 = .ok (.lconst 0, 1) := by decide +kernel
theorem dX12_shake_95 : decode cX12_shake 95 = .ok (.lastore, 1) := by decide +kernel
theorem dX12_shake_96 : decode cX12_shake 96 = .ok (.iinc 2 1, 3) := by decide +kernel
theorem dX12_shake_99 : decode cX12_shake 99 = .ok (.goto (-16), 3) := by decide +kernel
theorem dX12_shake_102 : decode cX12_shake 102 = .ok (.iconst 0, 1) := by decide +kernel
theorem dX12_shake_103 : decode cX12_shake 103 = .ok (.istore_n 2, 1) := by decide +kernel
theorem dX12_shake_104 : decode cX12_shake 104 = .ok (.iload_n 2, 1) := by decide +kernel
theorem dX12_shake_105 : decode cX12_shake 105 = .ok (.aload_n 0, 1) := by decide +kernel
theorem dX12_shake_106 : decode cX12_shake 106 = .ok (.getfield 63, 3) := by decide +kernel
theorem dX12_shake_109 : decode cX12_shake 109 = .ok (.if_icmp .ge 65, 3) := by decide +kernel
theorem dX12_shake_112 : decode cX12_shake 112 = .ok (.iconst 0, 1) := by decide +kernel
theorem dX12_shake_113 : decode cX12_shake 113 = .ok (.istore_n 3, 1) := by decide +kernel
theorem dX12_shake_114 : decode cX12_shake 114 = .ok (.iload_n 3, 1) := by decide +kernel
theorem dX12_shake_115 : decode cX12_shake 115 = .ok (.sipush 136, 3) := by decide +kernel
theorem dX12_shake_118 : decode cX12_shake 118 = .ok (.if_icmp .ge 43, 3) := by decide +kernel
theorem dX12_shake_121 : decode cX12_shake 121 = .ok (.aload_n 0, 1) := by decide +kernel
theorem dX12_shake_122 : decode cX12_shake 122 = .ok (.getfield 81, 3) := by decide +kernel
theorem dX12_shake_125 : decode cX12_shake 125 = .ok (.iload_n 3, 1) := by decide +kernel
theorem dX12_shake_126 : decode cX12_shake 126 = .ok (.iconst 3, 1) := by decide +kernel
theorem dX12_shake_127 : decode cX12_shake 127 = .ok (.ishr, 1) := by decide +kernel
theorem dX12_shake_128 : decode cX12_shake 128 = .ok (.aload_n 0, 1) := by decide +kernel
theorem dX12_shake_129 : decode cX12_shake 129 = .ok (.getfield 81, 3) := by decide +kernel
theorem dX12_shake_132 : decode cX12_shake 132 = .ok (.iload_n 3, 1) := by decide +kernel
theorem dX12_shake_133 : decode cX12_shake 133 = .ok (.iconst 3, 1) := by decide +kernel
theorem dX12_shake_134 : decode cX12_shake 134 = .ok (.ishr, 1) := by decide +kernel
theorem dX12_shake_135 : decode cX12_shake 135 = .ok (.laload, 1) := by decide +kernel
theorem dX12_shake_136 : decode cX12_shake 136 = .ok (.aload_n 0, 1) := by decide +kernel
theorem dX12_shake_137 : decode cX12_shake 137 = .ok (.getfield 60, 3) := by decide +kernel
theorem dX12_shake_140 : decode cX12_shake 140 = .ok (.iload_n 2, 1) := by decide +kernel
theorem dX12_shake_141 : decode cX12_shake 141 = .ok (.iload_n 3, 1) := by decide +kernel
theorem dX12_shake_142 : decode cX12_shake 142 = .ok (.iadd, 1) := by decide +kernel
theorem dX12_shake_143 : decode cX12_shake 143 = .ok (.iaload, 1) := by decide +kernel
theorem dX12_shake_144 : decode cX12_shake 144 = .ok (.i2l, 1) := by decide +kernel
theorem dX12_shake_145 : decode cX12_shake 145 = .ok (.bipush 8, 2) := by decide +kernel
theorem dX12_shake_147 : decode cX12_shake 147 = .ok (.iload_n 3, 1) := by decide +kernel
theorem dX12_shake_148 : decode cX12_shake 148 = .ok (.bipush 7, 2) := by decide +kernel
theorem dX12_shake_150 : decode cX12_shake 150 = .ok (.iand, 1) := by decide +kernel
theorem dX12_shake_151 : decode cX12_shake 151 = .ok (.imul, 1) := by decide +kernel
theorem dX12_shake_152 : decode cX12_shake 152 = .ok (.lshl, 1) := by decide +kernel
theorem dX12_shake_153 : decode cX12_shake 153 = .ok (.lxor, 1) := by decide +kernel
theorem dX12_shake_154 : decode cX12_shake 154 = .ok (.lastore, 1) := by decide +kernel
theorem dX12_shake_155 : decode cX12_shake 155 = .ok (.iinc 3 1, 3) := by decide +kernel
theorem dX12_shake_158 : decode cX12_shake 158 = .ok (.goto (-44), 3) := by decide +kernel
theorem dX12_shake_161 : decode cX12_shake 161 = .ok (.aload_n 0, 1) := by decide +kernel
theorem dX12_shake_162 : decode cX12_shake 162 = .ok (.invokevirtual 259, 3) := by decide +kernel
theorem dX12_shake_165 : decode cX12_shake 165 = .ok (.iinc 2 136, 6) := by decide +kernel
theorem dX12_shake_171 : decode cX12_shake 171 = .ok (.goto (-67), 3) := by decide +kernel
theorem dX12_shake_174 : decode cX12_shake 174 = .ok (.iconst 0, 1) := by decide +kernel
theorem dX12_shake_175 : decode cX12_shake 175 = .ok (.istore_n 2, 1) := by decide +kernel
theorem dX12_shake_176 : decode cX12_shake 176 = .ok (.iload_n 2, 1) := by decide +kernel
theorem dX12_shake_177 : decode cX12_shake 177 = .ok (.iload_n 1, 1) := by decide +kernel
theorem dX12_shake_178 : decode cX12_shake 178 = .ok (.if_icmp .ge 36, 3) := by decide +kernel
theorem dX12_shake_181 : decode cX12_shake 181 = .ok (.aload_n 0, 1) := by decide +kernel
theorem dX12_shake_182 : decode cX12_shake 182 = .ok (.getfield 66, 3) := by decide +kernel
theorem dX12_shake_185 : decode cX12_shake 185 = .ok (.iload_n 2, 1) := by decide +kernel
theorem dX12_shake_186 : decode cX12_shake 186 = .ok (.aload_n 0, 1) := by decide +kernel
theorem dX12_shake_187 : decode cX12_shake 187 = .ok (.getfield 81, 3) := by decide +kernel
theorem dX12_shake_190 : decode cX12_shake 190 = .ok (.iload_n 2, 1) := by decide +kernel
theorem dX12_shake_191 : decode cX12_shake 191 = .ok (.iconst 3, 1) := by decide +kernel
theorem dX12_shake_192 : decode cX12_shake 192 = .ok (.ishr, 1) := by decide +kernel
theorem dX12_shake_193 : decode cX12_shake 193 = .ok (.laload, 1) := by decide +kernel
theorem dX12_shake_194 : decode cX12_shake 194 = .ok (.bipush 8, 2) := by decide +kernel
theorem dX12_shake_196 : decode cX12_shake 196 = .ok (.iload_n 2, 1) := by decide +kernel
theorem dX12_shake_197 : decode cX12_shake 197 = .ok (.bipush 7, 2) := by decide +kernel
theorem dX12_shake_199 : decode cX12_shake 199 = .ok (.iand, 1) := by decide +kernel
theorem dX12_shake_200 : decode cX12_shake 200 = .ok (.imul, 1) := by decide +kernel
theorem dX12_shake_201 : decode cX12_shake 201 = .ok (.lshr, 1) := by decide +kernel
theorem dX12_shake_202 : decode cX12_shake 202 = .ok (.l2i, 1) := by decide +kernel
theorem dX12_shake_203 : decode cX12_shake 203 = .ok (.sipush 255, 3) := by decide +kernel
theorem dX12_shake_206 : decode cX12_shake 206 = .ok (.iand, 1) := by decide +kernel
theorem dX12_shake_207 : decode cX12_shake 207 = .ok (.iastore, 1) := by decide +kernel
theorem dX12_shake_208 : decode cX12_shake 208 = .ok (.iinc 2 1, 3) := by decide +kernel
theorem dX12_shake_211 : decode cX12_shake 211 = .ok (.goto (-35), 3) := by decide +kernel
theorem dX12_shake_214 : decode cX12_shake 214 = .ok (.return_, 1) := by decide +kernel
theorem dX12_permute_0 : decode cX12_permute 0 = .ok (.iconst 1, 1) := by decide +kernel
theorem dX12_permute_1 : decode cX12_permute 1 = .ok (.istore_n 1, 1) := by decide +kernel
theorem dX12_permute_2 : decode cX12_permute 2 = .ok (.iconst 0, 1) := by decide +kernel
theorem dX12_permute_3 : decode cX12_permute 3 = .ok (.istore_n 2, 1) := by decide +kernel
theorem dX12_permute_4 : decode cX12_permute 4 = .ok (.iload_n 2, 1) := by decide +kernel
theorem dX12_permute_5 : decode cX12_permute 5 = .ok (.bipush 24, 2) := by decide +kernel
theorem dX12_permute_7 : decode cX12_permute 7 = .ok (.if_icmp .ge 403, 3) := by decide +kernel
theorem dX12_permute_10 : decode cX12_permute 10 = .ok (.iconst 0, 1) := by decide +kernel
theorem dX12_permute_11 : decode cX12_permute 11 = .ok (.istore_n 3, 1) := by decide +kernel
theorem dX12_permute_12 : decode cX12_permute 12 = .ok (.iload_n 3, 1) := by decide +kernel
theorem dX12_permute_13 : decode cX12_permute 13 = .ok (.iconst 5, 1) := by decide +kernel
theorem dX12_permute_14 : decode cX12_permute 14 = .ok (.if_icmp .ge 60, 3) := by decide +kernel
theorem dX12_permute_17 : decode cX12_permute 17 = .ok (.aload_n 0, 1) := by decide +kernel
theorem dX12_permute_18 : decode cX12_permute 18 = .ok (.getfield 87, 3) := by decide +kernel
theorem dX12_permute_21 : decode cX12_permute 21 = .ok (.iload_n 3, 1) := by decide +kernel
theorem dX12_permute_22 : decode cX12_permute 22 = .ok (.aload_n 0, 1) := by decide +kernel
theorem dX12_permute_23 : decode cX12_permute 23 = .ok (.getfield 81, 3) := by decide +kernel
theorem dX12_permute_26 : decode cX12_permute 26 = .ok (.iload_n 3, 1) := by decide +kernel
theorem dX12_permute_27 : decode cX12_permute 27 = .ok (.laload, 1) := by decide +kernel
theorem dX12_permute_28 : decode cX12_permute 28 = .ok (.aload_n 0, 1) := by decide +kernel
theorem dX12_permute_29 : decode cX12_permute 29 = .ok (.getfield 81, 3) := by decide +kernel
theorem dX12_permute_32 : decode cX12_permute 32 = .ok (.iload_n 3, 1) := by decide +kernel
theorem dX12_permute_33 : decode cX12_permute 33 = .ok (.iconst 5, 1) := by decide +kernel
theorem dX12_permute_34 : decode cX12_permute 34 = .ok (.iadd, 1) := by decide +kernel
theorem dX12_permute_35 : decode cX12_permute 35 = .ok (.laload, 1) := by decide +kernel
theorem dX12_permute_36 : decode cX12_permute 36 = .ok (.lxor, 1) := by decide +kernel
theorem dX12_permute_37 : decode cX12_permute 37 = .ok (.aload_n 0, 1) := by decide +kernel
theorem dX12_permute_38 : decode cX12_permute 38 = .ok (.getfield 81, 3) := by decide +kernel
theorem dX12_permute_41 : decode cX12_permute 41 = .ok (.iload_n 3, 1) := by decide +kernel
theorem dX12_permute_42 : decode cX12_permute 42 = .ok (.bipush 10, 2) := by decide +kernel
theorem dX12_permute_44 : decode cX12_permute 44 = .ok (.iadd, 1) := by decide +kernel
theorem dX12_permute_45 : decode cX12_permute 45 = .ok (.laload, 1) := by decide +kernel
theorem dX12_permute_46 : decode cX12_permute 46 = .ok (.lxor, 1) := by decide +kernel
theorem dX12_permute_47 : decode cX12_permute 47 = .ok (.aload_n 0, 1) := by decide +kernel
theorem dX12_permute_48 : decode cX12_permute 48 = .ok (.getfield 81, 3) := by decide +kernel
theorem dX12_permute_51 : decode cX12_permute 51 = .ok (.iload_n 3, 1) := by decide +kernel
theorem dX12_permute_52 : decode cX12_permute 52 = .ok (.bipush 15, 2) := by decide +kernel
theorem dX12_permute_54 : decode cX12_permute 54 = .ok (.iadd, 1) := by decide +kernel
theorem dX12_permute_55 : decode cX12_permute 55 = .ok (.laload, 1) := by decide +kernel
theorem dX12_permute_56 : decode cX12_permute 56 = .ok (.lxor, 1) := by decide +kernel
theorem dX12_permute_57 : decode cX12_permute 57 = .ok (.aload_n 0, 1) := by decide +kernel
theorem dX12_permute_58 : decode cX12_permute 58 = .ok (.getfield 81, 3) := by decide +kernel
theorem dX12_permute_61 : decode cX12_permute 61 = .ok (.iload_n 3, 1) := by decide +kernel
theorem dX12_permute_62 : decode cX12_permute 62 = .ok (.bipush 20, 2) := by decide +kernel
theorem dX12_permute_64 : decode cX12_permute 64 = .ok (.iadd, 1) := by decide +kernel
theorem dX12_permute_65 : decode cX12_permute 65 = .ok (.laload, 1) := by decide +kernel
theorem dX12_permute_66 : decode cX12_permute 66 = .ok (.lxor, 1) := by decide +kernel
theorem dX12_permute_67 : decode cX12_permute 67 = .ok (.lastore, 1) := by decide +kernel
theorem dX12_permute_68 : decode cX12_permute 68 = .ok (.iinc 3 1, 3) := by decide +kernel
theorem dX12_permute_71 : decode cX12_permute 71 = .ok (.goto (-59), 3) := by decide +kernel
theorem dX12_permute_74 : decode cX12_permute 74 = .ok (.iconst 0, 1) := by decide +kernel
theorem dX12_permute_75 : decode cX12_permute 75 = .ok (.istore_n 3, 1) := by decide +kernel
theorem dX12_permute_76 : decode cX12_permute 76 = .ok (.iload_n 3, 1) := by decide +kernel
theorem dX12_permute_77 : decode cX12_permute 77 = .ok (.bipush 25, 2) := by decide +kernel
theorem dX12_permute_79 : decode cX12_permute 79 = .ok (.if_icmp .ge 47, 3) := by decide +kernel
theorem dX12_permute_82 : decode cX12_permute 82 = .ok (.aload_n 0, 1) := by decide +kernel
theorem dX12_permute_83 : decode cX12_permute 83 = .ok (.getfield 81, 3) := by decide +kernel
theorem dX12_permute_86 : decode cX12_permute 86 = .ok (.iload_n 3, 1) := by decide +kernel
theorem dX12_permute_87 : decode cX12_permute 87 = .ok (.aload_n 0, 1) := by decide +kernel
theorem dX12_permute_88 : decode cX12_permute 88 = .ok (.getfield 81, 3) := by decide +kernel
theorem dX12_permute_91 : decode cX12_permute 91 = .ok (.iload_n 3, 1) := by decide +kernel
theorem dX12_permute_92 : decode cX12_permute 92 = .ok (.laload, 1) := by decide +kernel
theorem dX12_permute_93 : decode cX12_permute 93 = .ok (.aload_n 0, 1) := by decide +kernel
theorem dX12_permute_94 : decode cX12_permute 94 = .ok (.getfield 87, 3) := by decide +kernel
theorem dX12_permute_97 : decode cX12_permute 97 = .ok (.iload_n 3, 1) := by decide +kernel
theorem dX12_permute_98 : decode cX12_permute 98 = .ok (.iconst 4, 1) := by decide +kernel
theorem dX12_permute_99 : decode cX12_permute 99 = .ok (.iadd, 1) := by decide +kernel
theorem dX12_permute_100 : decode cX12_permute 100 = .ok (.iconst 5, 1) := by decide +kernel
theorem dX12_permute_101 : decode cX12_permute 101 = .ok (.irem, 1) := by decide +kernel
theorem dX12_permute_102 : decode cX12_permute 102 = .ok (.laload, 1) := by decide +kernel
theorem dX12_permute_103 : decode cX12_permute 103 = .ok (.lxor, 1) := by decide +kernel
theorem dX12_permute_104 : decode cX12_permute 104 = .ok (.aload_n 0, 1) := by decide +kernel
theorem dX12_permute_105 : decode cX12_permute 105 = .ok (.getfield 87, 3) := by decide +kernel
theorem dX12_permute_108 : decode cX12_permute 108 = .ok (.iload_n 3, 1) := by decide +kernel
theorem dX12_permute_109 : decode cX12_permute 109 = .ok (.iconst 1, 1) := by decide +kernel
theorem dX12_permute_110 : decode cX12_permute 110 = .ok (.iadd, 1) := by decide +kernel
theorem dX12_permute_111 : decode cX12_permute 111 = .ok (.iconst 5, 1) := by decide +kernel
theorem dX12_permute_112 : decode cX12_permute 112 = .ok (.irem, 1) := by decide +kernel
theorem dX12_permute_113 : decode cX12_permute 113 = .ok (.laload, 1) := by decide +kernel
theorem dX12_permute_114 : decode cX12_permute 114 = .ok (.iconst 1, 1) := by decide +kernel
theorem dX12_permute_115 : decode cX12_permute 115 = .ok (.invokestatic 262, 3) := by decide +kernel
theorem dX12_permute_118 : decode cX12_permute 118 = .ok (.lxor, 1) := by decide +kernel
theorem dX12_permute_119 : decode cX12_permute 119 = .ok (.lastore, 1) := by decide +kernel
theorem dX12_permute_120 : decode cX12_permute 120 = .ok (.iinc 3 1, 3) := by decide +kernel
theorem dX12_permute_123 : decode cX12_permute 123 = .ok (.goto (-47), 3) := by decide +kernel
theorem dX12_permute_126 : decode cX12_permute 126 = .ok (.iconst 0, 1) := by decide +kernel
theorem dX12_permute_127 : decode cX12_permute 127 = .ok (.istore_n 3, 1) := by decide +kernel
theorem dX12_permute_128 : decode cX12_permute 128 = .ok (.iload_n 3, 1) := by decide +kernel
theorem dX12_permute_129 : decode cX12_permute 129 = .ok (.bipush 25, 2) := by decide +kernel
theorem dX12_permute_131 : decode cX12_permute 131 = .ok (.if_icmp .ge 21, 3) := by decide +kernel
theorem dX12_permute_134 : decode cX12_permute 134 = .ok (.aload_n 0, 1) := by decide +kernel
theorem dX12_permute_135 : decode cX12_permute 135 = .ok (.getfield 84, 3) := by decide +kernel
theorem dX12_permute_138 : decode cX12_permute 138 = .ok (.iload_n 3, 1) := by decide +kernel
theorem dX12_permute_139 : decode cX12_permute 139 = .ok (.aload_n 0, 1) := by decide +kernel
theorem dX12_permute_140 : decode cX12_permute 140 = .ok (.getfield 81, 3) := by decide +kernel
theorem dX12_permute_143 : decode cX12_permute 143 = .ok (.iload_n 3, 1) := by decide +kernel
theorem dX12_permute_144 : decode cX12_permute 144 = .ok (.laload, 1) := by decide +kernel
theorem dX12_permute_145 : decode cX12_permute 145 = .ok (.lastore, 1) := by decide +kernel
theorem dX12_permute_146 : decode cX12_permute 146 = .ok (.iinc 3 1, 3) := by decide +kernel
theorem dX12_permute_149 : decode cX12_permute 149 = .ok (.goto (-21), 3) := by decide +kernel
theorem dX12_permute_152 : decode cX12_permute 152 = .ok (.iconst 1, 1) := by decide +kernel
theorem dX12_permute_153 : decode cX12_permute 153 = .ok (.istore_n 3, 1) := by decide +kernel
theorem dX12_permute_154 : decode cX12_permute 154 = .ok (.iconst 0, 1) := by decide +kernel
theorem dX12_permute_155 : decode cX12_permute 155 = .ok (.istore 4, 2) := by decide +kernel
theorem dX12_permute_157 : decode cX12_permute 157 = .ok (.aload_n 0, 1) := by decide +kernel
theorem dX12_permute_158 : decode cX12_permute 158 = .ok (.getfield 81, 3) := by decide +kernel
theorem dX12_permute_161 : decode cX12_permute 161 = .ok (.iconst 0, 1) := by decide +kernel
theorem dX12_permute_162 : decode cX12_permute 162 = .ok (.aload_n 0, 1) := by decide +kernel
theorem dX12_permute_163 : decode cX12_permute 163 = .ok (.getfield 84, 3) := by decide +kernel
theorem dX12_permute_166 : decode cX12_permute 166 = .ok (.iconst 0, 1) := by decide +kernel
theorem dX12_permute_167 : decode cX12_permute 167 = .ok (.laload, 1) := by decide +kernel
theorem dX12_permute_168 : decode cX12_permute 168 = .ok (.lastore, 1) := by decide +kernel
theorem dX12_permute_169 : decode cX12_permute 169 = .ok (.iconst 0, 1) := by decide +kernel
theorem dX12_permute_170 : decode cX12_permute 170 = .ok (.istore 5, 2) := by decide +kernel
theorem dX12_permute_172 : decode cX12_permute 172 = .ok (.iload 5, 2) := by decide +kernel
theorem dX12_permute_174 : decode cX12_permute 174 = .ok (.bipush 24, 2) := by decide +kernel
theorem dX12_permute_176 : decode cX12_permute 176 = .ok (.if_icmp .ge 68, 3) := by decide +kernel
theorem dX12_permute_179 : decode cX12_permute 179 = .ok (.iconst 2, 1) := by decide +kernel
theorem dX12_permute_180 : decode cX12_permute 180 = .ok (.iload_n 3, 1) := by decide +kernel
theorem dX12_permute_181 : decode cX12_permute 181 = .ok (.imul, 1) := by decide +kernel
theorem dX12_permute_182 : decode cX12_permute 182 = .ok (.iconst 3, 1) := by decide +kernel
theorem dX12_permute_183 : decode cX12_permute 183 = .ok (.iload 4, 2) := by decide +kernel
theorem dX12_permute_185 : decode cX12_permute 185 = .ok (.imul, 1) := by decide +kernel
theorem dX12_permute_186 : decode cX12_permute 186 = .ok (.iadd, 1) := by decide +kernel
theorem dX12_permute_187 : decode cX12_permute 187 = .ok (.iconst 5, 1) := by decide +kernel
theorem dX12_permute_188 : decode cX12_permute 188 = .ok (.irem, 1) := by decide +kernel
theorem dX12_permute_189 : decode cX12_permute 189 = .ok (.istore 6, 2) := by decide +kernel
theorem dX12_permute_191 : decode cX12_permute 191 = .ok (.aload_n 0, 1) := by decide +kernel
theorem dX12_permute_192 : decode cX12_permute 192 = .ok (.getfield 81, 3) := by decide +kernel
theorem dX12_permute_195 : decode cX12_permute 195 = .ok (.iload 4, 2) := by decide +kernel
theorem dX12_permute_197 : decode cX12_permute 197 = .ok (.iconst 5, 1) := by decide +kernel
theorem dX12_permute_198 : decode cX12_permute 198 = .ok (.iload 6, 2) := by decide +kernel
theorem dX12_permute_200 : decode cX12_permute 200 = .ok (.imul, 1) := by decide +kernel
theorem dX12_permute_201 : decode cX12_permute 201 = .ok (.iadd, 1) := by decide +kernel
theorem dX12_permute_202 : decode cX12_permute 202 = .ok (.aload_n 0, 1) := by decide +kernel
theorem dX12_permute_203 : decode cX12_permute 203 = .ok (.getfield 84, 3) := by decide +kernel
theorem dX12_permute_206 : decode cX12_permute 206 = .ok (.iload_n 3, 1) := by decide +kernel
theorem dX12_permute_207 : decode cX12_permute 207 = .ok (.iconst 5, 1) := by decide +kernel
theorem dX12_permute_208 : decode cX12_permute 208 = .ok (.iload 4, 2) := by decide +kernel
theorem dX12_permute_210 : decode cX12_permute 210 = .ok (.imul, 1) := by decide +kernel
theorem dX12_permute_211 : decode cX12_permute 211 = .ok (.iadd, 1) := by decide +kernel
theorem dX12_permute_212 : decode cX12_permute 212 = .ok (.laload, 1) := by decide +kernel
theorem dX12_permute_213 : decode cX12_permute 213 = .ok (.iload 5, 2) := by decide +kernel
theorem dX12_permute_215 : decode cX12_permute 215 = .ok (.iconst 1, 1) := by decide +kernel
theorem dX12_permute_216 : decode cX12_permute 216 = .ok (.iadd, 1) := by decide +kernel
theorem dX12_permute_217 : decode cX12_permute 217 = .ok (.iload 5, 2) := by decide +kernel
theorem dX12_permute_219 : decode cX12_permute 219 = .ok (.iconst 2, 1) := by decide +kernel
theorem dX12_permute_220 : decode cX12_permute 220 = .ok (.iadd, 1) := by decide +kernel
theorem dX12_permute_221 : decode cX12_permute 221 = .ok (.imul, 1) := by decide +kernel
theorem dX12_permute_222 : decode cX12_permute 222 = .ok (.iconst 2, 1) := by decide +kernel
theorem dX12_permute_223 : decode cX12_permute 223 = .ok (.idiv, 1) := by decide +kernel
theorem dX12_permute_224 : decode cX12_permute 224 = .ok (.bipush 64, 2) := by decide +kernel
theorem dX12_permute_226 : decode cX12_permute 226 = .ok (.irem, 1) := by decide +kernel
theorem dX12_permute_227 : decode cX12_permute 227 = .ok (.invokestatic 262, 3) := by decide +kernel
theorem dX12_permute_230 : decode cX12_permute 230 = .ok (.lastore, 1) := by decide +kernel
theorem dX12_permute_231 : decode cX12_permute 231 = .ok (.iload 4, 2) := by decide +kernel
theorem dX12_permute_233 : decode cX12_permute 233 = .ok (.istore_n 3, 1) := by decide +kernel
theorem dX12_permute_234 : decode cX12_permute 234 = .ok (.iload 6, 2) := by decide +kernel
theorem dX12_permute_236 : decode cX12_permute 236 = .ok (.istore 4, 2) := by decide +kernel
theorem dX12_permute_238 : decode cX12_permute 238 = .ok (.iinc 5 1, 3) := by decide +kernel
theorem dX12_permute_241 : decode cX12_permute 241 = .ok (.goto (-69), 3) := by decide +kernel
theorem dX12_permute_244 : decode cX12_permute 244 = .ok (.iconst 0, 1) := by decide +kernel
theorem dX12_permute_245 : decode cX12_permute 245 = .ok (.istore 5, 2) := by decide +kernel
theorem dX12_permute_247 : decode cX12_permute 247 = .ok (.iload 5, 2) := by decide +kernel
theorem dX12_permute_249 : decode cX12_permute 249 = .ok (.bipush 25, 2) := by decide +kernel
theorem dX12_permute_251 : decode cX12_permute 251 = .ok (.if_icmp .ge 23, 3) := by decide +kernel
theorem dX12_permute_254 : decode cX12_permute 254 = .ok (.aload_n 0, 1) := by decide +kernel
theorem dX12_permute_255 : decode cX12_permute 255 = .ok (.getfield 84, 3) := by decide +kernel
theorem dX12_permute_258 : decode cX12_permute 258 = .ok (.iload 5, 2) := by decide +kernel
theorem dX12_permute_260 : decode cX12_permute 260 = .ok (.aload_n 0, 1) := by decide +kernel
theorem dX12_permute_261 : decode cX12_permute 261 = .ok (.getfield 81, 3) := by decide +kernel
theorem dX12_permute_264 : decode cX12_permute 264 = .ok (.iload 5, 2) := by decide +kernel
theorem dX12_permute_266 : decode cX12_permute 266 = .ok (.laload, 1) := by decide +kernel
theorem dX12_permute_267 : decode cX12_permute 267 = .ok (.lastore, 1) := by decide +kernel
theorem dX12_permute_268 : decode cX12_permute 268 = .ok (.iinc 5 1, 3) := by decide +kernel
theorem dX12_permute_271 : decode cX12_permute 271 = .ok (.goto (-24), 3) := by decide +kernel
theorem dX12_permute_274 : decode cX12_permute 274 = .ok (.iconst 0, 1) := by decide +kernel
theorem dX12_permute_275 : decode cX12_permute 275 = .ok (.istore 5, 2) := by decide +kernel
theorem dX12_permute_277 : decode cX12_permute 277 = .ok (.iload 5, 2) := by decide +kernel
theorem dX12_permute_279 : decode cX12_permute 279 = .ok (.bipush 25, 2) := by decide +kernel
theorem dX12_permute_281 : decode cX12_permute 281 = .ok (.if_icmp .ge 66, 3) := by decide +kernel
theorem dX12_permute_284 : decode cX12_permute 284 = .ok (.iload 5, 2) := by decide +kernel
theorem dX12_permute_286 : decode cX12_permute 286 = .ok (.iload 5, 2) := by decide +kernel
theorem dX12_permute_288 : decode cX12_permute 288 = .ok (.iconst 5, 1) := by decide +kernel
theorem dX12_permute_289 : decode cX12_permute 289 = .ok (.irem, 1) := by decide +kernel
theorem dX12_permute_290 : decode cX12_permute 290 = .ok (.isub, 1) := by decide +kernel
theorem dX12_permute_291 : decode cX12_permute 291 = .ok (.istore 6, 2) := by decide +kernel
theorem dX12_permute_293 : decode cX12_permute 293 = .ok (.aload_n 0, 1) := by decide +kernel
theorem dX12_permute_294 : decode cX12_permute 294 = .ok (.getfield 81, 3) := by decide +kernel
theorem dX12_permute_297 : decode cX12_permute 297 = .ok (.iload 5, 2) := by decide +kernel
theorem dX12_permute_299 : decode cX12_permute 299 = .ok (.aload_n 0, 1) := by decide +kernel
theorem dX12_permute_300 : decode cX12_permute 300 = .ok (.getfield 84, 3) := by decide +kernel
theorem dX12_permute_303 : decode cX12_permute 303 = .ok (.iload 5, 2) := by decide +kernel
theorem dX12_permute_305 : decode cX12_permute 305 = .ok (.laload, 1) := by decide +kernel
theorem dX12_permute_306 : decode cX12_permute 306 = .ok (.aload_n 0, 1) := by decide +kernel
theorem dX12_permute_307 : decode cX12_permute 307 = .ok (.getfield 84, 3) := by decide +kernel
theorem dX12_permute_310 : decode cX12_permute 310 = .ok (.iload 6, 2) := by decide +kernel
theorem dX12_permute_312 : decode cX12_permute 312 = .ok (.iload 5, 2) := by decide +kernel
theorem dX12_permute_314 : decode cX12_permute 314 = .ok (.iconst 1, 1) := by decide +kernel
theorem dX12_permute_315 : decode cX12_permute 315 = .ok (.iadd, 1) := by decide +kernel
theorem dX12_permute_316 : decode cX12_permute 316 = .ok (.iconst 5, 1) := by decide +kernel
theorem dX12_permute_317 : decode cX12_permute 317 = .ok (.irem, 1) := by decide +kernel
theorem dX12_permute_318 : decode cX12_permute 318 = .ok (.iadd, 1) := by decide +kernel
theorem dX12_permute_319 : decode cX12_permute 319 = .ok (.laload, 1) := by decide +kernel
theorem dX12_permute_320 : decode cX12_permute 320 = .ok (.ldc2_w 257, 3) := by decide +kernel
theorem dX12_permute_323 : decode cX12_permute 323 = .ok (.lxor, 1) := by decide +kernel
theorem dX12_permute_324 : decode cX12_permute 324 = .ok (.aload_n 0, 1) := by decide +kernel
theorem dX12_permute_325 : decode cX12_permute 325 = .ok (.getfield 84, 3) := by decide +kernel
theorem dX12_permute_328 : decode cX12_permute 328 = .ok (.iload 6, 2) := by decide +kernel
theorem dX12_permute_330 : decode cX12_permute 330 = .ok (.iload 5, 2) := by decide +kernel
theorem dX12_permute_332 : decode cX12_permute 332 = .ok (.iconst 2, 1) := by decide +kernel
theorem dX12_permute_333 : decode cX12_permute 333 = .ok (.iadd, 1) := by decide +kernel
theorem dX12_permute_334 : decode cX12_permute 334 = .ok (.iconst 5, 1) := by decide +kernel
theorem dX12_permute_335 : decode cX12_permute 335 = .ok (.irem, 1) := by decide +kernel
theorem dX12_permute_336 : decode cX12_permute 336 = .ok (.iadd, 1) := by decide +kernel
theorem dX12_permute_337 : decode cX12_permute 337 = .ok (.laload, 1) := by decide +kernel
theorem dX12_permute_338 : decode cX12_permute 338 = .ok (.land, 1) := by decide +kernel
theorem dX12_permute_339 : decode cX12_permute 339 = .ok (.lxor, 1) := by decide +kernel
theorem dX12_permute_340 : decode cX12_permute 340 = .ok (.lastore, 1) := by decide +kernel
theorem dX12_permute_341 : decode cX12_permute 341 = .ok (.iinc 5 1, 3) := by decide +kernel
theorem dX12_permute_344 : decode cX12_permute 344 = .ok (.goto (-67), 3) := by decide +kernel
theorem dX12_permute_347 : decode cX12_permute 347 = .ok (.iconst 0, 1) := by decide +kernel
theorem dX12_permute_348 : decode cX12_permute 348 = .ok (.istore 5, 2) := by decide +kernel
theorem dX12_permute_350 : decode cX12_permute 350 = .ok (.iload 5, 2) := by decide +kernel
theorem dX12_permute_352 : decode cX12_permute 352 = .ok (.bipush 7, 2) := by decide +kernel
theorem dX12_permute_354 : decode cX12_permute 354 = .ok (.if_icmp .ge 50, 3) := by decide +kernel
theorem dX12_permute_357 : decode cX12_permute 357 = .ok (.iload_n 1, 1) := by decide +kernel
theorem dX12_permute_358 : decode cX12_permute 358 = .ok (.iconst 1, 1) := by decide +kernel
theorem dX12_permute_359 : decode cX12_permute 359 = .ok (.iand, 1) := by decide +kernel
theorem dX12_permute_360 : decode cX12_permute 360 = .ok (.iconst 1, 1) := by decide +kernel
theorem dX12_permute_361 : decode cX12_permute 361 = .ok (.if_icmp .ne 24, 3) := by decide +kernel
theorem dX12_permute_364 : decode cX12_permute 364 = .ok (.aload_n 0, 1) := by decide +kernel
theorem dX12_permute_365 : decode cX12_permute 365 = .ok (.getfield 81, 3) := by decide +kernel
theorem dX12_permute_368 : decode cX12_permute 368 = .ok (.iconst 0, 1) := by decide +kernel
theorem dX12_permute_369 : decode cX12_permute 369 = .ok (.aload_n 0, 1) := by decide +kernel
theorem dX12_permute_370 : decode cX12_permute 370 = .ok (.getfield 81, 3) := by decide +kernel
theorem dX12_permute_373 : decode cX12_permute 373 = .ok (.iconst 0, 1) := by decide +kernel
theorem dX12_permute_374 : decode cX12_permute 374 = .ok (.laload, 1) := by decide +kernel
theorem dX12_permute_375 : decode cX12_permute 375 = .ok (.lconst 1, 1) := by decide +kernel
theorem dX12_permute_376 : decode cX12_permute 376 = .ok (.iconst 1, 1) := by decide +kernel
theorem dX12_permute_377 : decode cX12_permute 377 = .ok (.iload 5, 2) := by decide +kernel
theorem dX12_permute_379 : decode cX12_permute 379 = .ok (.ishl, 1) := by decide +kernel
theorem dX12_permute_380 : decode cX12_permute 380 = .ok (.iconst 1, 1) := by decide +kernel
theorem dX12_permute_381 : decode cX12_permute 381 = .ok (.isub, 1) := by decide +kernel
theorem dX12_permute_382 : decode cX12_permute 382 = .ok (.lshl, 1) := by decide +kernel
theorem dX12_permute_383 : decode cX12_permute 383 = .ok (.lxor, 1) := by decide +kernel
theorem dX12_permute_384 : decode cX12_permute 384 = .ok (.lastore, 1) := by decide +kernel
theorem dX12_permute_385 : decode cX12_permute 385 = .ok (.iload_n 1, 1) := by decide +kernel
theorem dX12_permute_386 : decode cX12_permute 386 = .ok (.iconst 1, 1) := by decide +kernel
theorem dX12_permute_387 : decode cX12_permute 387 = .ok (.ishl, 1) := by decide +kernel
theorem dX12_permute_388 : decode cX12_permute 388 = .ok (.iload_n 1, 1) := by decide +kernel
theorem dX12_permute_389 : decode cX12_permute 389 = .ok (.bipush 7, 2) := by decide +kernel
theorem dX12_permute_391 : decode cX12_permute 391 = .ok (.ishr, 1) := by decide +kernel
theorem dX12_permute_392 : decode cX12_permute 392 = .ok (.sipush 369, 3) := by decide +kernel
theorem dX12_permute_395 : decode cX12_permute 395 = .ok (.imul, 1) := by decide +kernel
theorem dX12_permute_396 : decode cX12_permute 396 = .ok (.ixor, 1) := by decide +kernel
theorem dX12_permute_397 : decode cX12_permute 397 = .ok (.istore_n 1, 1) := by decide +kernel
theorem dX12_permute_398 : decode cX12_permute 398 = .ok (.iinc 5 1, 3) := by decide +kernel
theorem dX12_permute_401 : decode cX12_permute 401 = .ok (.goto (-51), 3) := by decide +kernel
theorem dX12_permute_404 : decode cX12_permute 404 = .ok (.iinc 2 1, 3) := by decide +kernel
theorem dX12_permute_407 : decode cX12_permute 407 = .ok (.goto (-403), 3) := by decide +kernel
theorem dX12_permute_410 : decode cX12_permute 410 = .ok (.return_, 1) := by decide +kernel
theorem dX12_left_0 : decode cX12_left 0 = .ok (.iload_n 2, 1) := by decide +kernel
theorem dX12_left_1 : decode cX12_left 1 = .ok (.ifCond .ne 7, 3) := by decide +kernel
theorem dX12_left_4 : decode cX12_left 4 = .ok (.lload_n 0, 1) := by decide +kernel
theorem dX12_left_5 : decode cX12_left 5 = .ok (.goto 13, 3) := by decide +kernel
theorem dX12_left_8 : decode cX12_left 8 = .ok (.lload_n 0, 1) := by decide +kernel
theorem dX12_left_9 : decode cX12_left 9 = .ok (.iload_n 2, 1) := by decide +kernel
theorem dX12_left_10 : decode cX12_left 10 = .ok (.lshl, 1) := by decide +kernel
theorem dX12_left_11 : decode cX12_left 11 = .ok (.lload_n 0, 1) := by decide +kernel
theorem dX12_left_12 : decode cX12_left 12 = .ok (.bipush 64, 2) := by decide +kernel
theorem dX12_left_14 : decode cX12_left 14 = .ok (.iload_n 2, 1) := by decide +kernel
theorem dX12_left_15 : decode cX12_left 15 = .ok (.isub, 1) := by decide +kernel
theorem dX12_left_16 : decode cX12_left 16 = .ok (.lushr, 1) := by decide +kernel
theorem dX12_left_17 : decode cX12_left 17 = .ok (.lor, 1) := by decide +kernel
theorem dX12_left_18 : decode cX12_left 18 = .ok (.lreturn, 1) := by decide +kernel
theorem dX12_inBytes_0 : decode cX12_inBytes 0 = .ok (.iconst 0, 1) := by decide +kernel
theorem dX12_inBytes_1 : decode cX12_inBytes 1 = .ok (.istore 4, 2) := by decide +kernel
theorem dX12_inBytes_3 : decode cX12_inBytes 3 = .ok (.iload 4, 2) := by decide +kernel
theorem dX12_inBytes_5 : decode cX12_inBytes 5 = .ok (.iload_n 3, 1) := by decide +kernel
theorem dX12_inBytes_6 : decode cX12_inBytes 6 = .ok (.if_icmp .ge 34, 3) := by decide +kernel
theorem dX12_inBytes_9 : decode cX12_inBytes 9 = .ok (.aload_n 0, 1) := by decide +kernel
theorem dX12_inBytes_10 : decode cX12_inBytes 10 = .ok (.getfield 60, 3) := by decide +kernel
theorem dX12_inBytes_13 : decode cX12_inBytes 13 = .ok (.aload_n 0, 1) := by decide +kernel
theorem dX12_inBytes_14 : decode cX12_inBytes 14 = .ok (.getfield 63, 3) := by decide +kernel
theorem dX12_inBytes_17 : decode cX12_inBytes 17 = .ok (.aload_n 1, 1) := by decide +kernel
theorem dX12_inBytes_18 : decode cX12_inBytes 18 = .ok (.iload_n 2, 1) := by decide +kernel
theorem dX12_inBytes_19 : decode cX12_inBytes 19 = .ok (.iload 4, 2) := by decide +kernel
theorem dX12_inBytes_21 : decode cX12_inBytes 21 = .ok (.iadd, 1) := by decide +kernel
theorem dX12_inBytes_22 : decode cX12_inBytes 22 = .ok (.iaload, 1) := by decide +kernel
theorem dX12_inBytes_23 : decode cX12_inBytes 23 = .ok (.iastore, 1) := by decide +kernel
theorem dX12_inBytes_24 : decode cX12_inBytes 24 = .ok (.aload_n 0, 1) := by decide +kernel
theorem dX12_inBytes_25 : decode cX12_inBytes 25 = .ok (.dup, 1) := by decide +kernel
theorem dX12_inBytes_26 : decode cX12_inBytes 26 = .ok (.getfield 63, 3) := by decide +kernel
theorem dX12_inBytes_29 : decode cX12_inBytes 29 = .ok (.iconst 1, 1) := by decide +kernel
theorem dX12_inBytes_30 : decode cX12_inBytes 30 = .ok (.iadd, 1) := by decide +kernel
theorem dX12_inBytes_31 : decode cX12_inBytes 31 = .ok (.putfield 63, 3) := by decide +kernel
theorem dX12_inBytes_34 : decode cX12_inBytes 34 = .ok (.iinc 4 1, 3) := by decide +kernel
theorem dX12_inBytes_37 : decode cX12_inBytes 37 = .ok (.goto (-34), 3) := by decide +kernel
theorem dX12_inBytes_40 : decode cX12_inBytes 40 = .ok (.return_, 1) := by decide +kernel
theorem dX12_inText_0 : decode cX12_inText 0 = .ok (.bipush 56, 2) := by decide +kernel
theorem dX12_inText_2 : decode cX12_inText 2 = .ok (.istore_n 3, 1) := by decide +kernel
theorem dX12_inText_3 : decode cX12_inText 3 = .ok (.iload_n 3, 1) := by decide +kernel
theorem dX12_inText_4 : decode cX12_inText 4 = .ok (.ifCond .lt 36, 3) := by decide +kernel
theorem dX12_inText_7 : decode cX12_inText 7 = .ok (.aload_n 0, 1) := by decide +kernel
theorem dX12_inText_8 : decode cX12_inText 8 = .ok (.getfield 60, 3) := by decide +kernel
theorem dX12_inText_11 : decode cX12_inText 11 = .ok (.aload_n 0, 1) := by decide +kernel
theorem dX12_inText_12 : decode cX12_inText 12 = .ok (.getfield 63, 3) := by decide +kernel
theorem dX12_inText_15 : decode cX12_inText 15 = .ok (.lload_n 1, 1) := by decide +kernel
theorem dX12_inText_16 : decode cX12_inText 16 = .ok (.iload_n 3, 1) := by decide +kernel
theorem dX12_inText_17 : decode cX12_inText 17 = .ok (.lshr, 1) := by decide +kernel
theorem dX12_inText_18 : decode cX12_inText 18 = .ok (.l2i, 1) := by decide +kernel
theorem dX12_inText_19 : decode cX12_inText 19 = .ok (.sipush 255, 3) := by decide +kernel
theorem dX12_inText_22 : decode cX12_inText 22 = .ok (.iand, 1) := by decide +kernel
theorem dX12_inText_23 : decode cX12_inText 23 = .ok (.iastore, 1) := by decide +kernel
theorem dX12_inText_24 : decode cX12_inText 24 = .ok (.aload_n 0, 1) := by decide +kernel
theorem dX12_inText_25 : decode cX12_inText 25 = .ok (.dup, 1) := by decide +kernel
theorem dX12_inText_26 : decode cX12_inText 26 = .ok (.getfield 63, 3) := by decide +kernel
theorem dX12_inText_29 : decode cX12_inText 29 = .ok (.iconst 1, 1) := by decide +kernel
theorem dX12_inText_30 : decode cX12_inText 30 = .ok (.iadd, 1) := by decide +kernel
theorem dX12_inText_31 : decode cX12_inText 31 = .ok (.putfield 63, 3) := by decide +kernel
theorem dX12_inText_34 : decode cX12_inText 34 = .ok (.iinc 3 (-8), 3) := by decide +kernel
theorem dX12_inText_37 : decode cX12_inText 37 = .ok (.goto (-34), 3) := by decide +kernel
theorem dX12_inText_40 : decode cX12_inText 40 = .ok (.return_, 1) := by decide +kernel
theorem dX12_domain_0 : decode cX12_domain 0 = .ok (.aload_n 0, 1) := by decide +kernel
theorem dX12_domain_1 : decode cX12_domain 1 = .ok (.iconst 0, 1) := by decide +kernel
theorem dX12_domain_2 : decode cX12_domain 2 = .ok (.putfield 63, 3) := by decide +kernel
theorem dX12_domain_5 : decode cX12_domain 5 = .ok (.aload_n 0, 1) := by decide +kernel
theorem dX12_domain_6 : decode cX12_domain 6 = .ok (.getfield 51, 3) := by decide +kernel
theorem dX12_domain_9 : decode cX12_domain 9 = .ok (.ifCond .ne 46, 3) := by decide +kernel
theorem dX12_domain_12 : decode cX12_domain 12 = .ok (.iload_n 1, 1) := by decide +kernel
theorem dX12_domain_13 : decode cX12_domain 13 = .ok (.ifCond .ne 11, 3) := by decide +kernel
theorem dX12_domain_16 : decode cX12_domain 16 = .ok (.aload_n 0, 1) := by decide +kernel
theorem dX12_domain_17 : decode cX12_domain 17 = .ok (.getfield 38, 3) := by decide +kernel
theorem dX12_domain_20 : decode cX12_domain 20 = .ok (.ifCond .ne 4, 3) := by decide +kernel
theorem dX12_domain_23 : decode cX12_domain 23 = .ok (.return_, 1) := by decide +kernel
theorem dX12_domain_24 : decode cX12_domain 24 = .ok (.aload_n 0, 1) := by decide +kernel
theorem dX12_domain_25 : decode cX12_domain 25 = .ok (.ldc2_w 265, 3) := by decide +kernel
theorem dX12_domain_28 : decode cX12_domain 28 = .ok (.invokevirtual 267, 3) := by decide +kernel
theorem dX12_domain_31 : decode cX12_domain 31 = .ok (.aload_n 0, 1) := by decide +kernel
theorem dX12_domain_32 : decode cX12_domain 32 = .ok (.ldc2_w 271, 3) := by decide +kernel
theorem dX12_domain_35 : decode cX12_domain 35 = .ok (.invokevirtual 267, 3) := by decide +kernel
theorem dX12_domain_38 : decode cX12_domain 38 = .ok (.aload_n 0, 1) := by decide +kernel
theorem dX12_domain_39 : decode cX12_domain 39 = .ok (.ldc2_w 273, 3) := by decide +kernel
theorem dX12_domain_42 : decode cX12_domain 42 = .ok (.invokevirtual 267, 3) := by decide +kernel
theorem dX12_domain_45 : decode cX12_domain 45 = .ok (.aload_n 0, 1) := by decide +kernel
theorem dX12_domain_46 : decode cX12_domain 46 = .ok (.ldc2_w 275, 3) := by decide +kernel
theorem dX12_domain_49 : decode cX12_domain 49 = .ok (.invokevirtual 267, 3) := by decide +kernel
theorem dX12_domain_52 : decode cX12_domain 52 = .ok (.goto 10, 3) := by decide +kernel
theorem dX12_domain_55 : decode cX12_domain 55 = .ok (.aload_n 0, 1) := by decide +kernel
theorem dX12_domain_56 : decode cX12_domain 56 = .ok (.ldc2_w 277, 3) := by decide +kernel
theorem dX12_domain_59 : decode cX12_domain 59 = .ok (.invokevirtual 267, 3) := by decide +kernel
theorem dX12_domain_62 : decode cX12_domain 62 = .ok (.aload_n 0, 1) := by decide +kernel
theorem dX12_domain_63 : decode cX12_domain 63 = .ok (.getfield 60, 3) := by decide +kernel
theorem dX12_domain_66 : decode cX12_domain 66 = .ok (.aload_n 0, 1) := by decide +kernel
theorem dX12_domain_67 : decode cX12_domain 67 = .ok (.getfield 63, 3) := by decide +kernel
theorem dX12_domain_70 : decode cX12_domain 70 = .ok (.iload_n 1, 1) := by decide +kernel
theorem dX12_domain_71 : decode cX12_domain 71 = .ok (.ifCond .eq 7, 3) := by decide +kernel
theorem dX12_domain_74 : decode cX12_domain 74 = .ok (.iconst 1, 1) := by decide +kernel
theorem dX12_domain_75 : decode cX12_domain 75 = .ok (.goto 4, 3) := by decide +kernel
theorem dX12_domain_78 : decode cX12_domain 78 = .ok (.iconst 0, 1) := by decide +kernel
theorem dX12_domain_79 : decode cX12_domain 79 = .ok (.iastore, 1) := by decide +kernel
theorem dX12_domain_80 : decode cX12_domain 80 = .ok (.aload_n 0, 1) := by decide +kernel
theorem dX12_domain_81 : decode cX12_domain 81 = .ok (.getfield 60, 3) := by decide +kernel
theorem dX12_domain_84 : decode cX12_domain 84 = .ok (.aload_n 0, 1) := by decide +kernel
theorem dX12_domain_85 : decode cX12_domain 85 = .ok (.getfield 63, 3) := by decide +kernel
theorem dX12_domain_88 : decode cX12_domain 88 = .ok (.iconst 1, 1) := by decide +kernel
theorem dX12_domain_89 : decode cX12_domain 89 = .ok (.iadd, 1) := by decide +kernel
theorem dX12_domain_90 : decode cX12_domain 90 = .ok (.aload_n 0, 1) := by decide +kernel
theorem dX12_domain_91 : decode cX12_domain 91 = .ok (.getfield 38, 3) := by decide +kernel
theorem dX12_domain_94 : decode cX12_domain 94 = .ok (.iastore, 1) := by decide +kernel
theorem dX12_domain_95 : decode cX12_domain 95 = .ok (.aload_n 0, 1) := by decide +kernel
theorem dX12_domain_96 : decode cX12_domain 96 = .ok (.dup, 1) := by decide +kernel
theorem dX12_domain_97 : decode cX12_domain 97 = .ok (.getfield 63, 3) := by decide +kernel
theorem dX12_domain_100 : decode cX12_domain 100 = .ok (.iconst 2, 1) := by decide +kernel
theorem dX12_domain_101 : decode cX12_domain 101 = .ok (.iadd, 1) := by decide +kernel
theorem dX12_domain_102 : decode cX12_domain 102 = .ok (.putfield 63, 3) := by decide +kernel
theorem dX12_domain_105 : decode cX12_domain 105 = .ok (.aload_n 0, 1) := by decide +kernel
theorem dX12_domain_106 : decode cX12_domain 106 = .ok (.aload_n 0, 1) := by decide +kernel
theorem dX12_domain_107 : decode cX12_domain 107 = .ok (.getfield 35, 3) := by decide +kernel
theorem dX12_domain_110 : decode cX12_domain 110 = .ok (.iconst 0, 1) := by decide +kernel
theorem dX12_domain_111 : decode cX12_domain 111 = .ok (.aload_n 0, 1) := by decide +kernel
theorem dX12_domain_112 : decode cX12_domain 112 = .ok (.getfield 38, 3) := by decide +kernel
theorem dX12_domain_115 : decode cX12_domain 115 = .ok (.invokevirtual 279, 3) := by decide +kernel
theorem dX12_domain_118 : decode cX12_domain 118 = .ok (.return_, 1) := by decide +kernel
theorem dX12_theMessage_0 : decode cX12_theMessage 0 = .ok (.iload_n 1, 1) := by decide +kernel
theorem dX12_theMessage_1 : decode cX12_theMessage 1 = .ok (.ifCond .eq 17, 3) := by decide +kernel
theorem dX12_theMessage_4 : decode cX12_theMessage 4 = .ok (.aload_n 0, 1) := by decide +kernel
theorem dX12_theMessage_5 : decode cX12_theMessage 5 = .ok (.aload_n 0, 1) := by decide +kernel
theorem dX12_theMessage_6 : decode cX12_theMessage 6 = .ok (.getfield 105, 3) := by decide +kernel
theorem dX12_theMessage_9 : decode cX12_theMessage 9 = .ok (.iconst 0, 1) := by decide +kernel
theorem dX12_theMessage_10 : decode cX12_theMessage 10 = .ok (.bipush 64, 2) := by decide +kernel
theorem dX12_theMessage_12 : decode cX12_theMessage 12 = .ok (.invokevirtual 279, 3) := by decide +kernel
theorem dX12_theMessage_15 : decode cX12_theMessage 15 = .ok (.goto 16, 3) := by decide +kernel
theorem dX12_theMessage_18 : decode cX12_theMessage 18 = .ok (.aload_n 0, 1) := by decide +kernel
theorem dX12_theMessage_19 : decode cX12_theMessage 19 = .ok (.aload_n 0, 1) := by decide +kernel
theorem dX12_theMessage_20 : decode cX12_theMessage 20 = .ok (.getfield 29, 3) := by decide +kernel
theorem dX12_theMessage_23 : decode cX12_theMessage 23 = .ok (.iconst 0, 1) := by decide +kernel
theorem dX12_theMessage_24 : decode cX12_theMessage 24 = .ok (.aload_n 0, 1) := by decide +kernel
theorem dX12_theMessage_25 : decode cX12_theMessage 25 = .ok (.getfield 32, 3) := by decide +kernel
theorem dX12_theMessage_28 : decode cX12_theMessage 28 = .ok (.invokevirtual 279, 3) := by decide +kernel
theorem dX12_theMessage_31 : decode cX12_theMessage 31 = .ok (.return_, 1) := by decide +kernel
theorem dX12_hashIn_0 : decode cX12_hashIn 0 = .ok (.aload_n 0, 1) := by decide +kernel
theorem dX12_hashIn_1 : decode cX12_hashIn 1 = .ok (.getfield 51, 3) := by decide +kernel
theorem dX12_hashIn_4 : decode cX12_hashIn 4 = .ok (.ifCond .ne 10, 3) := by decide +kernel
theorem dX12_hashIn_7 : decode cX12_hashIn 7 = .ok (.aload_n 0, 1) := by decide +kernel
theorem dX12_hashIn_8 : decode cX12_hashIn 8 = .ok (.invokevirtual 283, 3) := by decide +kernel
theorem dX12_hashIn_11 : decode cX12_hashIn 11 = .ok (.goto 9, 3) := by decide +kernel
theorem dX12_hashIn_14 : decode cX12_hashIn 14 = .ok (.aload_n 0, 1) := by decide +kernel
theorem dX12_hashIn_15 : decode cX12_hashIn 15 = .ok (.bipush 114, 2) := by decide +kernel
theorem dX12_hashIn_17 : decode cX12_hashIn 17 = .ok (.invokevirtual 286, 3) := by decide +kernel
theorem dX12_hashIn_20 : decode cX12_hashIn 20 = .ok (.return_, 1) := by decide +kernel
theorem dX12_digestMessage_0 : decode cX12_digestMessage 0 = .ok (.aload_n 0, 1) := by decide +kernel
theorem dX12_digestMessage_1 : decode cX12_digestMessage 1 = .ok (.iconst 0, 1) := by decide +kernel
theorem dX12_digestMessage_2 : decode cX12_digestMessage 2 = .ok (.putfield 63, 3) := by decide +kernel
theorem dX12_digestMessage_5 : decode cX12_digestMessage 5 = .ok (.aload_n 0, 1) := by decide +kernel
theorem dX12_digestMessage_6 : decode cX12_digestMessage 6 = .ok (.aload_n 0, 1) := by decide +kernel
theorem dX12_digestMessage_7 : decode cX12_digestMessage 7 = .ok (.getfield 29, 3) := by decide +kernel
theorem dX12_digestMessage_10 : decode cX12_digestMessage 10 = .ok (.iconst 0, 1) := by decide +kernel
theorem dX12_digestMessage_11 : decode cX12_digestMessage 11 = .ok (.aload_n 0, 1) := by decide +kernel
theorem dX12_digestMessage_12 : decode cX12_digestMessage 12 = .ok (.getfield 32, 3) := by decide +kernel
theorem dX12_digestMessage_15 : decode cX12_digestMessage 15 = .ok (.invokevirtual 279, 3) := by decide +kernel
theorem dX12_digestMessage_18 : decode cX12_digestMessage 18 = .ok (.aload_n 0, 1) := by decide +kernel
theorem dX12_digestMessage_19 : decode cX12_digestMessage 19 = .ok (.getfield 51, 3) := by decide +kernel
theorem dX12_digestMessage_22 : decode cX12_digestMessage 22 = .ok (.ifCond .ne 10, 3) := by decide +kernel
theorem dX12_digestMessage_25 : decode cX12_digestMessage 25 = .ok (.aload_n 0, 1) := by decide +kernel
theorem dX12_digestMessage_26 : decode cX12_digestMessage 26 = .ok (.invokevirtual 283, 3) := by decide +kernel
theorem dX12_digestMessage_29 : decode cX12_digestMessage 29 = .ok (.goto 9, 3) := by decide +kernel
theorem dX12_digestMessage_32 : decode cX12_digestMessage 32 = .ok (.aload_n 0, 1) := by decide +kernel
theorem dX12_digestMessage_33 : decode cX12_digestMessage 33 = .ok (.bipush 64, 2) := by decide +kernel
theorem dX12_digestMessage_35 : decode cX12_digestMessage 35 = .ok (.invokevirtual 286, 3) := by decide +kernel
theorem dX12_digestMessage_38 : decode cX12_digestMessage 38 = .ok (.iconst 0, 1) := by decide +kernel
theorem dX12_digestMessage_39 : decode cX12_digestMessage 39 = .ok (.istore_n 1, 1) := by decide +kernel
theorem dX12_digestMessage_40 : decode cX12_digestMessage 40 = .ok (.iload_n 1, 1) := by decide +kernel
theorem dX12_digestMessage_41 : decode cX12_digestMessage 41 = .ok (.bipush 64, 2) := by decide +kernel
theorem dX12_digestMessage_43 : decode cX12_digestMessage 43 = .ok (.if_icmp .ge 21, 3) := by decide +kernel
theorem dX12_digestMessage_46 : decode cX12_digestMessage 46 = .ok (.aload_n 0, 1) := by decide +kernel
theorem dX12_digestMessage_47 : decode cX12_digestMessage 47 = .ok (.getfield 105, 3) := by decide +kernel
theorem dX12_digestMessage_50 : decode cX12_digestMessage 50 = .ok (.iload_n 1, 1) := by decide +kernel
theorem dX12_digestMessage_51 : decode cX12_digestMessage 51 = .ok (.aload_n 0, 1) := by decide +kernel
theorem dX12_digestMessage_52 : decode cX12_digestMessage 52 = .ok (.getfield 66, 3) := by decide +kernel
theorem dX12_digestMessage_55 : decode cX12_digestMessage 55 = .ok (.iload_n 1, 1) := by decide +kernel
theorem dX12_digestMessage_56 : decode cX12_digestMessage 56 = .ok (.iaload, 1) := by decide +kernel
theorem dX12_digestMessage_57 : decode cX12_digestMessage 57 = .ok (.iastore, 1) := by decide +kernel
theorem dX12_digestMessage_58 : decode cX12_digestMessage 58 = .ok (.iinc 1 1, 3) := by decide +kernel
theorem dX12_digestMessage_61 : decode cX12_digestMessage 61 = .ok (.goto (-21), 3) := by decide +kernel
theorem dX12_digestMessage_64 : decode cX12_digestMessage 64 = .ok (.return_, 1) := by decide +kernel
theorem dX12_expand_0 : decode cX12_expand 0 = .ok (.aload_n 0, 1) := by decide +kernel
theorem dX12_expand_1 : decode cX12_expand 1 = .ok (.invokevirtual 231, 3) := by decide +kernel
theorem dX12_expand_4 : decode cX12_expand 4 = .ok (.istore_n 1, 1) := by decide +kernel
theorem dX12_expand_5 : decode cX12_expand 5 = .ok (.aload_n 0, 1) := by decide +kernel
theorem dX12_expand_6 : decode cX12_expand 6 = .ok (.iconst 0, 1) := by decide +kernel
theorem dX12_expand_7 : decode cX12_expand 7 = .ok (.putfield 63, 3) := by decide +kernel
theorem dX12_expand_10 : decode cX12_expand 10 = .ok (.aload_n 0, 1) := by decide +kernel
theorem dX12_expand_11 : decode cX12_expand 11 = .ok (.aload_n 0, 1) := by decide +kernel
theorem dX12_expand_12 : decode cX12_expand 12 = .ok (.getfield 13, 3) := by decide +kernel
theorem dX12_expand_15 : decode cX12_expand 15 = .ok (.iconst 0, 1) := by decide +kernel
theorem dX12_expand_16 : decode cX12_expand 16 = .ok (.iload_n 1, 1) := by decide +kernel
theorem dX12_expand_17 : decode cX12_expand 17 = .ok (.invokevirtual 279, 3) := by decide +kernel
theorem dX12_expand_20 : decode cX12_expand 20 = .ok (.aload_n 0, 1) := by decide +kernel
theorem dX12_expand_21 : decode cX12_expand 21 = .ok (.invokevirtual 289, 3) := by decide +kernel
theorem dX12_expand_24 : decode cX12_expand 24 = .ok (.iconst 0, 1) := by decide +kernel
theorem dX12_expand_25 : decode cX12_expand 25 = .ok (.istore_n 2, 1) := by decide +kernel
theorem dX12_expand_26 : decode cX12_expand 26 = .ok (.iload_n 2, 1) := by decide +kernel
theorem dX12_expand_27 : decode cX12_expand 27 = .ok (.bipush 57, 2) := by decide +kernel
theorem dX12_expand_29 : decode cX12_expand 29 = .ok (.if_icmp .ge 53, 3) := by decide +kernel
theorem dX12_expand_32 : decode cX12_expand 32 = .ok (.aload_n 0, 1) := by decide +kernel
theorem dX12_expand_33 : decode cX12_expand 33 = .ok (.getfield 90, 3) := by decide +kernel
theorem dX12_expand_36 : decode cX12_expand 36 = .ok (.iload_n 2, 1) := by decide +kernel
theorem dX12_expand_37 : decode cX12_expand 37 = .ok (.iload_n 2, 1) := by decide +kernel
theorem dX12_expand_38 : decode cX12_expand 38 = .ok (.iload_n 1, 1) := by decide +kernel
theorem dX12_expand_39 : decode cX12_expand 39 = .ok (.if_icmp .ge 12, 3) := by decide +kernel
theorem dX12_expand_42 : decode cX12_expand 42 = .ok (.aload_n 0, 1) := by decide +kernel
theorem dX12_expand_43 : decode cX12_expand 43 = .ok (.getfield 66, 3) := by decide +kernel
theorem dX12_expand_46 : decode cX12_expand 46 = .ok (.iload_n 2, 1) := by decide +kernel
theorem dX12_expand_47 : decode cX12_expand 47 = .ok (.iaload, 1) := by decide +kernel
theorem dX12_expand_48 : decode cX12_expand 48 = .ok (.goto 4, 3) := by decide +kernel
theorem dX12_expand_51 : decode cX12_expand 51 = .ok (.iconst 0, 1) := by decide +kernel
theorem dX12_expand_52 : decode cX12_expand 52 = .ok (.iastore, 1) := by decide +kernel
theorem dX12_expand_53 : decode cX12_expand 53 = .ok (.aload_n 0, 1) := by decide +kernel
theorem dX12_expand_54 : decode cX12_expand 54 = .ok (.getfield 93, 3) := by decide +kernel
theorem dX12_expand_57 : decode cX12_expand 57 = .ok (.iload_n 2, 1) := by decide +kernel
theorem dX12_expand_58 : decode cX12_expand 58 = .ok (.iload_n 2, 1) := by decide +kernel
theorem dX12_expand_59 : decode cX12_expand 59 = .ok (.iload_n 1, 1) := by decide +kernel
theorem dX12_expand_60 : decode cX12_expand 60 = .ok (.if_icmp .ge 14, 3) := by decide +kernel
theorem dX12_expand_63 : decode cX12_expand 63 = .ok (.aload_n 0, 1) := by decide +kernel
theorem dX12_expand_64 : decode cX12_expand 64 = .ok (.getfield 66, 3) := by decide +kernel
theorem dX12_expand_67 : decode cX12_expand 67 = .ok (.iload_n 1, 1) := by decide +kernel
theorem dX12_expand_68 : decode cX12_expand 68 = .ok (.iload_n 2, 1) := by decide +kernel
theorem dX12_expand_69 : decode cX12_expand 69 = .ok (.iadd, 1) := by decide +kernel
theorem dX12_expand_70 : decode cX12_expand 70 = .ok (.iaload, 1) := by decide +kernel
theorem dX12_expand_71 : decode cX12_expand 71 = .ok (.goto 4, 3) := by decide +kernel
theorem dX12_expand_74 : decode cX12_expand 74 = .ok (.iconst 0, 1) := by decide +kernel
theorem dX12_expand_75 : decode cX12_expand 75 = .ok (.iastore, 1) := by decide +kernel
theorem dX12_expand_76 : decode cX12_expand 76 = .ok (.iinc 2 1, 3) := by decide +kernel
theorem dX12_expand_79 : decode cX12_expand 79 = .ok (.goto (-53), 3) := by decide +kernel
theorem dX12_expand_82 : decode cX12_expand 82 = .ok (.aload_n 0, 1) := by decide +kernel
theorem dX12_expand_83 : decode cX12_expand 83 = .ok (.getfield 51, 3) := by decide +kernel
theorem dX12_expand_86 : decode cX12_expand 86 = .ok (.ifCond .ne 42, 3) := by decide +kernel
theorem dX12_expand_89 : decode cX12_expand 89 = .ok (.aload_n 0, 1) := by decide +kernel
theorem dX12_expand_90 : decode cX12_expand 90 = .ok (.getfield 90, 3) := by decide +kernel
theorem dX12_expand_93 : decode cX12_expand 93 = .ok (.iconst 0, 1) := by decide +kernel
theorem dX12_expand_94 : decode cX12_expand 94 = .ok (.aload_n 0, 1) := by decide +kernel
theorem dX12_expand_95 : decode cX12_expand 95 = .ok (.getfield 90, 3) := by decide +kernel
theorem dX12_expand_98 : decode cX12_expand 98 = .ok (.iconst 0, 1) := by decide +kernel
theorem dX12_expand_99 : decode cX12_expand 99 = .ok (.iaload, 1) := by decide +kernel
theorem dX12_expand_100 : decode cX12_expand 100 = .ok (.sipush 248, 3) := by decide +kernel
theorem dX12_expand_103 : decode cX12_expand 103 = .ok (.iand, 1) := by decide +kernel
theorem dX12_expand_104 : decode cX12_expand 104 = .ok (.iastore, 1) := by decide +kernel
theorem dX12_expand_105 : decode cX12_expand 105 = .ok (.aload_n 0, 1) := by decide +kernel
theorem dX12_expand_106 : decode cX12_expand 106 = .ok (.getfield 90, 3) := by decide +kernel
theorem dX12_expand_109 : decode cX12_expand 109 = .ok (.bipush 31, 2) := by decide +kernel
theorem dX12_expand_111 : decode cX12_expand 111 = .ok (.aload_n 0, 1) := by decide +kernel
theorem dX12_expand_112 : decode cX12_expand 112 = .ok (.getfield 90, 3) := by decide +kernel
theorem dX12_expand_115 : decode cX12_expand 115 = .ok (.bipush 31, 2) := by decide +kernel
theorem dX12_expand_117 : decode cX12_expand 117 = .ok (.iaload, 1) := by decide +kernel
theorem dX12_expand_118 : decode cX12_expand 118 = .ok (.bipush 127, 2) := by decide +kernel
theorem dX12_expand_120 : decode cX12_expand 120 = .ok (.iand, 1) := by decide +kernel
theorem dX12_expand_121 : decode cX12_expand 121 = .ok (.bipush 64, 2) := by decide +kernel
theorem dX12_expand_123 : decode cX12_expand 123 = .ok (.ior, 1) := by decide +kernel
theorem dX12_expand_124 : decode cX12_expand 124 = .ok (.iastore, 1) := by decide +kernel
theorem dX12_expand_125 : decode cX12_expand 125 = .ok (.goto 45, 3) := by decide +kernel
theorem dX12_expand_128 : decode cX12_expand 128 = .ok (.aload_n 0, 1) := by decide +kernel
theorem dX12_expand_129 : decode cX12_expand 129 = .ok (.getfield 90, 3) := by decide +kernel
theorem dX12_expand_132 : decode cX12_expand 132 = .ok (.iconst 0, 1) := by decide +kernel
theorem dX12_expand_133 : decode cX12_expand 133 = .ok (.aload_n 0, 1) := by decide +kernel
theorem dX12_expand_134 : decode cX12_expand 134 = .ok (.getfield 90, 3) := by decide +kernel
theorem dX12_expand_137 : decode cX12_expand 137 = .ok (.iconst 0, 1) := by decide +kernel
theorem dX12_expand_138 : decode cX12_expand 138 = .ok (.iaload, 1) := by decide +kernel
theorem dX12_expand_139 : decode cX12_expand 139 = .ok (.sipush 252, 3) := by decide +kernel
theorem dX12_expand_142 : decode cX12_expand 142 = .ok (.iand, 1) := by decide +kernel
theorem dX12_expand_143 : decode cX12_expand 143 = .ok (.iastore, 1) := by decide +kernel
theorem dX12_expand_144 : decode cX12_expand 144 = .ok (.aload_n 0, 1) := by decide +kernel
theorem dX12_expand_145 : decode cX12_expand 145 = .ok (.getfield 90, 3) := by decide +kernel
theorem dX12_expand_148 : decode cX12_expand 148 = .ok (.bipush 56, 2) := by decide +kernel
theorem dX12_expand_150 : decode cX12_expand 150 = .ok (.iconst 0, 1) := by decide +kernel
theorem dX12_expand_151 : decode cX12_expand 151 = .ok (.iastore, 1) := by decide +kernel
theorem dX12_expand_152 : decode cX12_expand 152 = .ok (.aload_n 0, 1) := by decide +kernel
theorem dX12_expand_153 : decode cX12_expand 153 = .ok (.getfield 90, 3) := by decide +kernel
theorem dX12_expand_156 : decode cX12_expand 156 = .ok (.bipush 55, 2) := by decide +kernel
theorem dX12_expand_158 : decode cX12_expand 158 = .ok (.aload_n 0, 1) := by decide +kernel
theorem dX12_expand_159 : decode cX12_expand 159 = .ok (.getfield 90, 3) := by decide +kernel
theorem dX12_expand_162 : decode cX12_expand 162 = .ok (.bipush 55, 2) := by decide +kernel
theorem dX12_expand_164 : decode cX12_expand 164 = .ok (.iaload, 1) := by decide +kernel
theorem dX12_expand_165 : decode cX12_expand 165 = .ok (.sipush 128, 3) := by decide +kernel
theorem dX12_expand_168 : decode cX12_expand 168 = .ok (.ior, 1) := by decide +kernel
theorem dX12_expand_169 : decode cX12_expand 169 = .ok (.iastore, 1) := by decide +kernel
theorem dX12_expand_170 : decode cX12_expand 170 = .ok (.aload_n 0, 1) := by decide +kernel
theorem dX12_expand_171 : decode cX12_expand 171 = .ok (.bipush 46, 2) := by decide +kernel
theorem dX12_expand_173 : decode cX12_expand 173 = .ok (.bipush 13, 2) := by decide +kernel
theorem dX12_expand_175 : decode cX12_expand 175 = .ok (.iconst 3, 1) := by decide +kernel
theorem dX12_expand_176 : decode cX12_expand 176 = .ok (.aload_n 0, 1) := by decide +kernel
theorem dX12_expand_177 : decode cX12_expand 177 = .ok (.getfield 51, 3) := by decide +kernel
theorem dX12_expand_180 : decode cX12_expand 180 = .ok (.imul, 1) := by decide +kernel
theorem dX12_expand_181 : decode cX12_expand 181 = .ok (.iadd, 1) := by decide +kernel
theorem dX12_expand_182 : decode cX12_expand 182 = .ok (.aload_n 0, 1) := by decide +kernel
theorem dX12_expand_183 : decode cX12_expand 183 = .ok (.getfield 90, 3) := by decide +kernel
theorem dX12_expand_186 : decode cX12_expand 186 = .ok (.iload_n 1, 1) := by decide +kernel
theorem dX12_expand_187 : decode cX12_expand 187 = .ok (.invokevirtual 292, 3) := by decide +kernel
theorem dX12_expand_190 : decode cX12_expand 190 = .ok (.aload_n 0, 1) := by decide +kernel
theorem dX12_expand_191 : decode cX12_expand 191 = .ok (.bipush 46, 2) := by decide +kernel
theorem dX12_expand_193 : decode cX12_expand 193 = .ok (.invokevirtual 296, 3) := by decide +kernel
theorem dX12_expand_196 : decode cX12_expand 196 = .ok (.iconst 0, 1) := by decide +kernel
theorem dX12_expand_197 : decode cX12_expand 197 = .ok (.istore_n 2, 1) := by decide +kernel
theorem dX12_expand_198 : decode cX12_expand 198 = .ok (.iload_n 2, 1) := by decide +kernel
theorem dX12_expand_199 : decode cX12_expand 199 = .ok (.bipush 57, 2) := by decide +kernel
theorem dX12_expand_201 : decode cX12_expand 201 = .ok (.if_icmp .ge 21, 3) := by decide +kernel
theorem dX12_expand_204 : decode cX12_expand 204 = .ok (.aload_n 0, 1) := by decide +kernel
theorem dX12_expand_205 : decode cX12_expand 205 = .ok (.getfield 96, 3) := by decide +kernel
theorem dX12_expand_208 : decode cX12_expand 208 = .ok (.iload_n 2, 1) := by decide +kernel
theorem dX12_expand_209 : decode cX12_expand 209 = .ok (.aload_n 0, 1) := by decide +kernel
theorem dX12_expand_210 : decode cX12_expand 210 = .ok (.getfield 111, 3) := by decide +kernel
theorem dX12_expand_213 : decode cX12_expand 213 = .ok (.iload_n 2, 1) := by decide +kernel
theorem dX12_expand_214 : decode cX12_expand 214 = .ok (.iaload, 1) := by decide +kernel
theorem dX12_expand_215 : decode cX12_expand 215 = .ok (.iastore, 1) := by decide +kernel
theorem dX12_expand_216 : decode cX12_expand 216 = .ok (.iinc 2 1, 3) := by decide +kernel
theorem dX12_expand_219 : decode cX12_expand 219 = .ok (.goto (-21), 3) := by decide +kernel
theorem dX12_expand_222 : decode cX12_expand 222 = .ok (.return_, 1) := by decide +kernel
theorem dX12_signNow_0 : decode cX12_signNow 0 = .ok (.aload_n 0, 1) := by decide +kernel
theorem dX12_signNow_1 : decode cX12_signNow 1 = .ok (.invokevirtual 231, 3) := by decide +kernel
theorem dX12_signNow_4 : decode cX12_signNow 4 = .ok (.istore_n 2, 1) := by decide +kernel
theorem dX12_signNow_5 : decode cX12_signNow 5 = .ok (.aload_n 0, 1) := by decide +kernel
theorem dX12_signNow_6 : decode cX12_signNow 6 = .ok (.invokevirtual 299, 3) := by decide +kernel
theorem dX12_signNow_9 : decode cX12_signNow 9 = .ok (.aload_n 0, 1) := by decide +kernel
theorem dX12_signNow_10 : decode cX12_signNow 10 = .ok (.invokevirtual 302, 3) := by decide +kernel
theorem dX12_signNow_13 : decode cX12_signNow 13 = .ok (.aload_n 0, 1) := by decide +kernel
theorem dX12_signNow_14 : decode cX12_signNow 14 = .ok (.iload_n 1, 1) := by decide +kernel
theorem dX12_signNow_15 : decode cX12_signNow 15 = .ok (.invokevirtual 305, 3) := by decide +kernel
theorem dX12_signNow_18 : decode cX12_signNow 18 = .ok (.aload_n 0, 1) := by decide +kernel
theorem dX12_signNow_19 : decode cX12_signNow 19 = .ok (.aload_n 0, 1) := by decide +kernel
theorem dX12_signNow_20 : decode cX12_signNow 20 = .ok (.getfield 93, 3) := by decide +kernel
theorem dX12_signNow_23 : decode cX12_signNow 23 = .ok (.iconst 0, 1) := by decide +kernel
theorem dX12_signNow_24 : decode cX12_signNow 24 = .ok (.iload_n 2, 1) := by decide +kernel
theorem dX12_signNow_25 : decode cX12_signNow 25 = .ok (.invokevirtual 279, 3) := by decide +kernel
theorem dX12_signNow_28 : decode cX12_signNow 28 = .ok (.aload_n 0, 1) := by decide +kernel
theorem dX12_signNow_29 : decode cX12_signNow 29 = .ok (.iload_n 1, 1) := by decide +kernel
theorem dX12_signNow_30 : decode cX12_signNow 30 = .ok (.invokevirtual 309, 3) := by decide +kernel
theorem dX12_signNow_33 : decode cX12_signNow 33 = .ok (.aload_n 0, 1) := by decide +kernel
theorem dX12_signNow_34 : decode cX12_signNow 34 = .ok (.invokevirtual 289, 3) := by decide +kernel
theorem dX12_signNow_37 : decode cX12_signNow 37 = .ok (.aload_n 0, 1) := by decide +kernel
theorem dX12_signNow_38 : decode cX12_signNow 38 = .ok (.aload_n 0, 1) := by decide +kernel
theorem dX12_signNow_39 : decode cX12_signNow 39 = .ok (.getfield 99, 3) := by decide +kernel
theorem dX12_signNow_42 : decode cX12_signNow 42 = .ok (.aload_n 0, 1) := by decide +kernel
theorem dX12_signNow_43 : decode cX12_signNow 43 = .ok (.getfield 66, 3) := by decide +kernel
theorem dX12_signNow_46 : decode cX12_signNow 46 = .ok (.iconst 2, 1) := by decide +kernel
theorem dX12_signNow_47 : decode cX12_signNow 47 = .ok (.iload_n 2, 1) := by decide +kernel
theorem dX12_signNow_48 : decode cX12_signNow 48 = .ok (.imul, 1) := by decide +kernel
theorem dX12_signNow_49 : decode cX12_signNow 49 = .ok (.invokevirtual 235, 3) := by decide +kernel
theorem dX12_signNow_52 : decode cX12_signNow 52 = .ok (.aload_n 0, 1) := by decide +kernel
theorem dX12_signNow_53 : decode cX12_signNow 53 = .ok (.bipush 46, 2) := by decide +kernel
theorem dX12_signNow_55 : decode cX12_signNow 55 = .ok (.bipush 13, 2) := by decide +kernel
theorem dX12_signNow_57 : decode cX12_signNow 57 = .ok (.iconst 3, 1) := by decide +kernel
theorem dX12_signNow_58 : decode cX12_signNow 58 = .ok (.aload_n 0, 1) := by decide +kernel
theorem dX12_signNow_59 : decode cX12_signNow 59 = .ok (.getfield 51, 3) := by decide +kernel
theorem dX12_signNow_62 : decode cX12_signNow 62 = .ok (.imul, 1) := by decide +kernel
theorem dX12_signNow_63 : decode cX12_signNow 63 = .ok (.iadd, 1) := by decide +kernel
theorem dX12_signNow_64 : decode cX12_signNow 64 = .ok (.aload_n 0, 1) := by decide +kernel
theorem dX12_signNow_65 : decode cX12_signNow 65 = .ok (.getfield 99, 3) := by decide +kernel
theorem dX12_signNow_68 : decode cX12_signNow 68 = .ok (.iload_n 2, 1) := by decide +kernel
theorem dX12_signNow_69 : decode cX12_signNow 69 = .ok (.invokevirtual 292, 3) := by decide +kernel
theorem dX12_signNow_72 : decode cX12_signNow 72 = .ok (.aload_n 0, 1) := by decide +kernel
theorem dX12_signNow_73 : decode cX12_signNow 73 = .ok (.bipush 46, 2) := by decide +kernel
theorem dX12_signNow_75 : decode cX12_signNow 75 = .ok (.invokevirtual 296, 3) := by decide +kernel
theorem dX12_signNow_78 : decode cX12_signNow 78 = .ok (.iconst 0, 1) := by decide +kernel
theorem dX12_signNow_79 : decode cX12_signNow 79 = .ok (.istore_n 3, 1) := by decide +kernel
theorem dX12_signNow_80 : decode cX12_signNow 80 = .ok (.iload_n 3, 1) := by decide +kernel
theorem dX12_signNow_81 : decode cX12_signNow 81 = .ok (.iload_n 2, 1) := by decide +kernel
theorem dX12_signNow_82 : decode cX12_signNow 82 = .ok (.if_icmp .ge 21, 3) := by decide +kernel
theorem dX12_signNow_85 : decode cX12_signNow 85 = .ok (.aload_n 0, 1) := by decide +kernel
theorem dX12_signNow_86 : decode cX12_signNow 86 = .ok (.getfield 23, 3) := by decide +kernel
theorem dX12_signNow_89 : decode cX12_signNow 89 = .ok (.iload_n 3, 1) := by decide +kernel
theorem dX12_signNow_90 : decode cX12_signNow 90 = .ok (.aload_n 0, 1) := by decide +kernel
theorem dX12_signNow_91 : decode cX12_signNow 91 = .ok (.getfield 111, 3) := by decide +kernel
theorem dX12_signNow_94 : decode cX12_signNow 94 = .ok (.iload_n 3, 1) := by decide +kernel
theorem dX12_signNow_95 : decode cX12_signNow 95 = .ok (.iaload, 1) := by decide +kernel
theorem dX12_signNow_96 : decode cX12_signNow 96 = .ok (.iastore, 1) := by decide +kernel
theorem dX12_signNow_97 : decode cX12_signNow 97 = .ok (.iinc 3 1, 3) := by decide +kernel
theorem dX12_signNow_100 : decode cX12_signNow 100 = .ok (.goto (-20), 3) := by decide +kernel
theorem dX12_signNow_103 : decode cX12_signNow 103 = .ok (.aload_n 0, 1) := by decide +kernel
theorem dX12_signNow_104 : decode cX12_signNow 104 = .ok (.iload_n 1, 1) := by decide +kernel
theorem dX12_signNow_105 : decode cX12_signNow 105 = .ok (.invokevirtual 305, 3) := by decide +kernel
theorem dX12_signNow_108 : decode cX12_signNow 108 = .ok (.aload_n 0, 1) := by decide +kernel
theorem dX12_signNow_109 : decode cX12_signNow 109 = .ok (.aload_n 0, 1) := by decide +kernel
theorem dX12_signNow_110 : decode cX12_signNow 110 = .ok (.getfield 23, 3) := by decide +kernel
theorem dX12_signNow_113 : decode cX12_signNow 113 = .ok (.iconst 0, 1) := by decide +kernel
theorem dX12_signNow_114 : decode cX12_signNow 114 = .ok (.iload_n 2, 1) := by decide +kernel
theorem dX12_signNow_115 : decode cX12_signNow 115 = .ok (.invokevirtual 279, 3) := by decide +kernel
theorem dX12_signNow_118 : decode cX12_signNow 118 = .ok (.aload_n 0, 1) := by decide +kernel
theorem dX12_signNow_119 : decode cX12_signNow 119 = .ok (.aload_n 0, 1) := by decide +kernel
theorem dX12_signNow_120 : decode cX12_signNow 120 = .ok (.getfield 96, 3) := by decide +kernel
theorem dX12_signNow_123 : decode cX12_signNow 123 = .ok (.iconst 0, 1) := by decide +kernel
theorem dX12_signNow_124 : decode cX12_signNow 124 = .ok (.iload_n 2, 1) := by decide +kernel
theorem dX12_signNow_125 : decode cX12_signNow 125 = .ok (.invokevirtual 279, 3) := by decide +kernel
theorem dX12_signNow_128 : decode cX12_signNow 128 = .ok (.aload_n 0, 1) := by decide +kernel
theorem dX12_signNow_129 : decode cX12_signNow 129 = .ok (.iload_n 1, 1) := by decide +kernel
theorem dX12_signNow_130 : decode cX12_signNow 130 = .ok (.invokevirtual 309, 3) := by decide +kernel
theorem dX12_signNow_133 : decode cX12_signNow 133 = .ok (.aload_n 0, 1) := by decide +kernel
theorem dX12_signNow_134 : decode cX12_signNow 134 = .ok (.invokevirtual 289, 3) := by decide +kernel
theorem dX12_signNow_137 : decode cX12_signNow 137 = .ok (.aload_n 0, 1) := by decide +kernel
theorem dX12_signNow_138 : decode cX12_signNow 138 = .ok (.aload_n 0, 1) := by decide +kernel
theorem dX12_signNow_139 : decode cX12_signNow 139 = .ok (.getfield 102, 3) := by decide +kernel
theorem dX12_signNow_142 : decode cX12_signNow 142 = .ok (.aload_n 0, 1) := by decide +kernel
theorem dX12_signNow_143 : decode cX12_signNow 143 = .ok (.getfield 66, 3) := by decide +kernel
theorem dX12_signNow_146 : decode cX12_signNow 146 = .ok (.iconst 2, 1) := by decide +kernel
theorem dX12_signNow_147 : decode cX12_signNow 147 = .ok (.iload_n 2, 1) := by decide +kernel
theorem dX12_signNow_148 : decode cX12_signNow 148 = .ok (.imul, 1) := by decide +kernel
theorem dX12_signNow_149 : decode cX12_signNow 149 = .ok (.invokevirtual 235, 3) := by decide +kernel
theorem dX12_signNow_152 : decode cX12_signNow 152 = .ok (.aload_n 0, 1) := by decide +kernel
theorem dX12_signNow_153 : decode cX12_signNow 153 = .ok (.invokevirtual 312, 3) := by decide +kernel
theorem dX12_signNow_156 : decode cX12_signNow 156 = .ok (.iconst 0, 1) := by decide +kernel
theorem dX12_signNow_157 : decode cX12_signNow 157 = .ok (.istore_n 3, 1) := by decide +kernel
theorem dX12_signNow_158 : decode cX12_signNow 158 = .ok (.iload_n 3, 1) := by decide +kernel
theorem dX12_signNow_159 : decode cX12_signNow 159 = .ok (.iload_n 2, 1) := by decide +kernel
theorem dX12_signNow_160 : decode cX12_signNow 160 = .ok (.if_icmp .ge 23, 3) := by decide +kernel
theorem dX12_signNow_163 : decode cX12_signNow 163 = .ok (.aload_n 0, 1) := by decide +kernel
theorem dX12_signNow_164 : decode cX12_signNow 164 = .ok (.getfield 23, 3) := by decide +kernel
theorem dX12_signNow_167 : decode cX12_signNow 167 = .ok (.iload_n 2, 1) := by decide +kernel
theorem dX12_signNow_168 : decode cX12_signNow 168 = .ok (.iload_n 3, 1) := by decide +kernel
theorem dX12_signNow_169 : decode cX12_signNow 169 = .ok (.iadd, 1) := by decide +kernel
theorem dX12_signNow_170 : decode cX12_signNow 170 = .ok (.aload_n 0, 1) := by decide +kernel
theorem dX12_signNow_171 : decode cX12_signNow 171 = .ok (.getfield 102, 3) := by decide +kernel
theorem dX12_signNow_174 : decode cX12_signNow 174 = .ok (.iload_n 3, 1) := by decide +kernel
theorem dX12_signNow_175 : decode cX12_signNow 175 = .ok (.iaload, 1) := by decide +kernel
theorem dX12_signNow_176 : decode cX12_signNow 176 = .ok (.iastore, 1) := by decide +kernel
theorem dX12_signNow_177 : decode cX12_signNow 177 = .ok (.iinc 3 1, 3) := by decide +kernel
theorem dX12_signNow_180 : decode cX12_signNow 180 = .ok (.goto (-22), 3) := by decide +kernel
theorem dX12_signNow_183 : decode cX12_signNow 183 = .ok (.aload_n 0, 1) := by decide +kernel
theorem dX12_signNow_184 : decode cX12_signNow 184 = .ok (.iconst 2, 1) := by decide +kernel
theorem dX12_signNow_185 : decode cX12_signNow 185 = .ok (.iload_n 2, 1) := by decide +kernel
theorem dX12_signNow_186 : decode cX12_signNow 186 = .ok (.imul, 1) := by decide +kernel
theorem dX12_signNow_187 : decode cX12_signNow 187 = .ok (.putfield 26, 3) := by decide +kernel
theorem dX12_signNow_190 : decode cX12_signNow 190 = .ok (.return_, 1) := by decide +kernel
theorem dX12_verified_0 : decode cX12_verified 0 = .ok (.aload_n 0, 1) := by decide +kernel
theorem dX12_verified_1 : decode cX12_verified 1 = .ok (.invokevirtual 231, 3) := by decide +kernel
theorem dX12_verified_4 : decode cX12_verified 4 = .ok (.istore_n 2, 1) := by decide +kernel
theorem dX12_verified_5 : decode cX12_verified 5 = .ok (.aload_n 0, 1) := by decide +kernel
theorem dX12_verified_6 : decode cX12_verified 6 = .ok (.bipush 46, 2) := by decide +kernel
theorem dX12_verified_8 : decode cX12_verified 8 = .ok (.aload_n 0, 1) := by decide +kernel
theorem dX12_verified_9 : decode cX12_verified 9 = .ok (.getfield 17, 3) := by decide +kernel
theorem dX12_verified_12 : decode cX12_verified 12 = .ok (.iconst 0, 1) := by decide +kernel
theorem dX12_verified_13 : decode cX12_verified 13 = .ok (.invokevirtual 315, 3) := by decide +kernel
theorem dX12_verified_16 : decode cX12_verified 16 = .ok (.ifCond .eq 17, 3) := by decide +kernel
theorem dX12_verified_19 : decode cX12_verified 19 = .ok (.aload_n 0, 1) := by decide +kernel
theorem dX12_verified_20 : decode cX12_verified 20 = .ok (.bipush 54, 2) := by decide +kernel
theorem dX12_verified_22 : decode cX12_verified 22 = .ok (.aload_n 0, 1) := by decide +kernel
theorem dX12_verified_23 : decode cX12_verified 23 = .ok (.getfield 20, 3) := by decide +kernel
theorem dX12_verified_26 : decode cX12_verified 26 = .ok (.iconst 0, 1) := by decide +kernel
theorem dX12_verified_27 : decode cX12_verified 27 = .ok (.invokevirtual 315, 3) := by decide +kernel
theorem dX12_verified_30 : decode cX12_verified 30 = .ok (.ifCond .ne 5, 3) := by decide +kernel
theorem dX12_verified_33 : decode cX12_verified 33 = .ok (.iconst 0, 1) := by decide +kernel
theorem dX12_verified_34 : decode cX12_verified 34 = .ok (.ireturn, 1) := by decide +kernel
theorem dX12_verified_35 : decode cX12_verified 35 = .ok (.aload_n 0, 1) := by decide +kernel
theorem dX12_verified_36 : decode cX12_verified 36 = .ok (.bipush 53, 2) := by decide +kernel
theorem dX12_verified_38 : decode cX12_verified 38 = .ok (.invokevirtual 168, 3) := by decide +kernel
theorem dX12_verified_41 : decode cX12_verified 41 = .ok (.iconst 0, 1) := by decide +kernel
theorem dX12_verified_42 : decode cX12_verified 42 = .ok (.istore_n 3, 1) := by decide +kernel
theorem dX12_verified_43 : decode cX12_verified 43 = .ok (.iload_n 3, 1) := by decide +kernel
theorem dX12_verified_44 : decode cX12_verified 44 = .ok (.iload_n 2, 1) := by decide +kernel
theorem dX12_verified_45 : decode cX12_verified 45 = .ok (.if_icmp .ge 63, 3) := by decide +kernel
theorem dX12_verified_48 : decode cX12_verified 48 = .ok (.aload_n 0, 1) := by decide +kernel
theorem dX12_verified_49 : decode cX12_verified 49 = .ok (.getfield 41, 3) := by decide +kernel
theorem dX12_verified_52 : decode cX12_verified 52 = .ok (.sipush 1696, 3) := by decide +kernel
theorem dX12_verified_55 : decode cX12_verified 55 = .ok (.iload_n 3, 1) := by decide +kernel
theorem dX12_verified_56 : decode cX12_verified 56 = .ok (.iconst 1, 1) := by decide +kernel
theorem dX12_verified_57 : decode cX12_verified 57 = .ok (.ishr, 1) := by decide +kernel
theorem dX12_verified_58 : decode cX12_verified 58 = .ok (.iadd, 1) := by decide +kernel
theorem dX12_verified_59 : decode cX12_verified 59 = .ok (.aload_n 0, 1) := by decide +kernel
theorem dX12_verified_60 : decode cX12_verified 60 = .ok (.getfield 41, 3) := by decide +kernel
theorem dX12_verified_63 : decode cX12_verified 63 = .ok (.sipush 1696, 3) := by decide +kernel
theorem dX12_verified_66 : decode cX12_verified 66 = .ok (.iload_n 3, 1) := by decide +kernel
theorem dX12_verified_67 : decode cX12_verified 67 = .ok (.iconst 1, 1) := by decide +kernel
theorem dX12_verified_68 : decode cX12_verified 68 = .ok (.ishr, 1) := by decide +kernel
theorem dX12_verified_69 : decode cX12_verified 69 = .ok (.iadd, 1) := by decide +kernel
theorem dX12_verified_70 : decode cX12_verified 70 = .ok (.iaload, 1) := by decide +kernel
theorem dX12_verified_71 : decode cX12_verified 71 = .ok (.aload_n 0, 1) := by decide +kernel
theorem dX12_verified_72 : decode cX12_verified 72 = .ok (.getfield 20, 3) := by decide +kernel
theorem dX12_verified_75 : decode cX12_verified 75 = .ok (.iload_n 2, 1) := by decide +kernel
theorem dX12_verified_76 : decode cX12_verified 76 = .ok (.iload_n 3, 1) := by decide +kernel
theorem dX12_verified_77 : decode cX12_verified 77 = .ok (.iadd, 1) := by decide +kernel
theorem dX12_verified_78 : decode cX12_verified 78 = .ok (.iaload, 1) := by decide +kernel
theorem dX12_verified_79 : decode cX12_verified 79 = .ok (.bipush 8, 2) := by decide +kernel
theorem dX12_verified_81 : decode cX12_verified 81 = .ok (.iload_n 3, 1) := by decide +kernel
theorem dX12_verified_82 : decode cX12_verified 82 = .ok (.iconst 1, 1) := by decide +kernel
theorem dX12_verified_83 : decode cX12_verified 83 = .ok (.iand, 1) := by decide +kernel
theorem dX12_verified_84 : decode cX12_verified 84 = .ok (.imul, 1) := by decide +kernel
theorem dX12_verified_85 : decode cX12_verified 85 = .ok (.ishl, 1) := by decide +kernel
theorem dX12_verified_86 : decode cX12_verified 86 = .ok (.ior, 1) := by decide +kernel
theorem dX12_verified_87 : decode cX12_verified 87 = .ok (.iastore, 1) := by decide +kernel
theorem dX12_verified_88 : decode cX12_verified 88 = .ok (.aload_n 0, 1) := by decide +kernel
theorem dX12_verified_89 : decode cX12_verified 89 = .ok (.getfield 99, 3) := by decide +kernel
theorem dX12_verified_92 : decode cX12_verified 92 = .ok (.iload_n 3, 1) := by decide +kernel
theorem dX12_verified_93 : decode cX12_verified 93 = .ok (.aload_n 0, 1) := by decide +kernel
theorem dX12_verified_94 : decode cX12_verified 94 = .ok (.getfield 20, 3) := by decide +kernel
theorem dX12_verified_97 : decode cX12_verified 97 = .ok (.iload_n 2, 1) := by decide +kernel
theorem dX12_verified_98 : decode cX12_verified 98 = .ok (.iload_n 3, 1) := by decide +kernel
theorem dX12_verified_99 : decode cX12_verified 99 = .ok (.iadd, 1) := by decide +kernel
theorem dX12_verified_100 : decode cX12_verified 100 = .ok (.iaload, 1) := by decide +kernel
theorem dX12_verified_101 : decode cX12_verified 101 = .ok (.iastore, 1) := by decide +kernel
theorem dX12_verified_102 : decode cX12_verified 102 = .ok (.iinc 3 1, 3) := by decide +kernel
theorem dX12_verified_105 : decode cX12_verified 105 = .ok (.goto (-62), 3) := by decide +kernel
theorem dX12_verified_108 : decode cX12_verified 108 = .ok (.aload_n 0, 1) := by decide +kernel
theorem dX12_verified_109 : decode cX12_verified 109 = .ok (.getfield 41, 3) := by decide +kernel
theorem dX12_verified_112 : decode cX12_verified 112 = .ok (.sipush 1724, 3) := by decide +kernel
theorem dX12_verified_115 : decode cX12_verified 115 = .ok (.iaload, 1) := by decide +kernel
theorem dX12_verified_116 : decode cX12_verified 116 = .ok (.ifCond .ne 19, 3) := by decide +kernel
theorem dX12_verified_119 : decode cX12_verified 119 = .ok (.aload_n 0, 1) := by decide +kernel
theorem dX12_verified_120 : decode cX12_verified 120 = .ok (.bipush 53, 2) := by decide +kernel
theorem dX12_verified_122 : decode cX12_verified 122 = .ok (.bipush 19, 2) := by decide +kernel
theorem dX12_verified_124 : decode cX12_verified 124 = .ok (.aload_n 0, 1) := by decide +kernel
theorem dX12_verified_125 : decode cX12_verified 125 = .ok (.getfield 51, 3) := by decide +kernel
theorem dX12_verified_128 : decode cX12_verified 128 = .ok (.iadd, 1) := by decide +kernel
theorem dX12_verified_129 : decode cX12_verified 129 = .ok (.invokevirtual 183, 3) := by decide +kernel
theorem dX12_verified_132 : decode cX12_verified 132 = .ok (.ifCond .eq 5, 3) := by decide +kernel
theorem dX12_verified_135 : decode cX12_verified 135 = .ok (.iconst 0, 1) := by decide +kernel
theorem dX12_verified_136 : decode cX12_verified 136 = .ok (.ireturn, 1) := by decide +kernel
theorem dX12_verified_137 : decode cX12_verified 137 = .ok (.aload_n 0, 1) := by decide +kernel
theorem dX12_verified_138 : decode cX12_verified 138 = .ok (.invokevirtual 299, 3) := by decide +kernel
theorem dX12_verified_141 : decode cX12_verified 141 = .ok (.aload_n 0, 1) := by decide +kernel
theorem dX12_verified_142 : decode cX12_verified 142 = .ok (.iload_n 1, 1) := by decide +kernel
theorem dX12_verified_143 : decode cX12_verified 143 = .ok (.invokevirtual 305, 3) := by decide +kernel
theorem dX12_verified_146 : decode cX12_verified 146 = .ok (.aload_n 0, 1) := by decide +kernel
theorem dX12_verified_147 : decode cX12_verified 147 = .ok (.aload_n 0, 1) := by decide +kernel
theorem dX12_verified_148 : decode cX12_verified 148 = .ok (.getfield 20, 3) := by decide +kernel
theorem dX12_verified_151 : decode cX12_verified 151 = .ok (.iconst 0, 1) := by decide +kernel
theorem dX12_verified_152 : decode cX12_verified 152 = .ok (.iload_n 2, 1) := by decide +kernel
theorem dX12_verified_153 : decode cX12_verified 153 = .ok (.invokevirtual 279, 3) := by decide +kernel
theorem dX12_verified_156 : decode cX12_verified 156 = .ok (.aload_n 0, 1) := by decide +kernel
theorem dX12_verified_157 : decode cX12_verified 157 = .ok (.aload_n 0, 1) := by decide +kernel
theorem dX12_verified_158 : decode cX12_verified 158 = .ok (.getfield 17, 3) := by decide +kernel
theorem dX12_verified_161 : decode cX12_verified 161 = .ok (.iconst 0, 1) := by decide +kernel
theorem dX12_verified_162 : decode cX12_verified 162 = .ok (.iload_n 2, 1) := by decide +kernel
theorem dX12_verified_163 : decode cX12_verified 163 = .ok (.invokevirtual 279, 3) := by decide +kernel
theorem dX12_verified_166 : decode cX12_verified 166 = .ok (.aload_n 0, 1) := by decide +kernel
theorem dX12_verified_167 : decode cX12_verified 167 = .ok (.iload_n 1, 1) := by decide +kernel
theorem dX12_verified_168 : decode cX12_verified 168 = .ok (.invokevirtual 309, 3) := by decide +kernel
theorem dX12_verified_171 : decode cX12_verified 171 = .ok (.aload_n 0, 1) := by decide +kernel
theorem dX12_verified_172 : decode cX12_verified 172 = .ok (.invokevirtual 289, 3) := by decide +kernel
theorem dX12_verified_175 : decode cX12_verified 175 = .ok (.aload_n 0, 1) := by decide +kernel
theorem dX12_verified_176 : decode cX12_verified 176 = .ok (.aload_n 0, 1) := by decide +kernel
theorem dX12_verified_177 : decode cX12_verified 177 = .ok (.getfield 102, 3) := by decide +kernel
theorem dX12_verified_180 : decode cX12_verified 180 = .ok (.aload_n 0, 1) := by decide +kernel
theorem dX12_verified_181 : decode cX12_verified 181 = .ok (.getfield 66, 3) := by decide +kernel
theorem dX12_verified_184 : decode cX12_verified 184 = .ok (.iconst 2, 1) := by decide +kernel
theorem dX12_verified_185 : decode cX12_verified 185 = .ok (.iload_n 2, 1) := by decide +kernel
theorem dX12_verified_186 : decode cX12_verified 186 = .ok (.imul, 1) := by decide +kernel
theorem dX12_verified_187 : decode cX12_verified 187 = .ok (.invokevirtual 235, 3) := by decide +kernel
theorem dX12_verified_190 : decode cX12_verified 190 = .ok (.aload_n 0, 1) := by decide +kernel
theorem dX12_verified_191 : decode cX12_verified 191 = .ok (.bipush 46, 2) := by decide +kernel
theorem dX12_verified_193 : decode cX12_verified 193 = .ok (.bipush 46, 2) := by decide +kernel
theorem dX12_verified_195 : decode cX12_verified 195 = .ok (.aload_n 0, 1) := by decide +kernel
theorem dX12_verified_196 : decode cX12_verified 196 = .ok (.getfield 102, 3) := by decide +kernel
theorem dX12_verified_199 : decode cX12_verified 199 = .ok (.iload_n 2, 1) := by decide +kernel
theorem dX12_verified_200 : decode cX12_verified 200 = .ok (.invokevirtual 292, 3) := by decide +kernel
theorem dX12_verified_203 : decode cX12_verified 203 = .ok (.aload_n 0, 1) := by decide +kernel
theorem dX12_verified_204 : decode cX12_verified 204 = .ok (.bipush 54, 2) := by decide +kernel
theorem dX12_verified_206 : decode cX12_verified 206 = .ok (.bipush 54, 2) := by decide +kernel
theorem dX12_verified_208 : decode cX12_verified 208 = .ok (.bipush 46, 2) := by decide +kernel
theorem dX12_verified_210 : decode cX12_verified 210 = .ok (.invokevirtual 224, 3) := by decide +kernel
theorem dX12_verified_213 : decode cX12_verified 213 = .ok (.aload_n 0, 1) := by decide +kernel
theorem dX12_verified_214 : decode cX12_verified 214 = .ok (.bipush 57, 2) := by decide +kernel
theorem dX12_verified_216 : decode cX12_verified 216 = .ok (.bipush 13, 2) := by decide +kernel
theorem dX12_verified_218 : decode cX12_verified 218 = .ok (.iconst 3, 1) := by decide +kernel
theorem dX12_verified_219 : decode cX12_verified 219 = .ok (.aload_n 0, 1) := by decide +kernel
theorem dX12_verified_220 : decode cX12_verified 220 = .ok (.getfield 51, 3) := by decide +kernel
theorem dX12_verified_223 : decode cX12_verified 223 = .ok (.imul, 1) := by decide +kernel
theorem dX12_verified_224 : decode cX12_verified 224 = .ok (.iadd, 1) := by decide +kernel
theorem dX12_verified_225 : decode cX12_verified 225 = .ok (.aload_n 0, 1) := by decide +kernel
theorem dX12_verified_226 : decode cX12_verified 226 = .ok (.getfield 99, 3) := by decide +kernel
theorem dX12_verified_229 : decode cX12_verified 229 = .ok (.iload_n 2, 1) := by decide +kernel
theorem dX12_verified_230 : decode cX12_verified 230 = .ok (.invokevirtual 292, 3) := by decide +kernel
theorem dX12_verified_233 : decode cX12_verified 233 = .ok (.iconst 0, 1) := by decide +kernel
theorem dX12_verified_234 : decode cX12_verified 234 = .ok (.istore_n 3, 1) := by decide +kernel
theorem dX12_verified_235 : decode cX12_verified 235 = .ok (.iload_n 3, 1) := by decide +kernel
theorem dX12_verified_236 : decode cX12_verified 236 = .ok (.aload_n 0, 1) := by decide +kernel
theorem dX12_verified_237 : decode cX12_verified 237 = .ok (.getfield 51, 3) := by decide +kernel
theorem dX12_verified_240 : decode cX12_verified 240 = .ok (.ifCond .ne 7, 3) := by decide +kernel
theorem dX12_verified_243 : decode cX12_verified 243 = .ok (.iconst 3, 1) := by decide +kernel
theorem dX12_verified_244 : decode cX12_verified 244 = .ok (.goto 4, 3) := by decide +kernel
theorem dX12_verified_247 : decode cX12_verified 247 = .ok (.iconst 2, 1) := by decide +kernel
theorem dX12_verified_248 : decode cX12_verified 248 = .ok (.if_icmp .ge 29, 3) := by decide +kernel
theorem dX12_verified_251 : decode cX12_verified 251 = .ok (.aload_n 0, 1) := by decide +kernel
theorem dX12_verified_252 : decode cX12_verified 252 = .ok (.bipush 54, 2) := by decide +kernel
theorem dX12_verified_254 : decode cX12_verified 254 = .ok (.bipush 54, 2) := by decide +kernel
theorem dX12_verified_256 : decode cX12_verified 256 = .ok (.bipush 54, 2) := by decide +kernel
theorem dX12_verified_258 : decode cX12_verified 258 = .ok (.invokevirtual 224, 3) := by decide +kernel
theorem dX12_verified_261 : decode cX12_verified 261 = .ok (.aload_n 0, 1) := by decide +kernel
theorem dX12_verified_262 : decode cX12_verified 262 = .ok (.bipush 57, 2) := by decide +kernel
theorem dX12_verified_264 : decode cX12_verified 264 = .ok (.bipush 57, 2) := by decide +kernel
theorem dX12_verified_266 : decode cX12_verified 266 = .ok (.bipush 57, 2) := by decide +kernel
theorem dX12_verified_268 : decode cX12_verified 268 = .ok (.invokevirtual 224, 3) := by decide +kernel
theorem dX12_verified_271 : decode cX12_verified 271 = .ok (.iinc 3 1, 3) := by decide +kernel
theorem dX12_verified_274 : decode cX12_verified 274 = .ok (.goto (-39), 3) := by decide +kernel
theorem dX12_verified_277 : decode cX12_verified 277 = .ok (.aload_n 0, 1) := by decide +kernel
theorem dX12_verified_278 : decode cX12_verified 278 = .ok (.bipush 54, 2) := by decide +kernel
theorem dX12_verified_280 : decode cX12_verified 280 = .ok (.bipush 57, 2) := by decide +kernel
theorem dX12_verified_282 : decode cX12_verified 282 = .ok (.invokevirtual 319, 3) := by decide +kernel
theorem dX12_verified_285 : decode cX12_verified 285 = .ok (.ireturn, 1) := by decide +kernel
theorem dX12_ladder_0 : decode cX12_ladder 0 = .ok (.aload_n 0, 1) := by decide +kernel
theorem dX12_ladder_1 : decode cX12_ladder 1 = .ok (.getfield 51, 3) := by decide +kernel
theorem dX12_ladder_4 : decode cX12_ladder 4 = .ok (.ifCond .ne 8, 3) := by decide +kernel
theorem dX12_ladder_7 : decode cX12_ladder 7 = .ok (.bipush 32, 2) := by decide +kernel
theorem dX12_ladder_9 : decode cX12_ladder 9 = .ok (.goto 5, 3) := by decide +kernel
theorem dX12_ladder_12 : decode cX12_ladder 12 = .ok (.bipush 56, 2) := by decide +kernel
theorem dX12_ladder_14 : decode cX12_ladder 14 = .ok (.istore_n 2, 1) := by decide +kernel
theorem dX12_ladder_15 : decode cX12_ladder 15 = .ok (.iconst 0, 1) := by decide +kernel
theorem dX12_ladder_16 : decode cX12_ladder 16 = .ok (.istore_n 3, 1) := by decide +kernel
theorem dX12_ladder_17 : decode cX12_ladder 17 = .ok (.iload_n 3, 1) := by decide +kernel
theorem dX12_ladder_18 : decode cX12_ladder 18 = .ok (.bipush 57, 2) := by decide +kernel
theorem dX12_ladder_20 : decode cX12_ladder 20 = .ok (.if_icmp .ge 30, 3) := by decide +kernel
theorem dX12_ladder_23 : decode cX12_ladder 23 = .ok (.aload_n 0, 1) := by decide +kernel
theorem dX12_ladder_24 : decode cX12_ladder 24 = .ok (.getfield 90, 3) := by decide +kernel
theorem dX12_ladder_27 : decode cX12_ladder 27 = .ok (.iload_n 3, 1) := by decide +kernel
theorem dX12_ladder_28 : decode cX12_ladder 28 = .ok (.iload_n 3, 1) := by decide +kernel
theorem dX12_ladder_29 : decode cX12_ladder 29 = .ok (.iload_n 2, 1) := by decide +kernel
theorem dX12_ladder_30 : decode cX12_ladder 30 = .ok (.if_icmp .ge 12, 3) := by decide +kernel
theorem dX12_ladder_33 : decode cX12_ladder 33 = .ok (.aload_n 0, 1) := by decide +kernel
theorem dX12_ladder_34 : decode cX12_ladder 34 = .ok (.getfield 13, 3) := by decide +kernel
theorem dX12_ladder_37 : decode cX12_ladder 37 = .ok (.iload_n 3, 1) := by decide +kernel
theorem dX12_ladder_38 : decode cX12_ladder 38 = .ok (.iaload, 1) := by decide +kernel
theorem dX12_ladder_39 : decode cX12_ladder 39 = .ok (.goto 4, 3) := by decide +kernel
theorem dX12_ladder_42 : decode cX12_ladder 42 = .ok (.iconst 0, 1) := by decide +kernel
theorem dX12_ladder_43 : decode cX12_ladder 43 = .ok (.iastore, 1) := by decide +kernel
theorem dX12_ladder_44 : decode cX12_ladder 44 = .ok (.iinc 3 1, 3) := by decide +kernel
theorem dX12_ladder_47 : decode cX12_ladder 47 = .ok (.goto (-30), 3) := by decide +kernel
theorem dX12_ladder_50 : decode cX12_ladder 50 = .ok (.aload_n 0, 1) := by decide +kernel
theorem dX12_ladder_51 : decode cX12_ladder 51 = .ok (.getfield 90, 3) := by decide +kernel
theorem dX12_ladder_54 : decode cX12_ladder 54 = .ok (.iconst 0, 1) := by decide +kernel
theorem dX12_ladder_55 : decode cX12_ladder 55 = .ok (.aload_n 0, 1) := by decide +kernel
theorem dX12_ladder_56 : decode cX12_ladder 56 = .ok (.getfield 90, 3) := by decide +kernel
theorem dX12_ladder_59 : decode cX12_ladder 59 = .ok (.iconst 0, 1) := by decide +kernel
theorem dX12_ladder_60 : decode cX12_ladder 60 = .ok (.iaload, 1) := by decide +kernel
theorem dX12_ladder_61 : decode cX12_ladder 61 = .ok (.aload_n 0, 1) := by decide +kernel
theorem dX12_ladder_62 : decode cX12_ladder 62 = .ok (.getfield 51, 3) := by decide +kernel
theorem dX12_ladder_65 : decode cX12_ladder 65 = .ok (.ifCond .ne 9, 3) := by decide +kernel
theorem dX12_ladder_68 : decode cX12_ladder 68 = .ok (.sipush 248, 3) := by decide +kernel
theorem dX12_ladder_71 : decode cX12_ladder 71 = .ok (.goto 6, 3) := by decide +kernel
theorem dX12_ladder_74 : decode cX12_ladder 74 = .ok (.sipush 252, 3) := by decide +kernel
theorem dX12_ladder_77 : decode cX12_ladder 77 = .ok (.iand, 1) := by decide +kernel
theorem dX12_ladder_78 : decode cX12_ladder 78 = .ok (.iastore, 1) := by decide +kernel
theorem dX12_ladder_79 : decode cX12_ladder 79 = .ok (.aload_n 0, 1) := by decide +kernel
theorem dX12_ladder_80 : decode cX12_ladder 80 = .ok (.getfield 90, 3) := by decide +kernel
theorem dX12_ladder_83 : decode cX12_ladder 83 = .ok (.iload_n 2, 1) := by decide +kernel
theorem dX12_ladder_84 : decode cX12_ladder 84 = .ok (.iconst 1, 1) := by decide +kernel
theorem dX12_ladder_85 : decode cX12_ladder 85 = .ok (.isub, 1) := by decide +kernel
theorem dX12_ladder_86 : decode cX12_ladder 86 = .ok (.aload_n 0, 1) := by decide +kernel
theorem dX12_ladder_87 : decode cX12_ladder 87 = .ok (.getfield 51, 3) := by decide +kernel
theorem dX12_ladder_90 : decode cX12_ladder 90 = .ok (.ifCond .ne 20, 3) := by decide +kernel
theorem dX12_ladder_93 : decode cX12_ladder 93 = .ok (.aload_n 0, 1) := by decide +kernel
theorem dX12_ladder_94 : decode cX12_ladder 94 = .ok (.getfield 90, 3) := by decide +kernel
theorem dX12_ladder_97 : decode cX12_ladder 97 = .ok (.iload_n 2, 1) := by decide +kernel
theorem dX12_ladder_98 : decode cX12_ladder 98 = .ok (.iconst 1, 1) := by decide +kernel
theorem dX12_ladder_99 : decode cX12_ladder 99 = .ok (.isub, 1) := by decide +kernel
theorem dX12_ladder_100 : decode cX12_ladder 100 = .ok (.iaload, 1) := by decide +kernel
theorem dX12_ladder_101 : decode cX12_ladder 101 = .ok (.bipush 127, 2) := by decide +kernel
theorem dX12_ladder_103 : decode cX12_ladder 103 = .ok (.iand, 1) := by decide +kernel
theorem dX12_ladder_104 : decode cX12_ladder 104 = .ok (.bipush 64, 2) := by decide +kernel
theorem dX12_ladder_106 : decode cX12_ladder 106 = .ok (.ior, 1) := by decide +kernel
theorem dX12_ladder_107 : decode cX12_ladder 107 = .ok (.goto 15, 3) := by decide +kernel
theorem dX12_ladder_110 : decode cX12_ladder 110 = .ok (.aload_n 0, 1) := by decide +kernel
theorem dX12_ladder_111 : decode cX12_ladder 111 = .ok (.getfield 90, 3) := by decide +kernel
theorem dX12_ladder_114 : decode cX12_ladder 114 = .ok (.iload_n 2, 1) := by decide +kernel
theorem dX12_ladder_115 : decode cX12_ladder 115 = .ok (.iconst 1, 1) := by decide +kernel
theorem dX12_ladder_116 : decode cX12_ladder 116 = .ok (.isub, 1) := by decide +kernel
theorem dX12_ladder_117 : decode cX12_ladder 117 = .ok (.iaload, 1) := by decide +kernel
theorem dX12_ladder_118 : decode cX12_ladder 118 = .ok (.sipush 128, 3) := by decide +kernel
theorem dX12_ladder_121 : decode cX12_ladder 121 = .ok (.ior, 1) := by decide +kernel
theorem dX12_ladder_122 : decode cX12_ladder 122 = .ok (.iastore, 1) := by decide +kernel
theorem dX12_ladder_123 : decode cX12_ladder 123 = .ok (.iconst 0, 1) := by decide +kernel
theorem dX12_ladder_124 : decode cX12_ladder 124 = .ok (.istore_n 3, 1) := by decide +kernel
theorem dX12_ladder_125 : decode cX12_ladder 125 = .ok (.iload_n 3, 1) := by decide +kernel
theorem dX12_ladder_126 : decode cX12_ladder 126 = .ok (.bipush 64, 2) := by decide +kernel
theorem dX12_ladder_128 : decode cX12_ladder 128 = .ok (.if_icmp .ge 16, 3) := by decide +kernel
theorem dX12_ladder_131 : decode cX12_ladder 131 = .ok (.aload_n 0, 1) := by decide +kernel
theorem dX12_ladder_132 : decode cX12_ladder 132 = .ok (.getfield 44, 3) := by decide +kernel
theorem dX12_ladder_135 : decode cX12_ladder 135 = .ok (.iload_n 3, 1) := by decide +kernel
theorem dX12_ladder_136 : decode cX12_ladder 136 = .ok (.lconst 0, 1) := by decide +kernel
theorem dX12_ladder_137 : decode cX12_ladder 137 = .ok (.lastore, 1) := by decide +kernel
theorem dX12_ladder_138 : decode cX12_ladder 138 = .ok (.iinc 3 1, 3) := by decide +kernel
theorem dX12_ladder_141 : decode cX12_ladder 141 = .ok (.goto (-16), 3) := by decide +kernel
theorem dX12_ladder_144 : decode cX12_ladder 144 = .ok (.iconst 0, 1) := by decide +kernel
theorem dX12_ladder_145 : decode cX12_ladder 145 = .ok (.istore_n 3, 1) := by decide +kernel
theorem dX12_ladder_146 : decode cX12_ladder 146 = .ok (.iload_n 3, 1) := by decide +kernel
theorem dX12_ladder_147 : decode cX12_ladder 147 = .ok (.iload_n 2, 1) := by decide +kernel
theorem dX12_ladder_148 : decode cX12_ladder 148 = .ok (.if_icmp .ge 91, 3) := by decide +kernel
theorem dX12_ladder_151 : decode cX12_ladder 151 = .ok (.iload_n 1, 1) := by decide +kernel
theorem dX12_ladder_152 : decode cX12_ladder 152 = .ok (.ifCond .eq 27, 3) := by decide +kernel
theorem dX12_ladder_155 : decode cX12_ladder 155 = .ok (.iload_n 3, 1) := by decide +kernel
theorem dX12_ladder_156 : decode cX12_ladder 156 = .ok (.ifCond .le 7, 3) := by decide +kernel
theorem dX12_ladder_159 : decode cX12_ladder 159 = .ok (.iconst 0, 1) := by decide +kernel
theorem dX12_ladder_160 : decode cX12_ladder 160 = .ok (.goto 50, 3) := by decide +kernel
theorem dX12_ladder_163 : decode cX12_ladder 163 = .ok (.aload_n 0, 1) := by decide +kernel
theorem dX12_ladder_164 : decode cX12_ladder 164 = .ok (.getfield 51, 3) := by decide +kernel
theorem dX12_ladder_167 : decode cX12_ladder 167 = .ok (.ifCond .ne 8, 3) := by decide +kernel
theorem dX12_ladder_170 : decode cX12_ladder 170 = .ok (.bipush 9, 2) := by decide +kernel
theorem dX12_ladder_172 : decode cX12_ladder 172 = .ok (.goto 38, 3) := by decide +kernel
theorem dX12_ladder_175 : decode cX12_ladder 175 = .ok (.iconst 5, 1) := by decide +kernel
theorem dX12_ladder_176 : decode cX12_ladder 176 = .ok (.goto 34, 3) := by decide +kernel
theorem dX12_ladder_179 : decode cX12_ladder 179 = .ok (.aload_n 0, 1) := by decide +kernel
theorem dX12_ladder_180 : decode cX12_ladder 180 = .ok (.getfield 51, 3) := by decide +kernel
theorem dX12_ladder_183 : decode cX12_ladder 183 = .ok (.ifCond .ne 21, 3) := by decide +kernel
theorem dX12_ladder_186 : decode cX12_ladder 186 = .ok (.iload_n 3, 1) := by decide +kernel
theorem dX12_ladder_187 : decode cX12_ladder 187 = .ok (.bipush 31, 2) := by decide +kernel
theorem dX12_ladder_189 : decode cX12_ladder 189 = .ok (.if_icmp .ne 15, 3) := by decide +kernel
theorem dX12_ladder_192 : decode cX12_ladder 192 = .ok (.aload_n 0, 1) := by decide +kernel
theorem dX12_ladder_193 : decode cX12_ladder 193 = .ok (.getfield 17, 3) := by decide +kernel
theorem dX12_ladder_196 : decode cX12_ladder 196 = .ok (.iload_n 3, 1) := by decide +kernel
theorem dX12_ladder_197 : decode cX12_ladder 197 = .ok (.iaload, 1) := by decide +kernel
theorem dX12_ladder_198 : decode cX12_ladder 198 = .ok (.bipush 127, 2) := by decide +kernel
theorem dX12_ladder_200 : decode cX12_ladder 200 = .ok (.iand, 1) := by decide +kernel
theorem dX12_ladder_201 : decode cX12_ladder 201 = .ok (.goto 9, 3) := by decide +kernel
theorem dX12_ladder_204 : decode cX12_ladder 204 = .ok (.aload_n 0, 1) := by decide +kernel
theorem dX12_ladder_205 : decode cX12_ladder 205 = .ok (.getfield 17, 3) := by decide +kernel
theorem dX12_ladder_208 : decode cX12_ladder 208 = .ok (.iload_n 3, 1) := by decide +kernel
theorem dX12_ladder_209 : decode cX12_ladder 209 = .ok (.iaload, 1) := by decide +kernel
theorem dX12_ladder_210 : decode cX12_ladder 210 = .ok (.istore 4, 2) := by decide +kernel
theorem dX12_ladder_212 : decode cX12_ladder 212 = .ok (.aload_n 0, 1) := by decide +kernel
theorem dX12_ladder_213 : decode cX12_ladder 213 = .ok (.getfield 44, 3) := by decide +kernel
theorem dX12_ladder_216 : decode cX12_ladder 216 = .ok (.iload_n 3, 1) := by decide +kernel
theorem dX12_ladder_217 : decode cX12_ladder 217 = .ok (.iconst 1, 1) := by decide +kernel
theorem dX12_ladder_218 : decode cX12_ladder 218 = .ok (.ishr, 1) := by decide +kernel
theorem dX12_ladder_219 : decode cX12_ladder 219 = .ok (.dup2, 1) := by decide +kernel
theorem dX12_ladder_220 : decode cX12_ladder 220 = .ok (.laload, 1) := by decide +kernel
theorem dX12_ladder_221 : decode cX12_ladder 221 = .ok (.iload 4, 2) := by decide +kernel
theorem dX12_ladder_223 : decode cX12_ladder 223 = .ok (.i2l, 1) := by decide +kernel
theorem dX12_ladder_224 : decode cX12_ladder 224 = .ok (.bipush 8, 2) := by decide +kernel
theorem dX12_ladder_226 : decode cX12_ladder 226 = .ok (.iload_n 3, 1) := by decide +kernel
theorem dX12_ladder_227 : decode cX12_ladder 227 = .ok (.iconst 1, 1) := by decide +kernel
theorem dX12_ladder_228 : decode cX12_ladder 228 = .ok (.iand, 1) := by decide +kernel
theorem dX12_ladder_229 : decode cX12_ladder 229 = .ok (.imul, 1) := by decide +kernel
theorem dX12_ladder_230 : decode cX12_ladder 230 = .ok (.lshl, 1) := by decide +kernel
theorem dX12_ladder_231 : decode cX12_ladder 231 = .ok (.ladd, 1) := by decide +kernel
theorem dX12_ladder_232 : decode cX12_ladder 232 = .ok (.lastore, 1) := by decide +kernel
theorem dX12_ladder_233 : decode cX12_ladder 233 = .ok (.iinc 3 1, 3) := by decide +kernel
theorem dX12_ladder_236 : decode cX12_ladder 236 = .ok (.goto (-90), 3) := by decide +kernel
theorem dX12_ladder_239 : decode cX12_ladder 239 = .ok (.aload_n 0, 1) := by decide +kernel
theorem dX12_ladder_240 : decode cX12_ladder 240 = .ok (.bipush 46, 2) := by decide +kernel
theorem dX12_ladder_242 : decode cX12_ladder 242 = .ok (.invokevirtual 189, 3) := by decide +kernel
theorem dX12_ladder_245 : decode cX12_ladder 245 = .ok (.aload_n 0, 1) := by decide +kernel
theorem dX12_ladder_246 : decode cX12_ladder 246 = .ok (.bipush 21, 2) := by decide +kernel
theorem dX12_ladder_248 : decode cX12_ladder 248 = .ok (.iconst 1, 1) := by decide +kernel
theorem dX12_ladder_249 : decode cX12_ladder 249 = .ok (.invokevirtual 136, 3) := by decide +kernel
theorem dX12_ladder_252 : decode cX12_ladder 252 = .ok (.aload_n 0, 1) := by decide +kernel
theorem dX12_ladder_253 : decode cX12_ladder 253 = .ok (.bipush 22, 2) := by decide +kernel
theorem dX12_ladder_255 : decode cX12_ladder 255 = .ok (.invokevirtual 148, 3) := by decide +kernel
theorem dX12_ladder_258 : decode cX12_ladder 258 = .ok (.aload_n 0, 1) := by decide +kernel
theorem dX12_ladder_259 : decode cX12_ladder 259 = .ok (.bipush 40, 2) := by decide +kernel
theorem dX12_ladder_261 : decode cX12_ladder 261 = .ok (.bipush 46, 2) := by decide +kernel
theorem dX12_ladder_263 : decode cX12_ladder 263 = .ok (.invokevirtual 194, 3) := by decide +kernel
theorem dX12_ladder_266 : decode cX12_ladder 266 = .ok (.aload_n 0, 1) := by decide +kernel
theorem dX12_ladder_267 : decode cX12_ladder 267 = .ok (.bipush 41, 2) := by decide +kernel
theorem dX12_ladder_269 : decode cX12_ladder 269 = .ok (.iconst 1, 1) := by decide +kernel
theorem dX12_ladder_270 : decode cX12_ladder 270 = .ok (.invokevirtual 136, 3) := by decide +kernel
theorem dX12_ladder_273 : decode cX12_ladder 273 = .ok (.aload_n 0, 1) := by decide +kernel
theorem dX12_ladder_274 : decode cX12_ladder 274 = .ok (.bipush 47, 2) := by decide +kernel
theorem dX12_ladder_276 : decode cX12_ladder 276 = .ok (.aload_n 0, 1) := by decide +kernel
theorem dX12_ladder_277 : decode cX12_ladder 277 = .ok (.getfield 51, 3) := by decide +kernel
theorem dX12_ladder_280 : decode cX12_ladder 280 = .ok (.ifCond .ne 8, 3) := by decide +kernel
theorem dX12_ladder_283 : decode cX12_ladder 283 = .ok (.ldc 135, 2) := by decide +kernel
theorem dX12_ladder_285 : decode cX12_ladder 285 = .ok (.goto 5, 3) := by decide +kernel
theorem dX12_ladder_288 : decode cX12_ladder 288 = .ok (.ldc 161, 2) := by decide +kernel
theorem dX12_ladder_290 : decode cX12_ladder 290 = .ok (.invokevirtual 136, 3) := by decide +kernel
theorem dX12_ladder_293 : decode cX12_ladder 293 = .ok (.aload_n 0, 1) := by decide +kernel
theorem dX12_ladder_294 : decode cX12_ladder 294 = .ok (.getfield 51, 3) := by decide +kernel
theorem dX12_ladder_297 : decode cX12_ladder 297 = .ok (.ifCond .ne 9, 3) := by decide +kernel
theorem dX12_ladder_300 : decode cX12_ladder 300 = .ok (.sipush 254, 3) := by decide +kernel
theorem dX12_ladder_303 : decode cX12_ladder 303 = .ok (.goto 6, 3) := by decide +kernel
theorem dX12_ladder_306 : decode cX12_ladder 306 = .ok (.sipush 447, 3) := by decide +kernel
theorem dX12_ladder_309 : decode cX12_ladder 309 = .ok (.istore_n 3, 1) := by decide +kernel
theorem dX12_ladder_310 : decode cX12_ladder 310 = .ok (.iload_n 3, 1) := by decide +kernel
theorem dX12_ladder_311 : decode cX12_ladder 311 = .ok (.ifCond .lt 57, 3) := by decide +kernel
theorem dX12_ladder_314 : decode cX12_ladder 314 = .ok (.aload_n 0, 1) := by decide +kernel
theorem dX12_ladder_315 : decode cX12_ladder 315 = .ok (.getfield 90, 3) := by decide +kernel
theorem dX12_ladder_318 : decode cX12_ladder 318 = .ok (.iload_n 3, 1) := by decide +kernel
theorem dX12_ladder_319 : decode cX12_ladder 319 = .ok (.iconst 3, 1) := by decide +kernel
theorem dX12_ladder_320 : decode cX12_ladder 320 = .ok (.ishr, 1) := by decide +kernel
theorem dX12_ladder_321 : decode cX12_ladder 321 = .ok (.iaload, 1) := by decide +kernel
theorem dX12_ladder_322 : decode cX12_ladder 322 = .ok (.iload_n 3, 1) := by decide +kernel
theorem dX12_ladder_323 : decode cX12_ladder 323 = .ok (.bipush 7, 2) := by decide +kernel
theorem dX12_ladder_325 : decode cX12_ladder 325 = .ok (.iand, 1) := by decide +kernel
theorem dX12_ladder_326 : decode cX12_ladder 326 = .ok (.ishr, 1) := by decide +kernel
theorem dX12_ladder_327 : decode cX12_ladder 327 = .ok (.iconst 1, 1) := by decide +kernel
theorem dX12_ladder_328 : decode cX12_ladder 328 = .ok (.iand, 1) := by decide +kernel
theorem dX12_ladder_329 : decode cX12_ladder 329 = .ok (.iconst 1, 1) := by decide +kernel
theorem dX12_ladder_330 : decode cX12_ladder 330 = .ok (.if_icmp .ne 7, 3) := by decide +kernel
theorem dX12_ladder_333 : decode cX12_ladder 333 = .ok (.iconst 1, 1) := by decide +kernel
theorem dX12_ladder_334 : decode cX12_ladder 334 = .ok (.goto 4, 3) := by decide +kernel
theorem dX12_ladder_337 : decode cX12_ladder 337 = .ok (.iconst 0, 1) := by decide +kernel
theorem dX12_ladder_338 : decode cX12_ladder 338 = .ok (.istore 4, 2) := by decide +kernel
theorem dX12_ladder_340 : decode cX12_ladder 340 = .ok (.iload 4, 2) := by decide +kernel
theorem dX12_ladder_342 : decode cX12_ladder 342 = .ok (.ifCond .eq 7, 3) := by decide +kernel
theorem dX12_ladder_345 : decode cX12_ladder 345 = .ok (.aload_n 0, 1) := by decide +kernel
theorem dX12_ladder_346 : decode cX12_ladder 346 = .ok (.invokevirtual 322, 3) := by decide +kernel
theorem dX12_ladder_349 : decode cX12_ladder 349 = .ok (.aload_n 0, 1) := by decide +kernel
theorem dX12_ladder_350 : decode cX12_ladder 350 = .ok (.invokevirtual 325, 3) := by decide +kernel
theorem dX12_ladder_353 : decode cX12_ladder 353 = .ok (.iload 4, 2) := by decide +kernel
theorem dX12_ladder_355 : decode cX12_ladder 355 = .ok (.ifCond .eq 7, 3) := by decide +kernel
theorem dX12_ladder_358 : decode cX12_ladder 358 = .ok (.aload_n 0, 1) := by decide +kernel
theorem dX12_ladder_359 : decode cX12_ladder 359 = .ok (.invokevirtual 322, 3) := by decide +kernel
theorem dX12_ladder_362 : decode cX12_ladder 362 = .ok (.iinc 3 (-1), 3) := by decide +kernel
theorem dX12_ladder_365 : decode cX12_ladder 365 = .ok (.goto (-55), 3) := by decide +kernel
theorem dX12_ladder_368 : decode cX12_ladder 368 = .ok (.aload_n 0, 1) := by decide +kernel
theorem dX12_ladder_369 : decode cX12_ladder 369 = .ok (.bipush 22, 2) := by decide +kernel
theorem dX12_ladder_371 : decode cX12_ladder 371 = .ok (.bipush 22, 2) := by decide +kernel
theorem dX12_ladder_373 : decode cX12_ladder 373 = .ok (.invokevirtual 141, 3) := by decide +kernel
theorem dX12_ladder_376 : decode cX12_ladder 376 = .ok (.aload_n 0, 1) := by decide +kernel
theorem dX12_ladder_377 : decode cX12_ladder 377 = .ok (.bipush 21, 2) := by decide +kernel
theorem dX12_ladder_379 : decode cX12_ladder 379 = .ok (.bipush 21, 2) := by decide +kernel
theorem dX12_ladder_381 : decode cX12_ladder 381 = .ok (.bipush 22, 2) := by decide +kernel
theorem dX12_ladder_383 : decode cX12_ladder 383 = .ok (.invokevirtual 144, 3) := by decide +kernel
theorem dX12_ladder_386 : decode cX12_ladder 386 = .ok (.iconst 0, 1) := by decide +kernel
theorem dX12_ladder_387 : decode cX12_ladder 387 = .ok (.istore_n 3, 1) := by decide +kernel
theorem dX12_ladder_388 : decode cX12_ladder 388 = .ok (.iload_n 3, 1) := by decide +kernel
theorem dX12_ladder_389 : decode cX12_ladder 389 = .ok (.iload_n 2, 1) := by decide +kernel
theorem dX12_ladder_390 : decode cX12_ladder 390 = .ok (.if_icmp .ge 38, 3) := by decide +kernel
theorem dX12_ladder_393 : decode cX12_ladder 393 = .ok (.aload_n 0, 1) := by decide +kernel
theorem dX12_ladder_394 : decode cX12_ladder 394 = .ok (.getfield 23, 3) := by decide +kernel
theorem dX12_ladder_397 : decode cX12_ladder 397 = .ok (.iload_n 3, 1) := by decide +kernel
theorem dX12_ladder_398 : decode cX12_ladder 398 = .ok (.aload_n 0, 1) := by decide +kernel
theorem dX12_ladder_399 : decode cX12_ladder 399 = .ok (.getfield 41, 3) := by decide +kernel
theorem dX12_ladder_402 : decode cX12_ladder 402 = .ok (.sipush 672, 3) := by decide +kernel
theorem dX12_ladder_405 : decode cX12_ladder 405 = .ok (.iload_n 3, 1) := by decide +kernel
theorem dX12_ladder_406 : decode cX12_ladder 406 = .ok (.iconst 1, 1) := by decide +kernel
theorem dX12_ladder_407 : decode cX12_ladder 407 = .ok (.ishr, 1) := by decide +kernel
theorem dX12_ladder_408 : decode cX12_ladder 408 = .ok (.iadd, 1) := by decide +kernel
theorem dX12_ladder_409 : decode cX12_ladder 409 = .ok (.iaload, 1) := by decide +kernel
theorem dX12_ladder_410 : decode cX12_ladder 410 = .ok (.bipush 8, 2) := by decide +kernel
theorem dX12_ladder_412 : decode cX12_ladder 412 = .ok (.iload_n 3, 1) := by decide +kernel
theorem dX12_ladder_413 : decode cX12_ladder 413 = .ok (.iconst 1, 1) := by decide +kernel
theorem dX12_ladder_414 : decode cX12_ladder 414 = .ok (.iand, 1) := by decide +kernel
theorem dX12_ladder_415 : decode cX12_ladder 415 = .ok (.imul, 1) := by decide +kernel
theorem dX12_ladder_416 : decode cX12_ladder 416 = .ok (.ishr, 1) := by decide +kernel
theorem dX12_ladder_417 : decode cX12_ladder 417 = .ok (.sipush 255, 3) := by decide +kernel
theorem dX12_ladder_420 : decode cX12_ladder 420 = .ok (.iand, 1) := by decide +kernel
theorem dX12_ladder_421 : decode cX12_ladder 421 = .ok (.iastore, 1) := by decide +kernel
theorem dX12_ladder_422 : decode cX12_ladder 422 = .ok (.iinc 3 1, 3) := by decide +kernel
theorem dX12_ladder_425 : decode cX12_ladder 425 = .ok (.goto (-37), 3) := by decide +kernel
theorem dX12_ladder_428 : decode cX12_ladder 428 = .ok (.aload_n 0, 1) := by decide +kernel
theorem dX12_ladder_429 : decode cX12_ladder 429 = .ok (.iload_n 2, 1) := by decide +kernel
theorem dX12_ladder_430 : decode cX12_ladder 430 = .ok (.putfield 26, 3) := by decide +kernel
theorem dX12_ladder_433 : decode cX12_ladder 433 = .ok (.return_, 1) := by decide +kernel
theorem dX12_swap_0 : decode cX12_swap 0 = .ok (.iconst 0, 1) := by decide +kernel
theorem dX12_swap_1 : decode cX12_swap 1 = .ok (.istore_n 1, 1) := by decide +kernel
theorem dX12_swap_2 : decode cX12_swap 2 = .ok (.iload_n 1, 1) := by decide +kernel
theorem dX12_swap_3 : decode cX12_swap 3 = .ok (.iconst 2, 1) := by decide +kernel
theorem dX12_swap_4 : decode cX12_swap 4 = .ok (.if_icmp .ge 41, 3) := by decide +kernel
theorem dX12_swap_7 : decode cX12_swap 7 = .ok (.aload_n 0, 1) := by decide +kernel
theorem dX12_swap_8 : decode cX12_swap 8 = .ok (.bipush 48, 2) := by decide +kernel
theorem dX12_swap_10 : decode cX12_swap 10 = .ok (.bipush 21, 2) := by decide +kernel
theorem dX12_swap_12 : decode cX12_swap 12 = .ok (.iload_n 1, 1) := by decide +kernel
theorem dX12_swap_13 : decode cX12_swap 13 = .ok (.iadd, 1) := by decide +kernel
theorem dX12_swap_14 : decode cX12_swap 14 = .ok (.invokevirtual 194, 3) := by decide +kernel
theorem dX12_swap_17 : decode cX12_swap 17 = .ok (.aload_n 0, 1) := by decide +kernel
theorem dX12_swap_18 : decode cX12_swap 18 = .ok (.bipush 21, 2) := by decide +kernel
theorem dX12_swap_20 : decode cX12_swap 20 = .ok (.iload_n 1, 1) := by decide +kernel
theorem dX12_swap_21 : decode cX12_swap 21 = .ok (.iadd, 1) := by decide +kernel
theorem dX12_swap_22 : decode cX12_swap 22 = .ok (.bipush 40, 2) := by decide +kernel
theorem dX12_swap_24 : decode cX12_swap 24 = .ok (.iload_n 1, 1) := by decide +kernel
theorem dX12_swap_25 : decode cX12_swap 25 = .ok (.iadd, 1) := by decide +kernel
theorem dX12_swap_26 : decode cX12_swap 26 = .ok (.invokevirtual 194, 3) := by decide +kernel
theorem dX12_swap_29 : decode cX12_swap 29 = .ok (.aload_n 0, 1) := by decide +kernel
theorem dX12_swap_30 : decode cX12_swap 30 = .ok (.bipush 40, 2) := by decide +kernel
theorem dX12_swap_32 : decode cX12_swap 32 = .ok (.iload_n 1, 1) := by decide +kernel
theorem dX12_swap_33 : decode cX12_swap 33 = .ok (.iadd, 1) := by decide +kernel
theorem dX12_swap_34 : decode cX12_swap 34 = .ok (.bipush 48, 2) := by decide +kernel
theorem dX12_swap_36 : decode cX12_swap 36 = .ok (.invokevirtual 194, 3) := by decide +kernel
theorem dX12_swap_39 : decode cX12_swap 39 = .ok (.iinc 1 1, 3) := by decide +kernel
theorem dX12_swap_42 : decode cX12_swap 42 = .ok (.goto (-40), 3) := by decide +kernel
theorem dX12_swap_45 : decode cX12_swap 45 = .ok (.return_, 1) := by decide +kernel
theorem dX12_rung_0 : decode cX12_rung 0 = .ok (.aload_n 0, 1) := by decide +kernel
theorem dX12_rung_1 : decode cX12_rung 1 = .ok (.bipush 30, 2) := by decide +kernel
theorem dX12_rung_3 : decode cX12_rung 3 = .ok (.bipush 21, 2) := by decide +kernel
theorem dX12_rung_5 : decode cX12_rung 5 = .ok (.bipush 22, 2) := by decide +kernel
theorem dX12_rung_7 : decode cX12_rung 7 = .ok (.invokevirtual 201, 3) := by decide +kernel
theorem dX12_rung_10 : decode cX12_rung 10 = .ok (.aload_n 0, 1) := by decide +kernel
theorem dX12_rung_11 : decode cX12_rung 11 = .ok (.bipush 31, 2) := by decide +kernel
theorem dX12_rung_13 : decode cX12_rung 13 = .ok (.bipush 30, 2) := by decide +kernel
theorem dX12_rung_15 : decode cX12_rung 15 = .ok (.bipush 30, 2) := by decide +kernel
theorem dX12_rung_17 : decode cX12_rung 17 = .ok (.invokevirtual 144, 3) := by decide +kernel
theorem dX12_rung_20 : decode cX12_rung 20 = .ok (.aload_n 0, 1) := by decide +kernel
theorem dX12_rung_21 : decode cX12_rung 21 = .ok (.bipush 32, 2) := by decide +kernel
theorem dX12_rung_23 : decode cX12_rung 23 = .ok (.bipush 21, 2) := by decide +kernel
theorem dX12_rung_25 : decode cX12_rung 25 = .ok (.bipush 22, 2) := by decide +kernel
theorem dX12_rung_27 : decode cX12_rung 27 = .ok (.invokevirtual 151, 3) := by decide +kernel
theorem dX12_rung_30 : decode cX12_rung 30 = .ok (.aload_n 0, 1) := by decide +kernel
theorem dX12_rung_31 : decode cX12_rung 31 = .ok (.bipush 33, 2) := by decide +kernel
theorem dX12_rung_33 : decode cX12_rung 33 = .ok (.bipush 32, 2) := by decide +kernel
theorem dX12_rung_35 : decode cX12_rung 35 = .ok (.bipush 32, 2) := by decide +kernel
theorem dX12_rung_37 : decode cX12_rung 37 = .ok (.invokevirtual 144, 3) := by decide +kernel
theorem dX12_rung_40 : decode cX12_rung 40 = .ok (.aload_n 0, 1) := by decide +kernel
theorem dX12_rung_41 : decode cX12_rung 41 = .ok (.bipush 34, 2) := by decide +kernel
theorem dX12_rung_43 : decode cX12_rung 43 = .ok (.bipush 31, 2) := by decide +kernel
theorem dX12_rung_45 : decode cX12_rung 45 = .ok (.bipush 33, 2) := by decide +kernel
theorem dX12_rung_47 : decode cX12_rung 47 = .ok (.invokevirtual 151, 3) := by decide +kernel
theorem dX12_rung_50 : decode cX12_rung 50 = .ok (.aload_n 0, 1) := by decide +kernel
theorem dX12_rung_51 : decode cX12_rung 51 = .ok (.bipush 35, 2) := by decide +kernel
theorem dX12_rung_53 : decode cX12_rung 53 = .ok (.bipush 40, 2) := by decide +kernel
theorem dX12_rung_55 : decode cX12_rung 55 = .ok (.bipush 41, 2) := by decide +kernel
theorem dX12_rung_57 : decode cX12_rung 57 = .ok (.invokevirtual 201, 3) := by decide +kernel
theorem dX12_rung_60 : decode cX12_rung 60 = .ok (.aload_n 0, 1) := by decide +kernel
theorem dX12_rung_61 : decode cX12_rung 61 = .ok (.bipush 36, 2) := by decide +kernel
theorem dX12_rung_63 : decode cX12_rung 63 = .ok (.bipush 40, 2) := by decide +kernel
theorem dX12_rung_65 : decode cX12_rung 65 = .ok (.bipush 41, 2) := by decide +kernel
theorem dX12_rung_67 : decode cX12_rung 67 = .ok (.invokevirtual 151, 3) := by decide +kernel
theorem dX12_rung_70 : decode cX12_rung 70 = .ok (.aload_n 0, 1) := by decide +kernel
theorem dX12_rung_71 : decode cX12_rung 71 = .ok (.bipush 36, 2) := by decide +kernel
theorem dX12_rung_73 : decode cX12_rung 73 = .ok (.bipush 36, 2) := by decide +kernel
theorem dX12_rung_75 : decode cX12_rung 75 = .ok (.bipush 30, 2) := by decide +kernel
theorem dX12_rung_77 : decode cX12_rung 77 = .ok (.invokevirtual 144, 3) := by decide +kernel
theorem dX12_rung_80 : decode cX12_rung 80 = .ok (.aload_n 0, 1) := by decide +kernel
theorem dX12_rung_81 : decode cX12_rung 81 = .ok (.bipush 35, 2) := by decide +kernel
theorem dX12_rung_83 : decode cX12_rung 83 = .ok (.bipush 35, 2) := by decide +kernel
theorem dX12_rung_85 : decode cX12_rung 85 = .ok (.bipush 32, 2) := by decide +kernel
theorem dX12_rung_87 : decode cX12_rung 87 = .ok (.invokevirtual 144, 3) := by decide +kernel
theorem dX12_rung_90 : decode cX12_rung 90 = .ok (.aload_n 0, 1) := by decide +kernel
theorem dX12_rung_91 : decode cX12_rung 91 = .ok (.bipush 37, 2) := by decide +kernel
theorem dX12_rung_93 : decode cX12_rung 93 = .ok (.bipush 36, 2) := by decide +kernel
theorem dX12_rung_95 : decode cX12_rung 95 = .ok (.bipush 35, 2) := by decide +kernel
theorem dX12_rung_97 : decode cX12_rung 97 = .ok (.invokevirtual 201, 3) := by decide +kernel
theorem dX12_rung_100 : decode cX12_rung 100 = .ok (.aload_n 0, 1) := by decide +kernel
theorem dX12_rung_101 : decode cX12_rung 101 = .ok (.bipush 40, 2) := by decide +kernel
theorem dX12_rung_103 : decode cX12_rung 103 = .ok (.bipush 37, 2) := by decide +kernel
theorem dX12_rung_105 : decode cX12_rung 105 = .ok (.bipush 37, 2) := by decide +kernel
theorem dX12_rung_107 : decode cX12_rung 107 = .ok (.invokevirtual 144, 3) := by decide +kernel
theorem dX12_rung_110 : decode cX12_rung 110 = .ok (.aload_n 0, 1) := by decide +kernel
theorem dX12_rung_111 : decode cX12_rung 111 = .ok (.bipush 37, 2) := by decide +kernel
theorem dX12_rung_113 : decode cX12_rung 113 = .ok (.bipush 36, 2) := by decide +kernel
theorem dX12_rung_115 : decode cX12_rung 115 = .ok (.bipush 35, 2) := by decide +kernel
theorem dX12_rung_117 : decode cX12_rung 117 = .ok (.invokevirtual 151, 3) := by decide +kernel
theorem dX12_rung_120 : decode cX12_rung 120 = .ok (.aload_n 0, 1) := by decide +kernel
theorem dX12_rung_121 : decode cX12_rung 121 = .ok (.bipush 37, 2) := by decide +kernel
theorem dX12_rung_123 : decode cX12_rung 123 = .ok (.bipush 37, 2) := by decide +kernel
theorem dX12_rung_125 : decode cX12_rung 125 = .ok (.bipush 37, 2) := by decide +kernel
theorem dX12_rung_127 : decode cX12_rung 127 = .ok (.invokevirtual 144, 3) := by decide +kernel
theorem dX12_rung_130 : decode cX12_rung 130 = .ok (.aload_n 0, 1) := by decide +kernel
theorem dX12_rung_131 : decode cX12_rung 131 = .ok (.bipush 41, 2) := by decide +kernel
theorem dX12_rung_133 : decode cX12_rung 133 = .ok (.bipush 46, 2) := by decide +kernel
theorem dX12_rung_135 : decode cX12_rung 135 = .ok (.bipush 37, 2) := by decide +kernel
theorem dX12_rung_137 : decode cX12_rung 137 = .ok (.invokevirtual 144, 3) := by decide +kernel
theorem dX12_rung_140 : decode cX12_rung 140 = .ok (.aload_n 0, 1) := by decide +kernel
theorem dX12_rung_141 : decode cX12_rung 141 = .ok (.bipush 21, 2) := by decide +kernel
theorem dX12_rung_143 : decode cX12_rung 143 = .ok (.bipush 31, 2) := by decide +kernel
theorem dX12_rung_145 : decode cX12_rung 145 = .ok (.bipush 33, 2) := by decide +kernel
theorem dX12_rung_147 : decode cX12_rung 147 = .ok (.invokevirtual 144, 3) := by decide +kernel
theorem dX12_rung_150 : decode cX12_rung 150 = .ok (.aload_n 0, 1) := by decide +kernel
theorem dX12_rung_151 : decode cX12_rung 151 = .ok (.bipush 38, 2) := by decide +kernel
theorem dX12_rung_153 : decode cX12_rung 153 = .ok (.bipush 47, 2) := by decide +kernel
theorem dX12_rung_155 : decode cX12_rung 155 = .ok (.bipush 34, 2) := by decide +kernel
theorem dX12_rung_157 : decode cX12_rung 157 = .ok (.invokevirtual 144, 3) := by decide +kernel
theorem dX12_rung_160 : decode cX12_rung 160 = .ok (.aload_n 0, 1) := by decide +kernel
theorem dX12_rung_161 : decode cX12_rung 161 = .ok (.bipush 38, 2) := by decide +kernel
theorem dX12_rung_163 : decode cX12_rung 163 = .ok (.bipush 31, 2) := by decide +kernel
theorem dX12_rung_165 : decode cX12_rung 165 = .ok (.bipush 38, 2) := by decide +kernel
theorem dX12_rung_167 : decode cX12_rung 167 = .ok (.invokevirtual 201, 3) := by decide +kernel
theorem dX12_rung_170 : decode cX12_rung 170 = .ok (.aload_n 0, 1) := by decide +kernel
theorem dX12_rung_171 : decode cX12_rung 171 = .ok (.bipush 22, 2) := by decide +kernel
theorem dX12_rung_173 : decode cX12_rung 173 = .ok (.bipush 34, 2) := by decide +kernel
theorem dX12_rung_175 : decode cX12_rung 175 = .ok (.bipush 38, 2) := by decide +kernel
theorem dX12_rung_177 : decode cX12_rung 177 = .ok (.invokevirtual 144, 3) := by decide +kernel
theorem dX12_rung_180 : decode cX12_rung 180 = .ok (.return_, 1) := by decide +kernel
theorem dX12_thrown_0 : decode cX12_thrown 0 = .ok (.aload_n 0, 1) := by decide +kernel
theorem dX12_thrown_1 : decode cX12_thrown 1 = .ok (.getfield 7, 3) := by decide +kernel
theorem dX12_thrown_4 : decode cX12_thrown 4 = .ok (.ireturn, 1) := by decide +kernel
theorem dX12_sizeOf_0 : decode cX12_sizeOf 0 = .ok (.iload_n 0, 1) := by decide +kernel
theorem dX12_sizeOf_1 : decode cX12_sizeOf 1 = .ok (.iconst 2, 1) := by decide +kernel
theorem dX12_sizeOf_2 : decode cX12_sizeOf 2 = .ok (.if_icmp .ne 8, 3) := by decide +kernel
theorem dX12_sizeOf_5 : decode cX12_sizeOf 5 = .ok (.bipush 114, 2) := by decide +kernel
theorem dX12_sizeOf_7 : decode cX12_sizeOf 7 = .ok (.goto 5, 3) := by decide +kernel
theorem dX12_sizeOf_10 : decode cX12_sizeOf 10 = .ok (.bipush 57, 2) := by decide +kernel
theorem dX12_sizeOf_12 : decode cX12_sizeOf 12 = .ok (.ireturn, 1) := by decide +kernel
theorem dX12_set_0 : decode cX12_set 0 = .ok (.iload_n 1, 1) := by decide +kernel
theorem dX12_set_1 : decode cX12_set 1 = .ok (.ifCond .ne 13, 3) := by decide +kernel
theorem dX12_set_4 : decode cX12_set 4 = .ok (.aload_n 0, 1) := by decide +kernel
theorem dX12_set_5 : decode cX12_set 5 = .ok (.getfield 13, 3) := by decide +kernel
theorem dX12_set_8 : decode cX12_set 8 = .ok (.iload_n 2, 1) := by decide +kernel
theorem dX12_set_9 : decode cX12_set 9 = .ok (.iload_n 3, 1) := by decide +kernel
theorem dX12_set_10 : decode cX12_set 10 = .ok (.iastore, 1) := by decide +kernel
theorem dX12_set_11 : decode cX12_set 11 = .ok (.goto 25, 3) := by decide +kernel
theorem dX12_set_14 : decode cX12_set 14 = .ok (.iload_n 1, 1) := by decide +kernel
theorem dX12_set_15 : decode cX12_set 15 = .ok (.iconst 1, 1) := by decide +kernel
theorem dX12_set_16 : decode cX12_set 16 = .ok (.if_icmp .ne 13, 3) := by decide +kernel
theorem dX12_set_19 : decode cX12_set 19 = .ok (.aload_n 0, 1) := by decide +kernel
theorem dX12_set_20 : decode cX12_set 20 = .ok (.getfield 17, 3) := by decide +kernel
theorem dX12_set_23 : decode cX12_set 23 = .ok (.iload_n 2, 1) := by decide +kernel
theorem dX12_set_24 : decode cX12_set 24 = .ok (.iload_n 3, 1) := by decide +kernel
theorem dX12_set_25 : decode cX12_set 25 = .ok (.iastore, 1) := by decide +kernel
theorem dX12_set_26 : decode cX12_set 26 = .ok (.goto 10, 3) := by decide +kernel
theorem dX12_set_29 : decode cX12_set 29 = .ok (.aload_n 0, 1) := by decide +kernel
theorem dX12_set_30 : decode cX12_set 30 = .ok (.getfield 20, 3) := by decide +kernel
theorem dX12_set_33 : decode cX12_set 33 = .ok (.iload_n 2, 1) := by decide +kernel
theorem dX12_set_34 : decode cX12_set 34 = .ok (.iload_n 3, 1) := by decide +kernel
theorem dX12_set_35 : decode cX12_set 35 = .ok (.iastore, 1) := by decide +kernel
theorem dX12_set_36 : decode cX12_set 36 = .ok (.return_, 1) := by decide +kernel
theorem dX12_put_0 : decode cX12_put 0 = .ok (.aload_n 0, 1) := by decide +kernel
theorem dX12_put_1 : decode cX12_put 1 = .ok (.iload 5, 2) := by decide +kernel
theorem dX12_put_3 : decode cX12_put 3 = .ok (.iconst 1, 1) := by decide +kernel
theorem dX12_put_4 : decode cX12_put 4 = .ok (.if_icmp .lt 19, 3) := by decide +kernel
theorem dX12_put_7 : decode cX12_put 7 = .ok (.iload 5, 2) := by decide +kernel
theorem dX12_put_9 : decode cX12_put 9 = .ok (.bipush 8, 2) := by decide +kernel
theorem dX12_put_11 : decode cX12_put 11 = .ok (.if_icmp .gt 12, 3) := by decide +kernel
theorem dX12_put_14 : decode cX12_put 14 = .ok (.iload_n 1, 1) := by decide +kernel
theorem dX12_put_15 : decode cX12_put 15 = .ok (.ifCond .lt 8, 3) := by decide +kernel
theorem dX12_put_18 : decode cX12_put 18 = .ok (.iload_n 1, 1) := by decide +kernel
theorem dX12_put_19 : decode cX12_put 19 = .ok (.iconst 2, 1) := by decide +kernel
theorem dX12_put_20 : decode cX12_put 20 = .ok (.if_icmp .le 7, 3) := by decide +kernel
theorem dX12_put_23 : decode cX12_put 23 = .ok (.iconst 1, 1) := by decide +kernel
theorem dX12_put_24 : decode cX12_put 24 = .ok (.goto 23, 3) := by decide +kernel
theorem dX12_put_27 : decode cX12_put 27 = .ok (.iload_n 2, 1) := by decide +kernel
theorem dX12_put_28 : decode cX12_put 28 = .ok (.ifCond .lt 14, 3) := by decide +kernel
theorem dX12_put_31 : decode cX12_put 31 = .ok (.iload_n 2, 1) := by decide +kernel
theorem dX12_put_32 : decode cX12_put 32 = .ok (.iload_n 1, 1) := by decide +kernel
theorem dX12_put_33 : decode cX12_put 33 = .ok (.invokestatic 328, 3) := by decide +kernel
theorem dX12_put_36 : decode cX12_put 36 = .ok (.iload 5, 2) := by decide +kernel
theorem dX12_put_38 : decode cX12_put 38 = .ok (.isub, 1) := by decide +kernel
theorem dX12_put_39 : decode cX12_put 39 = .ok (.if_icmp .le 7, 3) := by decide +kernel
theorem dX12_put_42 : decode cX12_put 42 = .ok (.iconst 2, 1) := by decide +kernel
theorem dX12_put_43 : decode cX12_put 43 = .ok (.goto 4, 3) := by decide +kernel
theorem dX12_put_46 : decode cX12_put 46 = .ok (.iconst 0, 1) := by decide +kernel
theorem dX12_put_47 : decode cX12_put 47 = .ok (.putfield 7, 3) := by decide +kernel
theorem dX12_put_50 : decode cX12_put 50 = .ok (.aload_n 0, 1) := by decide +kernel
theorem dX12_put_51 : decode cX12_put 51 = .ok (.getfield 7, 3) := by decide +kernel
theorem dX12_put_54 : decode cX12_put 54 = .ok (.ifCond .eq 4, 3) := by decide +kernel
theorem dX12_put_57 : decode cX12_put 57 = .ok (.return_, 1) := by decide +kernel
theorem dX12_put_58 : decode cX12_put 58 = .ok (.iconst 0, 1) := by decide +kernel
theorem dX12_put_59 : decode cX12_put 59 = .ok (.istore 6, 2) := by decide +kernel
theorem dX12_put_61 : decode cX12_put 61 = .ok (.iload 6, 2) := by decide +kernel
theorem dX12_put_63 : decode cX12_put 63 = .ok (.iload 5, 2) := by decide +kernel
theorem dX12_put_65 : decode cX12_put 65 = .ok (.if_icmp .ge 35, 3) := by decide +kernel
theorem dX12_put_68 : decode cX12_put 68 = .ok (.aload_n 0, 1) := by decide +kernel
theorem dX12_put_69 : decode cX12_put 69 = .ok (.iload_n 1, 1) := by decide +kernel
theorem dX12_put_70 : decode cX12_put 70 = .ok (.iload_n 2, 1) := by decide +kernel
theorem dX12_put_71 : decode cX12_put 71 = .ok (.iload 6, 2) := by decide +kernel
theorem dX12_put_73 : decode cX12_put 73 = .ok (.iadd, 1) := by decide +kernel
theorem dX12_put_74 : decode cX12_put 74 = .ok (.lload_n 3, 1) := by decide +kernel
theorem dX12_put_75 : decode cX12_put 75 = .ok (.bipush 8, 2) := by decide +kernel
theorem dX12_put_77 : decode cX12_put 77 = .ok (.iload 5, 2) := by decide +kernel
theorem dX12_put_79 : decode cX12_put 79 = .ok (.iconst 1, 1) := by decide +kernel
theorem dX12_put_80 : decode cX12_put 80 = .ok (.isub, 1) := by decide +kernel
theorem dX12_put_81 : decode cX12_put 81 = .ok (.iload 6, 2) := by decide +kernel
theorem dX12_put_83 : decode cX12_put 83 = .ok (.isub, 1) := by decide +kernel
theorem dX12_put_84 : decode cX12_put 84 = .ok (.imul, 1) := by decide +kernel
theorem dX12_put_85 : decode cX12_put 85 = .ok (.lshr, 1) := by decide +kernel
theorem dX12_put_86 : decode cX12_put 86 = .ok (.l2i, 1) := by decide +kernel
theorem dX12_put_87 : decode cX12_put 87 = .ok (.sipush 255, 3) := by decide +kernel
theorem dX12_put_90 : decode cX12_put 90 = .ok (.iand, 1) := by decide +kernel
theorem dX12_put_91 : decode cX12_put 91 = .ok (.invokevirtual 331, 3) := by decide +kernel
theorem dX12_put_94 : decode cX12_put 94 = .ok (.iinc 6 1, 3) := by decide +kernel
theorem dX12_put_97 : decode cX12_put 97 = .ok (.goto (-36), 3) := by decide +kernel
theorem dX12_put_100 : decode cX12_put 100 = .ok (.return_, 1) := by decide +kernel
theorem dX12_feed_0 : decode cX12_feed 0 = .ok (.iload_n 1, 1) := by decide +kernel
theorem dX12_feed_1 : decode cX12_feed 1 = .ok (.ifCond .eq 10, 3) := by decide +kernel
theorem dX12_feed_4 : decode cX12_feed 4 = .ok (.aload_n 0, 1) := by decide +kernel
theorem dX12_feed_5 : decode cX12_feed 5 = .ok (.getfield 38, 3) := by decide +kernel
theorem dX12_feed_8 : decode cX12_feed 8 = .ok (.goto 7, 3) := by decide +kernel
theorem dX12_feed_11 : decode cX12_feed 11 = .ok (.aload_n 0, 1) := by decide +kernel
theorem dX12_feed_12 : decode cX12_feed 12 = .ok (.getfield 32, 3) := by decide +kernel
theorem dX12_feed_15 : decode cX12_feed 15 = .ok (.istore 5, 2) := by decide +kernel
theorem dX12_feed_17 : decode cX12_feed 17 = .ok (.aload_n 0, 1) := by decide +kernel
theorem dX12_feed_18 : decode cX12_feed 18 = .ok (.iload 4, 2) := by decide +kernel
theorem dX12_feed_20 : decode cX12_feed 20 = .ok (.iconst 1, 1) := by decide +kernel
theorem dX12_feed_21 : decode cX12_feed 21 = .ok (.if_icmp .lt 10, 3) := by decide +kernel
theorem dX12_feed_24 : decode cX12_feed 24 = .ok (.iload 4, 2) := by decide +kernel
theorem dX12_feed_26 : decode cX12_feed 26 = .ok (.bipush 8, 2) := by decide +kernel
theorem dX12_feed_28 : decode cX12_feed 28 = .ok (.if_icmp .le 7, 3) := by decide +kernel
theorem dX12_feed_31 : decode cX12_feed 31 = .ok (.iconst 1, 1) := by decide +kernel
theorem dX12_feed_32 : decode cX12_feed 32 = .ok (.goto 28, 3) := by decide +kernel
theorem dX12_feed_35 : decode cX12_feed 35 = .ok (.iload 5, 2) := by decide +kernel
theorem dX12_feed_37 : decode cX12_feed 37 = .ok (.iload 4, 2) := by decide +kernel
theorem dX12_feed_39 : decode cX12_feed 39 = .ok (.iadd, 1) := by decide +kernel
theorem dX12_feed_40 : decode cX12_feed 40 = .ok (.iload_n 1, 1) := by decide +kernel
theorem dX12_feed_41 : decode cX12_feed 41 = .ok (.ifCond .eq 8, 3) := by decide +kernel
theorem dX12_feed_44 : decode cX12_feed 44 = .ok (.bipush 64, 2) := by decide +kernel
theorem dX12_feed_46 : decode cX12_feed 46 = .ok (.goto 6, 3) := by decide +kernel
theorem dX12_feed_49 : decode cX12_feed 49 = .ok (.sipush 256, 3) := by decide +kernel
theorem dX12_feed_52 : decode cX12_feed 52 = .ok (.if_icmp .le 7, 3) := by decide +kernel
theorem dX12_feed_55 : decode cX12_feed 55 = .ok (.iconst 2, 1) := by decide +kernel
theorem dX12_feed_56 : decode cX12_feed 56 = .ok (.goto 4, 3) := by decide +kernel
theorem dX12_feed_59 : decode cX12_feed 59 = .ok (.iconst 0, 1) := by decide +kernel
theorem dX12_feed_60 : decode cX12_feed 60 = .ok (.putfield 7, 3) := by decide +kernel
theorem dX12_feed_63 : decode cX12_feed 63 = .ok (.aload_n 0, 1) := by decide +kernel
theorem dX12_feed_64 : decode cX12_feed 64 = .ok (.getfield 7, 3) := by decide +kernel
theorem dX12_feed_67 : decode cX12_feed 67 = .ok (.ifCond .eq 5, 3) := by decide +kernel
theorem dX12_feed_70 : decode cX12_feed 70 = .ok (.iconst 0, 1) := by decide +kernel
theorem dX12_feed_71 : decode cX12_feed 71 = .ok (.ireturn, 1) := by decide +kernel
theorem dX12_feed_72 : decode cX12_feed 72 = .ok (.iconst 0, 1) := by decide +kernel
theorem dX12_feed_73 : decode cX12_feed 73 = .ok (.istore 6, 2) := by decide +kernel
theorem dX12_feed_75 : decode cX12_feed 75 = .ok (.iload 6, 2) := by decide +kernel
theorem dX12_feed_77 : decode cX12_feed 77 = .ok (.iload 4, 2) := by decide +kernel
theorem dX12_feed_79 : decode cX12_feed 79 = .ok (.if_icmp .ge 59, 3) := by decide +kernel
theorem dX12_feed_82 : decode cX12_feed 82 = .ok (.lload_n 2, 1) := by decide +kernel
theorem dX12_feed_83 : decode cX12_feed 83 = .ok (.bipush 8, 2) := by decide +kernel
theorem dX12_feed_85 : decode cX12_feed 85 = .ok (.iload 4, 2) := by decide +kernel
theorem dX12_feed_87 : decode cX12_feed 87 = .ok (.iconst 1, 1) := by decide +kernel
theorem dX12_feed_88 : decode cX12_feed 88 = .ok (.isub, 1) := by decide +kernel
theorem dX12_feed_89 : decode cX12_feed 89 = .ok (.iload 6, 2) := by decide +kernel
theorem dX12_feed_91 : decode cX12_feed 91 = .ok (.isub, 1) := by decide +kernel
theorem dX12_feed_92 : decode cX12_feed 92 = .ok (.imul, 1) := by decide +kernel
theorem dX12_feed_93 : decode cX12_feed 93 = .ok (.lshr, 1) := by decide +kernel
theorem dX12_feed_94 : decode cX12_feed 94 = .ok (.l2i, 1) := by decide +kernel
theorem dX12_feed_95 : decode cX12_feed 95 = .ok (.sipush 255, 3) := by decide +kernel
theorem dX12_feed_98 : decode cX12_feed 98 = .ok (.iand, 1) := by decide +kernel
theorem dX12_feed_99 : decode cX12_feed 99 = .ok (.istore 7, 2) := by decide +kernel
theorem dX12_feed_101 : decode cX12_feed 101 = .ok (.iload_n 1, 1) := by decide +kernel
theorem dX12_feed_102 : decode cX12_feed 102 = .ok (.ifCond .eq 18, 3) := by decide +kernel
theorem dX12_feed_105 : decode cX12_feed 105 = .ok (.aload_n 0, 1) := by decide +kernel
theorem dX12_feed_106 : decode cX12_feed 106 = .ok (.getfield 35, 3) := by decide +kernel
theorem dX12_feed_109 : decode cX12_feed 109 = .ok (.iload 5, 2) := by decide +kernel
theorem dX12_feed_111 : decode cX12_feed 111 = .ok (.iload 6, 2) := by decide +kernel
theorem dX12_feed_113 : decode cX12_feed 113 = .ok (.iadd, 1) := by decide +kernel
theorem dX12_feed_114 : decode cX12_feed 114 = .ok (.iload 7, 2) := by decide +kernel
theorem dX12_feed_116 : decode cX12_feed 116 = .ok (.iastore, 1) := by decide +kernel
theorem dX12_feed_117 : decode cX12_feed 117 = .ok (.goto 15, 3) := by decide +kernel
theorem dX12_feed_120 : decode cX12_feed 120 = .ok (.aload_n 0, 1) := by decide +kernel
theorem dX12_feed_121 : decode cX12_feed 121 = .ok (.getfield 29, 3) := by decide +kernel
theorem dX12_feed_124 : decode cX12_feed 124 = .ok (.iload 5, 2) := by decide +kernel
theorem dX12_feed_126 : decode cX12_feed 126 = .ok (.iload 6, 2) := by decide +kernel
theorem dX12_feed_128 : decode cX12_feed 128 = .ok (.iadd, 1) := by decide +kernel
theorem dX12_feed_129 : decode cX12_feed 129 = .ok (.iload 7, 2) := by decide +kernel
theorem dX12_feed_131 : decode cX12_feed 131 = .ok (.iastore, 1) := by decide +kernel
theorem dX12_feed_132 : decode cX12_feed 132 = .ok (.iinc 6 1, 3) := by decide +kernel
theorem dX12_feed_135 : decode cX12_feed 135 = .ok (.goto (-60), 3) := by decide +kernel
theorem dX12_feed_138 : decode cX12_feed 138 = .ok (.iload_n 1, 1) := by decide +kernel
theorem dX12_feed_139 : decode cX12_feed 139 = .ok (.ifCond .eq 17, 3) := by decide +kernel
theorem dX12_feed_142 : decode cX12_feed 142 = .ok (.aload_n 0, 1) := by decide +kernel
theorem dX12_feed_143 : decode cX12_feed 143 = .ok (.dup, 1) := by decide +kernel
theorem dX12_feed_144 : decode cX12_feed 144 = .ok (.getfield 38, 3) := by decide +kernel
theorem dX12_feed_147 : decode cX12_feed 147 = .ok (.iload 4, 2) := by decide +kernel
theorem dX12_feed_149 : decode cX12_feed 149 = .ok (.iadd, 1) := by decide +kernel
theorem dX12_feed_150 : decode cX12_feed 150 = .ok (.putfield 38, 3) := by decide +kernel
theorem dX12_feed_153 : decode cX12_feed 153 = .ok (.goto 14, 3) := by decide +kernel
theorem dX12_feed_156 : decode cX12_feed 156 = .ok (.aload_n 0, 1) := by decide +kernel
theorem dX12_feed_157 : decode cX12_feed 157 = .ok (.dup, 1) := by decide +kernel
theorem dX12_feed_158 : decode cX12_feed 158 = .ok (.getfield 32, 3) := by decide +kernel
theorem dX12_feed_161 : decode cX12_feed 161 = .ok (.iload 4, 2) := by decide +kernel
theorem dX12_feed_163 : decode cX12_feed 163 = .ok (.iadd, 1) := by decide +kernel
theorem dX12_feed_164 : decode cX12_feed 164 = .ok (.putfield 32, 3) := by decide +kernel
theorem dX12_feed_167 : decode cX12_feed 167 = .ok (.iload 5, 2) := by decide +kernel
theorem dX12_feed_169 : decode cX12_feed 169 = .ok (.iload 4, 2) := by decide +kernel
theorem dX12_feed_171 : decode cX12_feed 171 = .ok (.iadd, 1) := by decide +kernel
theorem dX12_feed_172 : decode cX12_feed 172 = .ok (.ireturn, 1) := by decide +kernel
theorem dX12_clear_0 : decode cX12_clear 0 = .ok (.aload_n 0, 1) := by decide +kernel
theorem dX12_clear_1 : decode cX12_clear 1 = .ok (.iconst 0, 1) := by decide +kernel
theorem dX12_clear_2 : decode cX12_clear 2 = .ok (.putfield 7, 3) := by decide +kernel
theorem dX12_clear_5 : decode cX12_clear 5 = .ok (.iload_n 1, 1) := by decide +kernel
theorem dX12_clear_6 : decode cX12_clear 6 = .ok (.ifCond .eq 11, 3) := by decide +kernel
theorem dX12_clear_9 : decode cX12_clear 9 = .ok (.aload_n 0, 1) := by decide +kernel
theorem dX12_clear_10 : decode cX12_clear 10 = .ok (.iconst 0, 1) := by decide +kernel
theorem dX12_clear_11 : decode cX12_clear 11 = .ok (.putfield 38, 3) := by decide +kernel
theorem dX12_clear_14 : decode cX12_clear 14 = .ok (.goto 8, 3) := by decide +kernel
theorem dX12_clear_17 : decode cX12_clear 17 = .ok (.aload_n 0, 1) := by decide +kernel
theorem dX12_clear_18 : decode cX12_clear 18 = .ok (.iconst 0, 1) := by decide +kernel
theorem dX12_clear_19 : decode cX12_clear 19 = .ok (.putfield 32, 3) := by decide +kernel
theorem dX12_clear_22 : decode cX12_clear 22 = .ok (.return_, 1) := by decide +kernel
theorem dX12_move_0 : decode cX12_move 0 = .ok (.aload_n 0, 1) := by decide +kernel
theorem dX12_move_1 : decode cX12_move 1 = .ok (.iload_n 1, 1) := by decide +kernel
theorem dX12_move_2 : decode cX12_move 2 = .ok (.ifCond .lt 8, 3) := by decide +kernel
theorem dX12_move_5 : decode cX12_move 5 = .ok (.iload_n 1, 1) := by decide +kernel
theorem dX12_move_6 : decode cX12_move 6 = .ok (.iconst 2, 1) := by decide +kernel
theorem dX12_move_7 : decode cX12_move 7 = .ok (.if_icmp .le 7, 3) := by decide +kernel
theorem dX12_move_10 : decode cX12_move 10 = .ok (.iconst 1, 1) := by decide +kernel
theorem dX12_move_11 : decode cX12_move 11 = .ok (.goto 4, 3) := by decide +kernel
theorem dX12_move_14 : decode cX12_move 14 = .ok (.iconst 0, 1) := by decide +kernel
theorem dX12_move_15 : decode cX12_move 15 = .ok (.putfield 7, 3) := by decide +kernel
theorem dX12_move_18 : decode cX12_move 18 = .ok (.aload_n 0, 1) := by decide +kernel
theorem dX12_move_19 : decode cX12_move 19 = .ok (.getfield 7, 3) := by decide +kernel
theorem dX12_move_22 : decode cX12_move 22 = .ok (.ifCond .eq 5, 3) := by decide +kernel
theorem dX12_move_25 : decode cX12_move 25 = .ok (.iconst 0, 1) := by decide +kernel
theorem dX12_move_26 : decode cX12_move 26 = .ok (.ireturn, 1) := by decide +kernel
theorem dX12_move_27 : decode cX12_move 27 = .ok (.aload_n 0, 1) := by decide +kernel
theorem dX12_move_28 : decode cX12_move 28 = .ok (.getfield 26, 3) := by decide +kernel
theorem dX12_move_31 : decode cX12_move 31 = .ok (.iload_n 1, 1) := by decide +kernel
theorem dX12_move_32 : decode cX12_move 32 = .ok (.invokestatic 328, 3) := by decide +kernel
theorem dX12_move_35 : decode cX12_move 35 = .ok (.if_icmp .ge 10, 3) := by decide +kernel
theorem dX12_move_38 : decode cX12_move 38 = .ok (.aload_n 0, 1) := by decide +kernel
theorem dX12_move_39 : decode cX12_move 39 = .ok (.getfield 26, 3) := by decide +kernel
theorem dX12_move_42 : decode cX12_move 42 = .ok (.goto 7, 3) := by decide +kernel
theorem dX12_move_45 : decode cX12_move 45 = .ok (.iload_n 1, 1) := by decide +kernel
theorem dX12_move_46 : decode cX12_move 46 = .ok (.invokestatic 328, 3) := by decide +kernel
theorem dX12_move_49 : decode cX12_move 49 = .ok (.istore_n 2, 1) := by decide +kernel
theorem dX12_move_50 : decode cX12_move 50 = .ok (.iconst 0, 1) := by decide +kernel
theorem dX12_move_51 : decode cX12_move 51 = .ok (.istore_n 3, 1) := by decide +kernel
theorem dX12_move_52 : decode cX12_move 52 = .ok (.iload_n 3, 1) := by decide +kernel
theorem dX12_move_53 : decode cX12_move 53 = .ok (.iload_n 2, 1) := by decide +kernel
theorem dX12_move_54 : decode cX12_move 54 = .ok (.if_icmp .ge 21, 3) := by decide +kernel
