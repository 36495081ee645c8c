theorem dCL_law_18 : decode code 18 = .ok (.iload_n 3, 1) := by decide +kernel
theorem dCL_law_19 : decode code 19 = .ok (.aload_n 0, 1) := by decide +kernel
theorem dCL_law_20 : decode code 20 = .ok (.arraylength, 1) := by decide +kernel
theorem dCL_law_21 : decode code 21 = .ok (.bipush 10, 2) := by decide +kernel
theorem dCL_law_23 : decode code 23 = .ok (.isub, 1) := by decide +kernel
theorem dCL_law_24 : decode code 24 = .ok (.if_icmp .gt 707, 3) := by decide +kernel
theorem dCL_law_27 : decode code 27 = .ok (.aload_n 0, 1) := by decide +kernel
theorem dCL_law_28 : decode code 28 = .ok (.iload_n 3, 1) := by decide +kernel
theorem dCL_law_29 : decode code 29 = .ok (.iaload, 1) := by decide +kernel
theorem dCL_law_30 : decode code 30 = .ok (.bipush 31, 2) := by decide +kernel
theorem dCL_law_32 : decode code 32 = .ok (.iand, 1) := by decide +kernel
theorem dCL_law_33 : decode code 33 = .ok (.tableswitch 692 0 16 #[83, 106, 119, 152, 263, 296, 329, 352, 395, 448, 471, 534, 547, 600, 613, 636, 669], 83) := by decide +kernel
theorem dCL_law_116 : decode code 116 = .ok (.aload_n 1, 1) := by decide +kernel
theorem dCL_law_117 : decode code 117 = .ok (.aload_n 0, 1) := by decide +kernel
theorem dCL_law_118 : decode code 118 = .ok (.iload_n 3, 1) := by decide +kernel
theorem dCL_law_119 : decode code 119 = .ok (.iconst 1, 1) := by decide +kernel
theorem dCL_law_120 : decode code 120 = .ok (.iadd, 1) := by decide +kernel
theorem dCL_law_121 : decode code 121 = .ok (.iaload, 1) := by decide +kernel
theorem dCL_law_122 : decode code 122 = .ok (.invokevirtual 13, 3) := by decide +kernel
theorem dCL_law_125 : decode code 125 = .ok (.aload_n 2, 1) := by decide +kernel
theorem dCL_law_126 : decode code 126 = .ok (.aload_n 0, 1) := by decide +kernel
theorem dCL_law_127 : decode code 127 = .ok (.iload_n 3, 1) := by decide +kernel
theorem dCL_law_128 : decode code 128 = .ok (.iconst 1, 1) := by decide +kernel
theorem dCL_law_129 : decode code 129 = .ok (.iadd, 1) := by decide +kernel
theorem dCL_law_130 : decode code 130 = .ok (.iaload, 1) := by decide +kernel
theorem dCL_law_131 : decode code 131 = .ok (.invokevirtual 17, 3) := by decide +kernel
theorem dCL_law_134 : decode code 134 = .ok (.if_icmp .eq 591, 3) := by decide +kernel
theorem dCL_law_139 : decode code 139 = .ok (.aload_n 1, 1) := by decide +kernel
theorem dCL_law_140 : decode code 140 = .ok (.invokevirtual 18, 3) := by decide +kernel
theorem dCL_law_143 : decode code 143 = .ok (.aload_n 2, 1) := by decide +kernel
theorem dCL_law_144 : decode code 144 = .ok (.invokevirtual 22, 3) := by decide +kernel
theorem dCL_law_147 : decode code 147 = .ok (.if_icmp .eq 578, 3) := by decide +kernel
theorem dCL_law_152 : decode code 152 = .ok (.aload_n 1, 1) := by decide +kernel
theorem dCL_law_153 : decode code 153 = .ok (.aload_n 0, 1) := by decide +kernel
theorem dCL_law_154 : decode code 154 = .ok (.iload_n 3, 1) := by decide +kernel
theorem dCL_law_155 : decode code 155 = .ok (.iconst 1, 1) := by decide +kernel
theorem dCL_law_156 : decode code 156 = .ok (.iadd, 1) := by decide +kernel
theorem dCL_law_157 : decode code 157 = .ok (.iaload, 1) := by decide +kernel
theorem dCL_law_158 : decode code 158 = .ok (.aload_n 0, 1) := by decide +kernel
theorem dCL_law_159 : decode code 159 = .ok (.iload_n 3, 1) := by decide +kernel
theorem dCL_law_160 : decode code 160 = .ok (.iconst 2, 1) := by decide +kernel
theorem dCL_law_161 : decode code 161 = .ok (.iadd, 1) := by decide +kernel
theorem dCL_law_162 : decode code 162 = .ok (.iaload, 1) := by decide +kernel
theorem dCL_law_163 : decode code 163 = .ok (.invokevirtual 23, 3) := by decide +kernel
theorem dCL_law_166 : decode code 166 = .ok (.aload_n 2, 1) := by decide +kernel
theorem dCL_law_167 : decode code 167 = .ok (.aload_n 0, 1) := by decide +kernel
theorem dCL_law_168 : decode code 168 = .ok (.iload_n 3, 1) := by decide +kernel
theorem dCL_law_169 : decode code 169 = .ok (.iconst 1, 1) := by decide +kernel
theorem dCL_law_170 : decode code 170 = .ok (.iadd, 1) := by decide +kernel
theorem dCL_law_171 : decode code 171 = .ok (.iaload, 1) := by decide +kernel
theorem dCL_law_172 : decode code 172 = .ok (.aload_n 0, 1) := by decide +kernel
theorem dCL_law_173 : decode code 173 = .ok (.iload_n 3, 1) := by decide +kernel
theorem dCL_law_174 : decode code 174 = .ok (.iconst 2, 1) := by decide +kernel
theorem dCL_law_175 : decode code 175 = .ok (.iadd, 1) := by decide +kernel
theorem dCL_law_176 : decode code 176 = .ok (.iaload, 1) := by decide +kernel
theorem dCL_law_177 : decode code 177 = .ok (.invokevirtual 27, 3) := by decide +kernel
theorem dCL_law_180 : decode code 180 = .ok (.if_icmp .eq 545, 3) := by decide +kernel
theorem dCL_law_185 : decode code 185 = .ok (.aload_n 1, 1) := by decide +kernel
theorem dCL_law_186 : decode code 186 = .ok (.aload_n 0, 1) := by decide +kernel
theorem dCL_law_187 : decode code 187 = .ok (.iload_n 3, 1) := by decide +kernel
theorem dCL_law_188 : decode code 188 = .ok (.iconst 1, 1) := by decide +kernel
theorem dCL_law_189 : decode code 189 = .ok (.iadd, 1) := by decide +kernel
theorem dCL_law_190 : decode code 190 = .ok (.iaload, 1) := by decide +kernel
theorem dCL_law_191 : decode code 191 = .ok (.aload_n 0, 1) := by decide +kernel
theorem dCL_law_192 : decode code 192 = .ok (.iload_n 3, 1) := by decide +kernel
theorem dCL_law_193 : decode code 193 = .ok (.iconst 2, 1) := by decide +kernel
theorem dCL_law_194 : decode code 194 = .ok (.iadd, 1) := by decide +kernel
theorem dCL_law_195 : decode code 195 = .ok (.iaload, 1) := by decide +kernel
theorem dCL_law_196 : decode code 196 = .ok (.aload_n 0, 1) := by decide +kernel
theorem dCL_law_197 : decode code 197 = .ok (.iload_n 3, 1) := by decide +kernel
theorem dCL_law_198 : decode code 198 = .ok (.iconst 3, 1) := by decide +kernel
theorem dCL_law_199 : decode code 199 = .ok (.iadd, 1) := by decide +kernel
theorem dCL_law_200 : decode code 200 = .ok (.iaload, 1) := by decide +kernel
theorem dCL_law_201 : decode code 201 = .ok (.aload_n 0, 1) := by decide +kernel
theorem dCL_law_202 : decode code 202 = .ok (.iload_n 3, 1) := by decide +kernel
theorem dCL_law_203 : decode code 203 = .ok (.iconst 4, 1) := by decide +kernel
theorem dCL_law_204 : decode code 204 = .ok (.iadd, 1) := by decide +kernel
theorem dCL_law_205 : decode code 205 = .ok (.iaload, 1) := by decide +kernel
theorem dCL_law_206 : decode code 206 = .ok (.aload_n 0, 1) := by decide +kernel
theorem dCL_law_207 : decode code 207 = .ok (.iload_n 3, 1) := by decide +kernel
theorem dCL_law_208 : decode code 208 = .ok (.iconst 5, 1) := by decide +kernel
theorem dCL_law_209 : decode code 209 = .ok (.iadd, 1) := by decide +kernel
theorem dCL_law_210 : decode code 210 = .ok (.iaload, 1) := by decide +kernel
theorem dCL_law_211 : decode code 211 = .ok (.aload_n 0, 1) := by decide +kernel
theorem dCL_law_212 : decode code 212 = .ok (.iload_n 3, 1) := by decide +kernel
theorem dCL_law_213 : decode code 213 = .ok (.bipush 6, 2) := by decide +kernel
theorem dCL_law_215 : decode code 215 = .ok (.iadd, 1) := by decide +kernel
theorem dCL_law_216 : decode code 216 = .ok (.iaload, 1) := by decide +kernel
theorem dCL_law_217 : decode code 217 = .ok (.aload_n 0, 1) := by decide +kernel
theorem dCL_law_218 : decode code 218 = .ok (.iload_n 3, 1) := by decide +kernel
theorem dCL_law_219 : decode code 219 = .ok (.bipush 7, 2) := by decide +kernel
theorem dCL_law_221 : decode code 221 = .ok (.iadd, 1) := by decide +kernel
theorem dCL_law_222 : decode code 222 = .ok (.iaload, 1) := by decide +kernel
theorem dCL_law_223 : decode code 223 = .ok (.aload_n 0, 1) := by decide +kernel
theorem dCL_law_224 : decode code 224 = .ok (.iload_n 3, 1) := by decide +kernel
theorem dCL_law_225 : decode code 225 = .ok (.bipush 8, 2) := by decide +kernel
theorem dCL_law_227 : decode code 227 = .ok (.iadd, 1) := by decide +kernel
theorem dCL_law_228 : decode code 228 = .ok (.iaload, 1) := by decide +kernel
theorem dCL_law_229 : decode code 229 = .ok (.aload_n 0, 1) := by decide +kernel
theorem dCL_law_230 : decode code 230 = .ok (.iload_n 3, 1) := by decide +kernel
theorem dCL_law_231 : decode code 231 = .ok (.bipush 9, 2) := by decide +kernel
theorem dCL_law_233 : decode code 233 = .ok (.iadd, 1) := by decide +kernel
theorem dCL_law_234 : decode code 234 = .ok (.iaload, 1) := by decide +kernel
theorem dCL_law_235 : decode code 235 = .ok (.invokevirtual 28, 3) := by decide +kernel
theorem dCL_law_238 : decode code 238 = .ok (.aload_n 2, 1) := by decide +kernel
theorem dCL_law_239 : decode code 239 = .ok (.aload_n 0, 1) := by decide +kernel
theorem dCL_law_240 : decode code 240 = .ok (.iload_n 3, 1) := by decide +kernel
theorem dCL_law_241 : decode code 241 = .ok (.iconst 1, 1) := by decide +kernel
theorem dCL_law_242 : decode code 242 = .ok (.iadd, 1) := by decide +kernel
theorem dCL_law_243 : decode code 243 = .ok (.iaload, 1) := by decide +kernel
theorem dCL_law_244 : decode code 244 = .ok (.aload_n 0, 1) := by decide +kernel
theorem dCL_law_245 : decode code 245 = .ok (.iload_n 3, 1) := by decide +kernel
theorem dCL_law_246 : decode code 246 = .ok (.iconst 2, 1) := by decide +kernel
theorem dCL_law_247 : decode code 247 = .ok (.iadd, 1) := by decide +kernel
theorem dCL_law_248 : decode code 248 = .ok (.iaload, 1) := by decide +kernel
theorem dCL_law_249 : decode code 249 = .ok (.aload_n 0, 1) := by decide +kernel
theorem dCL_law_250 : decode code 250 = .ok (.iload_n 3, 1) := by decide +kernel
theorem dCL_law_251 : decode code 251 = .ok (.iconst 3, 1) := by decide +kernel
theorem dCL_law_252 : decode code 252 = .ok (.iadd, 1) := by decide +kernel
theorem dCL_law_253 : decode code 253 = .ok (.iaload, 1) := by decide +kernel
theorem dCL_law_254 : decode code 254 = .ok (.aload_n 0, 1) := by decide +kernel
theorem dCL_law_255 : decode code 255 = .ok (.iload_n 3, 1) := by decide +kernel
theorem dCL_law_256 : decode code 256 = .ok (.iconst 4, 1) := by decide +kernel
theorem dCL_law_257 : decode code 257 = .ok (.iadd, 1) := by decide +kernel
theorem dCL_law_258 : decode code 258 = .ok (.iaload, 1) := by decide +kernel
theorem dCL_law_259 : decode code 259 = .ok (.aload_n 0, 1) := by decide +kernel
theorem dCL_law_260 : decode code 260 = .ok (.iload_n 3, 1) := by decide +kernel
theorem dCL_law_261 : decode code 261 = .ok (.iconst 5, 1) := by decide +kernel
theorem dCL_law_262 : decode code 262 = .ok (.iadd, 1) := by decide +kernel
theorem dCL_law_263 : decode code 263 = .ok (.iaload, 1) := by decide +kernel
theorem dCL_law_264 : decode code 264 = .ok (.aload_n 0, 1) := by decide +kernel
theorem dCL_law_265 : decode code 265 = .ok (.iload_n 3, 1) := by decide +kernel
theorem dCL_law_266 : decode code 266 = .ok (.bipush 6, 2) := by decide +kernel
theorem dCL_law_268 : decode code 268 = .ok (.iadd, 1) := by decide +kernel
theorem dCL_law_269 : decode code 269 = .ok (.iaload, 1) := by decide +kernel
theorem dCL_law_270 : decode code 270 = .ok (.aload_n 0, 1) := by decide +kernel
theorem dCL_law_271 : decode code 271 = .ok (.iload_n 3, 1) := by decide +kernel
theorem dCL_law_272 : decode code 272 = .ok (.bipush 7, 2) := by decide +kernel
theorem dCL_law_274 : decode code 274 = .ok (.iadd, 1) := by decide +kernel
theorem dCL_law_275 : decode code 275 = .ok (.iaload, 1) := by decide +kernel
theorem dCL_law_276 : decode code 276 = .ok (.aload_n 0, 1) := by decide +kernel
theorem dCL_law_277 : decode code 277 = .ok (.iload_n 3, 1) := by decide +kernel
theorem dCL_law_278 : decode code 278 = .ok (.bipush 8, 2) := by decide +kernel
theorem dCL_law_280 : decode code 280 = .ok (.iadd, 1) := by decide +kernel
theorem dCL_law_281 : decode code 281 = .ok (.iaload, 1) := by decide +kernel
theorem dCL_law_282 : decode code 282 = .ok (.aload_n 0, 1) := by decide +kernel
theorem dCL_law_283 : decode code 283 = .ok (.iload_n 3, 1) := by decide +kernel
theorem dCL_law_284 : decode code 284 = .ok (.bipush 9, 2) := by decide +kernel
theorem dCL_law_286 : decode code 286 = .ok (.iadd, 1) := by decide +kernel
theorem dCL_law_287 : decode code 287 = .ok (.iaload, 1) := by decide +kernel
theorem dCL_law_288 : decode code 288 = .ok (.invokevirtual 32, 3) := by decide +kernel
theorem dCL_law_291 : decode code 291 = .ok (.if_icmp .eq 434, 3) := by decide +kernel
theorem dCL_law_296 : decode code 296 = .ok (.aload_n 1, 1) := by decide +kernel
theorem dCL_law_297 : decode code 297 = .ok (.aload_n 0, 1) := by decide +kernel
theorem dCL_law_298 : decode code 298 = .ok (.iload_n 3, 1) := by decide +kernel
theorem dCL_law_299 : decode code 299 = .ok (.iconst 1, 1) := by decide +kernel
theorem dCL_law_300 : decode code 300 = .ok (.iadd, 1) := by decide +kernel
theorem dCL_law_301 : decode code 301 = .ok (.iaload, 1) := by decide +kernel
theorem dCL_law_302 : decode code 302 = .ok (.aload_n 0, 1) := by decide +kernel
theorem dCL_law_303 : decode code 303 = .ok (.iload_n 3, 1) := by decide +kernel
theorem dCL_law_304 : decode code 304 = .ok (.iconst 2, 1) := by decide +kernel
theorem dCL_law_305 : decode code 305 = .ok (.iadd, 1) := by decide +kernel
theorem dCL_law_306 : decode code 306 = .ok (.iaload, 1) := by decide +kernel
theorem dCL_law_307 : decode code 307 = .ok (.invokevirtual 33, 3) := by decide +kernel
theorem dCL_law_310 : decode code 310 = .ok (.aload_n 2, 1) := by decide +kernel
theorem dCL_law_311 : decode code 311 = .ok (.aload_n 0, 1) := by decide +kernel
theorem dCL_law_312 : decode code 312 = .ok (.iload_n 3, 1) := by decide +kernel
theorem dCL_law_313 : decode code 313 = .ok (.iconst 1, 1) := by decide +kernel
theorem dCL_law_314 : decode code 314 = .ok (.iadd, 1) := by decide +kernel
theorem dCL_law_315 : decode code 315 = .ok (.iaload, 1) := by decide +kernel
theorem dCL_law_316 : decode code 316 = .ok (.aload_n 0, 1) := by decide +kernel
theorem dCL_law_317 : decode code 317 = .ok (.iload_n 3, 1) := by decide +kernel
theorem dCL_law_318 : decode code 318 = .ok (.iconst 2, 1) := by decide +kernel
theorem dCL_law_319 : decode code 319 = .ok (.iadd, 1) := by decide +kernel
theorem dCL_law_320 : decode code 320 = .ok (.iaload, 1) := by decide +kernel
theorem dCL_law_321 : decode code 321 = .ok (.invokevirtual 36, 3) := by decide +kernel
theorem dCL_law_324 : decode code 324 = .ok (.if_icmp .eq 401, 3) := by decide +kernel
theorem dCL_law_329 : decode code 329 = .ok (.aload_n 1, 1) := by decide +kernel
theorem dCL_law_330 : decode code 330 = .ok (.aload_n 0, 1) := by decide +kernel
theorem dCL_law_331 : decode code 331 = .ok (.iload_n 3, 1) := by decide +kernel
theorem dCL_law_332 : decode code 332 = .ok (.iconst 1, 1) := by decide +kernel
theorem dCL_law_333 : decode code 333 = .ok (.iadd, 1) := by decide +kernel
theorem dCL_law_334 : decode code 334 = .ok (.iaload, 1) := by decide +kernel
theorem dCL_law_335 : decode code 335 = .ok (.aload_n 0, 1) := by decide +kernel
theorem dCL_law_336 : decode code 336 = .ok (.iload_n 3, 1) := by decide +kernel
theorem dCL_law_337 : decode code 337 = .ok (.iconst 2, 1) := by decide +kernel
theorem dCL_law_338 : decode code 338 = .ok (.iadd, 1) := by decide +kernel
theorem dCL_law_339 : decode code 339 = .ok (.iaload, 1) := by decide +kernel
theorem dCL_law_340 : decode code 340 = .ok (.invokevirtual 37, 3) := by decide +kernel
theorem dCL_law_343 : decode code 343 = .ok (.aload_n 2, 1) := by decide +kernel
theorem dCL_law_344 : decode code 344 = .ok (.aload_n 0, 1) := by decide +kernel
theorem dCL_law_345 : decode code 345 = .ok (.iload_n 3, 1) := by decide +kernel
theorem dCL_law_346 : decode code 346 = .ok (.iconst 1, 1) := by decide +kernel
theorem dCL_law_347 : decode code 347 = .ok (.iadd, 1) := by decide +kernel
theorem dCL_law_348 : decode code 348 = .ok (.iaload, 1) := by decide +kernel
theorem dCL_law_349 : decode code 349 = .ok (.aload_n 0, 1) := by decide +kernel
theorem dCL_law_350 : decode code 350 = .ok (.iload_n 3, 1) := by decide +kernel
theorem dCL_law_351 : decode code 351 = .ok (.iconst 2, 1) := by decide +kernel
theorem dCL_law_352 : decode code 352 = .ok (.iadd, 1) := by decide +kernel
theorem dCL_law_353 : decode code 353 = .ok (.iaload, 1) := by decide +kernel
theorem dCL_law_354 : decode code 354 = .ok (.invokevirtual 40, 3) := by decide +kernel
theorem dCL_law_357 : decode code 357 = .ok (.if_icmp .eq 368, 3) := by decide +kernel
theorem dCL_law_362 : decode code 362 = .ok (.aload_n 1, 1) := by decide +kernel
theorem dCL_law_363 : decode code 363 = .ok (.aload_n 0, 1) := by decide +kernel
theorem dCL_law_364 : decode code 364 = .ok (.iload_n 3, 1) := by decide +kernel
theorem dCL_law_365 : decode code 365 = .ok (.iconst 1, 1) := by decide +kernel
theorem dCL_law_366 : decode code 366 = .ok (.iadd, 1) := by decide +kernel
theorem dCL_law_367 : decode code 367 = .ok (.iaload, 1) := by decide +kernel
theorem dCL_law_368 : decode code 368 = .ok (.invokevirtual 41, 3) := by decide +kernel
theorem dCL_law_371 : decode code 371 = .ok (.aload_n 2, 1) := by decide +kernel
theorem dCL_law_372 : decode code 372 = .ok (.aload_n 0, 1) := by decide +kernel
theorem dCL_law_373 : decode code 373 = .ok (.iload_n 3, 1) := by decide +kernel
theorem dCL_law_374 : decode code 374 = .ok (.iconst 1, 1) := by decide +kernel
theorem dCL_law_375 : decode code 375 = .ok (.iadd, 1) := by decide +kernel
theorem dCL_law_376 : decode code 376 = .ok (.iaload, 1) := by decide +kernel
theorem dCL_law_377 : decode code 377 = .ok (.invokevirtual 44, 3) := by decide +kernel
theorem dCL_law_380 : decode code 380 = .ok (.if_icmp .eq 345, 3) := by decide +kernel
theorem dCL_law_385 : decode code 385 = .ok (.aload_n 1, 1) := by decide +kernel
theorem dCL_law_386 : decode code 386 = .ok (.aload_n 0, 1) := by decide +kernel
theorem dCL_law_387 : decode code 387 = .ok (.iload_n 3, 1) := by decide +kernel
theorem dCL_law_388 : decode code 388 = .ok (.iconst 1, 1) := by decide +kernel
theorem dCL_law_389 : decode code 389 = .ok (.iadd, 1) := by decide +kernel
theorem dCL_law_390 : decode code 390 = .ok (.iaload, 1) := by decide +kernel
theorem dCL_law_391 : decode code 391 = .ok (.aload_n 0, 1) := by decide +kernel
theorem dCL_law_392 : decode code 392 = .ok (.iload_n 3, 1) := by decide +kernel
theorem dCL_law_393 : decode code 393 = .ok (.iconst 2, 1) := by decide +kernel
theorem dCL_law_394 : decode code 394 = .ok (.iadd, 1) := by decide +kernel
theorem dCL_law_395 : decode code 395 = .ok (.iaload, 1) := by decide +kernel
theorem dCL_law_396 : decode code 396 = .ok (.aload_n 0, 1) := by decide +kernel
theorem dCL_law_397 : decode code 397 = .ok (.iload_n 3, 1) := by decide +kernel
theorem dCL_law_398 : decode code 398 = .ok (.iconst 3, 1) := by decide +kernel
theorem dCL_law_399 : decode code 399 = .ok (.iadd, 1) := by decide +kernel
theorem dCL_law_400 : decode code 400 = .ok (.iaload, 1) := by decide +kernel
theorem dCL_law_401 : decode code 401 = .ok (.invokevirtual 45, 3) := by decide +kernel
theorem dCL_law_404 : decode code 404 = .ok (.aload_n 2, 1) := by decide +kernel
theorem dCL_law_405 : decode code 405 = .ok (.aload_n 0, 1) := by decide +kernel
theorem dCL_law_406 : decode code 406 = .ok (.iload_n 3, 1) := by decide +kernel
theorem dCL_law_407 : decode code 407 = .ok (.iconst 1, 1) := by decide +kernel
theorem dCL_law_408 : decode code 408 = .ok (.iadd, 1) := by decide +kernel
theorem dCL_law_409 : decode code 409 = .ok (.iaload, 1) := by decide +kernel
theorem dCL_law_410 : decode code 410 = .ok (.aload_n 0, 1) := by decide +kernel
theorem dCL_law_411 : decode code 411 = .ok (.iload_n 3, 1) := by decide +kernel
theorem dCL_law_412 : decode code 412 = .ok (.iconst 2, 1) := by decide +kernel
theorem dCL_law_413 : decode code 413 = .ok (.iadd, 1) := by decide +kernel
theorem dCL_law_414 : decode code 414 = .ok (.iaload, 1) := by decide +kernel
theorem dCL_law_415 : decode code 415 = .ok (.aload_n 0, 1) := by decide +kernel
theorem dCL_law_416 : decode code 416 = .ok (.iload_n 3, 1) := by decide +kernel
theorem dCL_law_417 : decode code 417 = .ok (.iconst 3, 1) := by decide +kernel
theorem dCL_law_418 : decode code 418 = .ok (.iadd, 1) := by decide +kernel
theorem dCL_law_419 : decode code 419 = .ok (.iaload, 1) := by decide +kernel
theorem dCL_law_420 : decode code 420 = .ok (.invokevirtual 49, 3) := by decide +kernel
theorem dCL_law_423 : decode code 423 = .ok (.if_icmp .eq 302, 3) := by decide +kernel
theorem dCL_law_428 : decode code 428 = .ok (.aload_n 1, 1) := by decide +kernel
theorem dCL_law_429 : decode code 429 = .ok (.aload_n 0, 1) := by decide +kernel
theorem dCL_law_430 : decode code 430 = .ok (.iload_n 3, 1) := by decide +kernel
theorem dCL_law_431 : decode code 431 = .ok (.iconst 1, 1) := by decide +kernel
theorem dCL_law_432 : decode code 432 = .ok (.iadd, 1) := by decide +kernel
theorem dCL_law_433 : decode code 433 = .ok (.iaload, 1) := by decide +kernel
theorem dCL_law_434 : decode code 434 = .ok (.aload_n 0, 1) := by decide +kernel
theorem dCL_law_435 : decode code 435 = .ok (.iload_n 3, 1) := by decide +kernel
theorem dCL_law_436 : decode code 436 = .ok (.iconst 2, 1) := by decide +kernel
theorem dCL_law_437 : decode code 437 = .ok (.iadd, 1) := by decide +kernel
theorem dCL_law_438 : decode code 438 = .ok (.iaload, 1) := by decide +kernel
theorem dCL_law_439 : decode code 439 = .ok (.aload_n 0, 1) := by decide +kernel
theorem dCL_law_440 : decode code 440 = .ok (.iload_n 3, 1) := by decide +kernel
theorem dCL_law_441 : decode code 441 = .ok (.iconst 3, 1) := by decide +kernel
theorem dCL_law_442 : decode code 442 = .ok (.iadd, 1) := by decide +kernel
theorem dCL_law_443 : decode code 443 = .ok (.iaload, 1) := by decide +kernel
theorem dCL_law_444 : decode code 444 = .ok (.aload_n 0, 1) := by decide +kernel
theorem dCL_law_445 : decode code 445 = .ok (.iload_n 3, 1) := by decide +kernel
theorem dCL_law_446 : decode code 446 = .ok (.iconst 4, 1) := by decide +kernel
theorem dCL_law_447 : decode code 447 = .ok (.iadd, 1) := by decide +kernel
theorem dCL_law_448 : decode code 448 = .ok (.iaload, 1) := by decide +kernel
theorem dCL_law_449 : decode code 449 = .ok (.invokevirtual 50, 3) := by decide +kernel
theorem dCL_law_452 : decode code 452 = .ok (.aload_n 2, 1) := by decide +kernel
theorem dCL_law_453 : decode code 453 = .ok (.aload_n 0, 1) := by decide +kernel
theorem dCL_law_454 : decode code 454 = .ok (.iload_n 3, 1) := by decide +kernel
theorem dCL_law_455 : decode code 455 = .ok (.iconst 1, 1) := by decide +kernel
theorem dCL_law_456 : decode code 456 = .ok (.iadd, 1) := by decide +kernel
theorem dCL_law_457 : decode code 457 = .ok (.iaload, 1) := by decide +kernel
theorem dCL_law_458 : decode code 458 = .ok (.aload_n 0, 1) := by decide +kernel
theorem dCL_law_459 : decode code 459 = .ok (.iload_n 3, 1) := by decide +kernel
theorem dCL_law_460 : decode code 460 = .ok (.iconst 2, 1) := by decide +kernel
theorem dCL_law_461 : decode code 461 = .ok (.iadd, 1) := by decide +kernel
theorem dCL_law_462 : decode code 462 = .ok (.iaload, 1) := by decide +kernel
theorem dCL_law_463 : decode code 463 = .ok (.aload_n 0, 1) := by decide +kernel
theorem dCL_law_464 : decode code 464 = .ok (.iload_n 3, 1) := by decide +kernel
theorem dCL_law_465 : decode code 465 = .ok (.iconst 3, 1) := by decide +kernel
theorem dCL_law_466 : decode code 466 = .ok (.iadd, 1) := by decide +kernel
theorem dCL_law_467 : decode code 467 = .ok (.iaload, 1) := by decide +kernel
theorem dCL_law_468 : decode code 468 = .ok (.aload_n 0, 1) := by decide +kernel
theorem dCL_law_469 : decode code 469 = .ok (.iload_n 3, 1) := by decide +kernel
theorem dCL_law_470 : decode code 470 = .ok (.iconst 4, 1) := by decide +kernel
theorem dCL_law_471 : decode code 471 = .ok (.iadd, 1) := by decide +kernel
theorem dCL_law_472 : decode code 472 = .ok (.iaload, 1) := by decide +kernel
theorem dCL_law_473 : decode code 473 = .ok (.invokevirtual 54, 3) := by decide +kernel
theorem dCL_law_476 : decode code 476 = .ok (.if_icmp .eq 249, 3) := by decide +kernel
theorem dCL_law_481 : decode code 481 = .ok (.aload_n 1, 1) := by decide +kernel
theorem dCL_law_482 : decode code 482 = .ok (.aload_n 0, 1) := by decide +kernel
theorem dCL_law_483 : decode code 483 = .ok (.iload_n 3, 1) := by decide +kernel
theorem dCL_law_484 : decode code 484 = .ok (.iconst 1, 1) := by decide +kernel
theorem dCL_law_485 : decode code 485 = .ok (.iadd, 1) := by decide +kernel
theorem dCL_law_486 : decode code 486 = .ok (.iaload, 1) := by decide +kernel
theorem dCL_law_487 : decode code 487 = .ok (.invokevirtual 55, 3) := by decide +kernel
theorem dCL_law_490 : decode code 490 = .ok (.aload_n 2, 1) := by decide +kernel
theorem dCL_law_491 : decode code 491 = .ok (.aload_n 0, 1) := by decide +kernel
theorem dCL_law_492 : decode code 492 = .ok (.iload_n 3, 1) := by decide +kernel
theorem dCL_law_493 : decode code 493 = .ok (.iconst 1, 1) := by decide +kernel
theorem dCL_law_494 : decode code 494 = .ok (.iadd, 1) := by decide +kernel
theorem dCL_law_495 : decode code 495 = .ok (.iaload, 1) := by decide +kernel
theorem dCL_law_496 : decode code 496 = .ok (.invokevirtual 58, 3) := by decide +kernel
theorem dCL_law_499 : decode code 499 = .ok (.if_icmp .eq 226, 3) := by decide +kernel
theorem dCL_law_504 : decode code 504 = .ok (.aload_n 1, 1) := by decide +kernel
theorem dCL_law_505 : decode code 505 = .ok (.aload_n 0, 1) := by decide +kernel
theorem dCL_law_506 : decode code 506 = .ok (.iload_n 3, 1) := by decide +kernel
theorem dCL_law_507 : decode code 507 = .ok (.iconst 1, 1) := by decide +kernel
theorem dCL_law_508 : decode code 508 = .ok (.iadd, 1) := by decide +kernel
theorem dCL_law_509 : decode code 509 = .ok (.iaload, 1) := by decide +kernel
theorem dCL_law_510 : decode code 510 = .ok (.aload_n 0, 1) := by decide +kernel
theorem dCL_law_511 : decode code 511 = .ok (.iload_n 3, 1) := by decide +kernel
theorem dCL_law_512 : decode code 512 = .ok (.iconst 2, 1) := by decide +kernel
theorem dCL_law_513 : decode code 513 = .ok (.iadd, 1) := by decide +kernel
theorem dCL_law_514 : decode code 514 = .ok (.iaload, 1) := by decide +kernel
theorem dCL_law_515 : decode code 515 = .ok (.aload_n 0, 1) := by decide +kernel
theorem dCL_law_516 : decode code 516 = .ok (.iload_n 3, 1) := by decide +kernel
theorem dCL_law_517 : decode code 517 = .ok (.iconst 3, 1) := by decide +kernel
theorem dCL_law_518 : decode code 518 = .ok (.iadd, 1) := by decide +kernel
theorem dCL_law_519 : decode code 519 = .ok (.iaload, 1) := by decide +kernel
theorem dCL_law_520 : decode code 520 = .ok (.aload_n 0, 1) := by decide +kernel
theorem dCL_law_521 : decode code 521 = .ok (.iload_n 3, 1) := by decide +kernel
theorem dCL_law_522 : decode code 522 = .ok (.iconst 4, 1) := by decide +kernel
theorem dCL_law_523 : decode code 523 = .ok (.iadd, 1) := by decide +kernel
theorem dCL_law_524 : decode code 524 = .ok (.iaload, 1) := by decide +kernel
theorem dCL_law_525 : decode code 525 = .ok (.aload_n 0, 1) := by decide +kernel
theorem dCL_law_526 : decode code 526 = .ok (.iload_n 3, 1) := by decide +kernel
theorem dCL_law_527 : decode code 527 = .ok (.iconst 5, 1) := by decide +kernel
theorem dCL_law_528 : decode code 528 = .ok (.iadd, 1) := by decide +kernel
theorem dCL_law_529 : decode code 529 = .ok (.iaload, 1) := by decide +kernel
theorem dCL_law_530 : decode code 530 = .ok (.invokevirtual 59, 3) := by decide +kernel
theorem dCL_law_533 : decode code 533 = .ok (.aload_n 2, 1) := by decide +kernel
theorem dCL_law_534 : decode code 534 = .ok (.aload_n 0, 1) := by decide +kernel
theorem dCL_law_535 : decode code 535 = .ok (.iload_n 3, 1) := by decide +kernel
theorem dCL_law_536 : decode code 536 = .ok (.iconst 1, 1) := by decide +kernel
theorem dCL_law_537 : decode code 537 = .ok (.iadd, 1) := by decide +kernel
theorem dCL_law_538 : decode code 538 = .ok (.iaload, 1) := by decide +kernel
theorem dCL_law_539 : decode code 539 = .ok (.aload_n 0, 1) := by decide +kernel
theorem dCL_law_540 : decode code 540 = .ok (.iload_n 3, 1) := by decide +kernel
theorem dCL_law_541 : decode code 541 = .ok (.iconst 2, 1) := by decide +kernel
theorem dCL_law_542 : decode code 542 = .ok (.iadd, 1) := by decide +kernel
theorem dCL_law_543 : decode code 543 = .ok (.iaload, 1) := by decide +kernel
theorem dCL_law_544 : decode code 544 = .ok (.aload_n 0, 1) := by decide +kernel
theorem dCL_law_545 : decode code 545 = .ok (.iload_n 3, 1) := by decide +kernel
theorem dCL_law_546 : decode code 546 = .ok (.iconst 3, 1) := by decide +kernel
theorem dCL_law_547 : decode code 547 = .ok (.iadd, 1) := by decide +kernel
theorem dCL_law_548 : decode code 548 = .ok (.iaload, 1) := by decide +kernel
theorem dCL_law_549 : decode code 549 = .ok (.aload_n 0, 1) := by decide +kernel
theorem dCL_law_550 : decode code 550 = .ok (.iload_n 3, 1) := by decide +kernel
theorem dCL_law_551 : decode code 551 = .ok (.iconst 4, 1) := by decide +kernel
theorem dCL_law_552 : decode code 552 = .ok (.iadd, 1) := by decide +kernel
theorem dCL_law_553 : decode code 553 = .ok (.iaload, 1) := by decide +kernel
theorem dCL_law_554 : decode code 554 = .ok (.aload_n 0, 1) := by decide +kernel
theorem dCL_law_555 : decode code 555 = .ok (.iload_n 3, 1) := by decide +kernel
theorem dCL_law_556 : decode code 556 = .ok (.iconst 5, 1) := by decide +kernel
theorem dCL_law_557 : decode code 557 = .ok (.iadd, 1) := by decide +kernel
theorem dCL_law_558 : decode code 558 = .ok (.iaload, 1) := by decide +kernel
theorem dCL_law_559 : decode code 559 = .ok (.invokevirtual 63, 3) := by decide +kernel
theorem dCL_law_562 : decode code 562 = .ok (.if_icmp .eq 163, 3) := by decide +kernel
theorem dCL_law_567 : decode code 567 = .ok (.aload_n 1, 1) := by decide +kernel
theorem dCL_law_568 : decode code 568 = .ok (.invokevirtual 64, 3) := by decide +kernel
theorem dCL_law_571 : decode code 571 = .ok (.aload_n 2, 1) := by decide +kernel
theorem dCL_law_572 : decode code 572 = .ok (.invokevirtual 67, 3) := by decide +kernel
theorem dCL_law_575 : decode code 575 = .ok (.if_icmp .eq 150, 3) := by decide +kernel
theorem dCL_law_580 : decode code 580 = .ok (.aload_n 1, 1) := by decide +kernel
theorem dCL_law_581 : decode code 581 = .ok (.aload_n 0, 1) := by decide +kernel
theorem dCL_law_582 : decode code 582 = .ok (.iload_n 3, 1) := by decide +kernel
theorem dCL_law_583 : decode code 583 = .ok (.iconst 1, 1) := by decide +kernel
theorem dCL_law_584 : decode code 584 = .ok (.iadd, 1) := by decide +kernel
theorem dCL_law_585 : decode code 585 = .ok (.iaload, 1) := by decide +kernel
theorem dCL_law_586 : decode code 586 = .ok (.aload_n 0, 1) := by decide +kernel
theorem dCL_law_587 : decode code 587 = .ok (.iload_n 3, 1) := by decide +kernel
theorem dCL_law_588 : decode code 588 = .ok (.iconst 2, 1) := by decide +kernel
theorem dCL_law_589 : decode code 589 = .ok (.iadd, 1) := by decide +kernel
theorem dCL_law_590 : decode code 590 = .ok (.iaload, 1) := by decide +kernel
theorem dCL_law_591 : decode code 591 = .ok (.aload_n 0, 1) := by decide +kernel
theorem dCL_law_592 : decode code 592 = .ok (.iload_n 3, 1) := by decide +kernel
theorem dCL_law_593 : decode code 593 = .ok (.iconst 3, 1) := by decide +kernel
theorem dCL_law_594 : decode code 594 = .ok (.iadd, 1) := by decide +kernel
theorem dCL_law_595 : decode code 595 = .ok (.iaload, 1) := by decide +kernel
theorem dCL_law_596 : decode code 596 = .ok (.aload_n 0, 1) := by decide +kernel
theorem dCL_law_597 : decode code 597 = .ok (.iload_n 3, 1) := by decide +kernel
theorem dCL_law_598 : decode code 598 = .ok (.iconst 4, 1) := by decide +kernel
theorem dCL_law_599 : decode code 599 = .ok (.iadd, 1) := by decide +kernel
theorem dCL_law_600 : decode code 600 = .ok (.iaload, 1) := by decide +kernel
theorem dCL_law_601 : decode code 601 = .ok (.invokevirtual 68, 3) := by decide +kernel
theorem dCL_law_604 : decode code 604 = .ok (.aload_n 2, 1) := by decide +kernel
theorem dCL_law_605 : decode code 605 = .ok (.aload_n 0, 1) := by decide +kernel
theorem dCL_law_606 : decode code 606 = .ok (.iload_n 3, 1) := by decide +kernel
theorem dCL_law_607 : decode code 607 = .ok (.iconst 1, 1) := by decide +kernel
theorem dCL_law_608 : decode code 608 = .ok (.iadd, 1) := by decide +kernel
theorem dCL_law_609 : decode code 609 = .ok (.iaload, 1) := by decide +kernel
theorem dCL_law_610 : decode code 610 = .ok (.aload_n 0, 1) := by decide +kernel
theorem dCL_law_611 : decode code 611 = .ok (.iload_n 3, 1) := by decide +kernel
theorem dCL_law_612 : decode code 612 = .ok (.iconst 2, 1) := by decide +kernel
theorem dCL_law_613 : decode code 613 = .ok (.iadd, 1) := by decide +kernel
theorem dCL_law_614 : decode code 614 = .ok (.iaload, 1) := by decide +kernel
theorem dCL_law_615 : decode code 615 = .ok (.aload_n 0, 1) := by decide +kernel
theorem dCL_law_616 : decode code 616 = .ok (.iload_n 3, 1) := by decide +kernel
theorem dCL_law_617 : decode code 617 = .ok (.iconst 3, 1) := by decide +kernel
theorem dCL_law_618 : decode code 618 = .ok (.iadd, 1) := by decide +kernel
theorem dCL_law_619 : decode code 619 = .ok (.iaload, 1) := by decide +kernel
theorem dCL_law_620 : decode code 620 = .ok (.aload_n 0, 1) := by decide +kernel
theorem dCL_law_621 : decode code 621 = .ok (.iload_n 3, 1) := by decide +kernel
theorem dCL_law_622 : decode code 622 = .ok (.iconst 4, 1) := by decide +kernel
theorem dCL_law_623 : decode code 623 = .ok (.iadd, 1) := by decide +kernel
theorem dCL_law_624 : decode code 624 = .ok (.iaload, 1) := by decide +kernel
theorem dCL_law_625 : decode code 625 = .ok (.invokevirtual 71, 3) := by decide +kernel
theorem dCL_law_628 : decode code 628 = .ok (.if_icmp .eq 97, 3) := by decide +kernel
theorem dCL_law_633 : decode code 633 = .ok (.aload_n 1, 1) := by decide +kernel
theorem dCL_law_634 : decode code 634 = .ok (.invokevirtual 72, 3) := by decide +kernel
theorem dCL_law_637 : decode code 637 = .ok (.aload_n 2, 1) := by decide +kernel
theorem dCL_law_638 : decode code 638 = .ok (.invokevirtual 75, 3) := by decide +kernel
theorem dCL_law_641 : decode code 641 = .ok (.if_icmp .eq 84, 3) := by decide +kernel
theorem dCL_law_646 : decode code 646 = .ok (.aload_n 1, 1) := by decide +kernel
theorem dCL_law_647 : decode code 647 = .ok (.aload_n 0, 1) := by decide +kernel
theorem dCL_law_648 : decode code 648 = .ok (.iload_n 3, 1) := by decide +kernel
theorem dCL_law_649 : decode code 649 = .ok (.iconst 1, 1) := by decide +kernel
theorem dCL_law_650 : decode code 650 = .ok (.iadd, 1) := by decide +kernel
theorem dCL_law_651 : decode code 651 = .ok (.iaload, 1) := by decide +kernel
theorem dCL_law_652 : decode code 652 = .ok (.invokevirtual 76, 3) := by decide +kernel
theorem dCL_law_655 : decode code 655 = .ok (.aload_n 2, 1) := by decide +kernel
theorem dCL_law_656 : decode code 656 = .ok (.aload_n 0, 1) := by decide +kernel
theorem dCL_law_657 : decode code 657 = .ok (.iload_n 3, 1) := by decide +kernel
theorem dCL_law_658 : decode code 658 = .ok (.iconst 1, 1) := by decide +kernel
theorem dCL_law_659 : decode code 659 = .ok (.iadd, 1) := by decide +kernel
theorem dCL_law_660 : decode code 660 = .ok (.iaload, 1) := by decide +kernel
theorem dCL_law_661 : decode code 661 = .ok (.invokevirtual 79, 3) := by decide +kernel
theorem dCL_law_664 : decode code 664 = .ok (.if_icmp .eq 61, 3) := by decide +kernel
theorem dCL_law_669 : decode code 669 = .ok (.aload_n 1, 1) := by decide +kernel
theorem dCL_law_670 : decode code 670 = .ok (.aload_n 0, 1) := by decide +kernel
theorem dCL_law_671 : decode code 671 = .ok (.iload_n 3, 1) := by decide +kernel
theorem dCL_law_672 : decode code 672 = .ok (.iconst 1, 1) := by decide +kernel
theorem dCL_law_673 : decode code 673 = .ok (.iadd, 1) := by decide +kernel
theorem dCL_law_674 : decode code 674 = .ok (.iaload, 1) := by decide +kernel
theorem dCL_law_675 : decode code 675 = .ok (.aload_n 0, 1) := by decide +kernel
theorem dCL_law_676 : decode code 676 = .ok (.iload_n 3, 1) := by decide +kernel
theorem dCL_law_677 : decode code 677 = .ok (.iconst 2, 1) := by decide +kernel
theorem dCL_law_678 : decode code 678 = .ok (.iadd, 1) := by decide +kernel
theorem dCL_law_679 : decode code 679 = .ok (.iaload, 1) := by decide +kernel
theorem dCL_law_680 : decode code 680 = .ok (.invokevirtual 80, 3) := by decide +kernel
theorem dCL_law_683 : decode code 683 = .ok (.aload_n 2, 1) := by decide +kernel
theorem dCL_law_684 : decode code 684 = .ok (.aload_n 0, 1) := by decide +kernel
theorem dCL_law_685 : decode code 685 = .ok (.iload_n 3, 1) := by decide +kernel
theorem dCL_law_686 : decode code 686 = .ok (.iconst 1, 1) := by decide +kernel
theorem dCL_law_687 : decode code 687 = .ok (.iadd, 1) := by decide +kernel
theorem dCL_law_688 : decode code 688 = .ok (.iaload, 1) := by decide +kernel
theorem dCL_law_689 : decode code 689 = .ok (.aload_n 0, 1) := by decide +kernel
theorem dCL_law_690 : decode code 690 = .ok (.iload_n 3, 1) := by decide +kernel
theorem dCL_law_691 : decode code 691 = .ok (.iconst 2, 1) := by decide +kernel
theorem dCL_law_692 : decode code 692 = .ok (.iadd, 1) := by decide +kernel
theorem dCL_law_693 : decode code 693 = .ok (.iaload, 1) := by decide +kernel
theorem dCL_law_694 : decode code 694 = .ok (.invokevirtual 83, 3) := by decide +kernel
theorem dCL_law_697 : decode code 697 = .ok (.if_icmp .eq 28, 3) := by decide +kernel
theorem dCL_law_702 : decode code 702 = .ok (.aload_n 1, 1) := by decide +kernel
theorem dCL_law_703 : decode code 703 = .ok (.aload_n 0, 1) := by decide +kernel
theorem dCL_law_704 : decode code 704 = .ok (.iload_n 3, 1) := by decide +kernel
theorem dCL_law_705 : decode code 705 = .ok (.iconst 1, 1) := by decide +kernel
theorem dCL_law_706 : decode code 706 = .ok (.iadd, 1) := by decide +kernel
theorem dCL_law_707 : decode code 707 = .ok (.iaload, 1) := by decide +kernel
theorem dCL_law_708 : decode code 708 = .ok (.invokevirtual 84, 3) := by decide +kernel
theorem dCL_law_711 : decode code 711 = .ok (.aload_n 2, 1) := by decide +kernel
theorem dCL_law_712 : decode code 712 = .ok (.aload_n 0, 1) := by decide +kernel
theorem dCL_law_713 : decode code 713 = .ok (.iload_n 3, 1) := by decide +kernel
theorem dCL_law_714 : decode code 714 = .ok (.iconst 1, 1) := by decide +kernel
theorem dCL_law_715 : decode code 715 = .ok (.iadd, 1) := by decide +kernel
theorem dCL_law_716 : decode code 716 = .ok (.iaload, 1) := by decide +kernel
theorem dCL_law_717 : decode code 717 = .ok (.invokevirtual 87, 3) := by decide +kernel
theorem dCL_law_720 : decode code 720 = .ok (.if_icmp .eq 5, 3) := by decide +kernel
theorem dCL_law_725 : decode code 725 = .ok (.iinc 3 10, 3) := by decide +kernel
theorem dCL_law_728 : decode code 728 = .ok (.goto (-710), 3) := by decide +kernel
theorem dCL_law_731 : decode code 731 = .ok (.iconst 1, 1) := by decide +kernel
theorem dCL_law_732 : decode code 732 = .ok (.ireturn, 1) := by decide +kernel
