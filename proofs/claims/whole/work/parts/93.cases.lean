theorem dL_law_0 : decode cL_law 0 = .ok (.new 7, 3) := by decide +kernel
theorem dL_law_3 : decode cL_law 3 = .ok (.dup, 1) := by decide +kernel
theorem dL_law_4 : decode cL_law 4 = .ok (.invokespecial 9, 3) := by decide +kernel
theorem dL_law_7 : decode cL_law 7 = .ok (.astore_n 1, 1) := by decide +kernel
theorem dL_law_8 : decode cL_law 8 = .ok (.new 10, 3) := by decide +kernel
theorem dL_law_11 : decode cL_law 11 = .ok (.dup, 1) := by decide +kernel
theorem dL_law_12 : decode cL_law 12 = .ok (.invokespecial 12, 3) := by decide +kernel
theorem dL_law_15 : decode cL_law 15 = .ok (.astore_n 2, 1) := by decide +kernel
theorem dL_law_16 : decode cL_law 16 = .ok (.iconst 0, 1) := by decide +kernel
theorem dL_law_17 : decode cL_law 17 = .ok (.istore_n 3, 1) := by decide +kernel
theorem dL_law_18 : decode cL_law 18 = .ok (.iload_n 3, 1) := by decide +kernel
theorem dL_law_19 : decode cL_law 19 = .ok (.aload_n 0, 1) := by decide +kernel
theorem dL_law_20 : decode cL_law 20 = .ok (.arraylength, 1) := by decide +kernel
theorem dL_law_21 : decode cL_law 21 = .ok (.iconst 5, 1) := by decide +kernel
theorem dL_law_22 : decode cL_law 22 = .ok (.isub, 1) := by decide +kernel
theorem dL_law_23 : decode cL_law 23 = .ok (.if_icmp .gt 885, 3) := by decide +kernel
theorem dL_law_26 : decode cL_law 26 = .ok (.aload_n 0, 1) := by decide +kernel
theorem dL_law_27 : decode cL_law 27 = .ok (.iload_n 3, 1) := by decide +kernel
theorem dL_law_28 : decode cL_law 28 = .ok (.iaload, 1) := by decide +kernel
theorem dL_law_29 : decode cL_law 29 = .ok (.bipush 31, 2) := by decide +kernel
theorem dL_law_31 : decode cL_law 31 = .ok (.iand, 1) := by decide +kernel
theorem dL_law_32 : decode cL_law 32 = .ok (.tableswitch 870 0 21 #[104, 137, 180, 203, 256, 299, 352, 385, 408, 451, 484, 507, 540, 583, 636, 669, 722, 755, 768, 801, 824, 847], 104) := by decide +kernel
theorem dL_law_136 : decode cL_law 136 = .ok (.aload_n 1, 1) := by decide +kernel
theorem dL_law_137 : decode cL_law 137 = .ok (.aload_n 0, 1) := by decide +kernel
theorem dL_law_138 : decode cL_law 138 = .ok (.iload_n 3, 1) := by decide +kernel
theorem dL_law_139 : decode cL_law 139 = .ok (.iconst 1, 1) := by decide +kernel
theorem dL_law_140 : decode cL_law 140 = .ok (.iadd, 1) := by decide +kernel
theorem dL_law_141 : decode cL_law 141 = .ok (.iaload, 1) := by decide +kernel
theorem dL_law_142 : decode cL_law 142 = .ok (.aload_n 0, 1) := by decide +kernel
theorem dL_law_143 : decode cL_law 143 = .ok (.iload_n 3, 1) := by decide +kernel
theorem dL_law_144 : decode cL_law 144 = .ok (.iconst 2, 1) := by decide +kernel
theorem dL_law_145 : decode cL_law 145 = .ok (.iadd, 1) := by decide +kernel
theorem dL_law_146 : decode cL_law 146 = .ok (.iaload, 1) := by decide +kernel
theorem dL_law_147 : decode cL_law 147 = .ok (.invokevirtual 13, 3) := by decide +kernel
theorem dL_law_150 : decode cL_law 150 = .ok (.aload_n 2, 1) := by decide +kernel
theorem dL_law_151 : decode cL_law 151 = .ok (.aload_n 0, 1) := by decide +kernel
theorem dL_law_152 : decode cL_law 152 = .ok (.iload_n 3, 1) := by decide +kernel
theorem dL_law_153 : decode cL_law 153 = .ok (.iconst 1, 1) := by decide +kernel
theorem dL_law_154 : decode cL_law 154 = .ok (.iadd, 1) := by decide +kernel
theorem dL_law_155 : decode cL_law 155 = .ok (.iaload, 1) := by decide +kernel
theorem dL_law_156 : decode cL_law 156 = .ok (.aload_n 0, 1) := by decide +kernel
theorem dL_law_157 : decode cL_law 157 = .ok (.iload_n 3, 1) := by decide +kernel
theorem dL_law_158 : decode cL_law 158 = .ok (.iconst 2, 1) := by decide +kernel
theorem dL_law_159 : decode cL_law 159 = .ok (.iadd, 1) := by decide +kernel
theorem dL_law_160 : decode cL_law 160 = .ok (.iaload, 1) := by decide +kernel
theorem dL_law_161 : decode cL_law 161 = .ok (.invokevirtual 17, 3) := by decide +kernel
theorem dL_law_164 : decode cL_law 164 = .ok (.if_icmp .eq 738, 3) := by decide +kernel
theorem dL_law_167 : decode cL_law 167 = .ok (.iconst 0, 1) := by decide +kernel
theorem dL_law_168 : decode cL_law 168 = .ok (.ireturn, 1) := by decide +kernel
theorem dL_law_169 : decode cL_law 169 = .ok (.aload_n 1, 1) := by decide +kernel
theorem dL_law_170 : decode cL_law 170 = .ok (.aload_n 0, 1) := by decide +kernel
theorem dL_law_171 : decode cL_law 171 = .ok (.iload_n 3, 1) := by decide +kernel
theorem dL_law_172 : decode cL_law 172 = .ok (.iconst 1, 1) := by decide +kernel
theorem dL_law_173 : decode cL_law 173 = .ok (.iadd, 1) := by decide +kernel
theorem dL_law_174 : decode cL_law 174 = .ok (.iaload, 1) := by decide +kernel
theorem dL_law_175 : decode cL_law 175 = .ok (.aload_n 0, 1) := by decide +kernel
theorem dL_law_176 : decode cL_law 176 = .ok (.iload_n 3, 1) := by decide +kernel
theorem dL_law_177 : decode cL_law 177 = .ok (.iconst 2, 1) := by decide +kernel
theorem dL_law_178 : decode cL_law 178 = .ok (.iadd, 1) := by decide +kernel
theorem dL_law_179 : decode cL_law 179 = .ok (.iaload, 1) := by decide +kernel
theorem dL_law_180 : decode cL_law 180 = .ok (.aload_n 0, 1) := by decide +kernel
theorem dL_law_181 : decode cL_law 181 = .ok (.iload_n 3, 1) := by decide +kernel
theorem dL_law_182 : decode cL_law 182 = .ok (.iconst 3, 1) := by decide +kernel
theorem dL_law_183 : decode cL_law 183 = .ok (.iadd, 1) := by decide +kernel
theorem dL_law_184 : decode cL_law 184 = .ok (.iaload, 1) := by decide +kernel
theorem dL_law_185 : decode cL_law 185 = .ok (.invokevirtual 18, 3) := by decide +kernel
theorem dL_law_188 : decode cL_law 188 = .ok (.aload_n 2, 1) := by decide +kernel
theorem dL_law_189 : decode cL_law 189 = .ok (.aload_n 0, 1) := by decide +kernel
theorem dL_law_190 : decode cL_law 190 = .ok (.iload_n 3, 1) := by decide +kernel
theorem dL_law_191 : decode cL_law 191 = .ok (.iconst 1, 1) := by decide +kernel
theorem dL_law_192 : decode cL_law 192 = .ok (.iadd, 1) := by decide +kernel
theorem dL_law_193 : decode cL_law 193 = .ok (.iaload, 1) := by decide +kernel
theorem dL_law_194 : decode cL_law 194 = .ok (.aload_n 0, 1) := by decide +kernel
theorem dL_law_195 : decode cL_law 195 = .ok (.iload_n 3, 1) := by decide +kernel
theorem dL_law_196 : decode cL_law 196 = .ok (.iconst 2, 1) := by decide +kernel
theorem dL_law_197 : decode cL_law 197 = .ok (.iadd, 1) := by decide +kernel
theorem dL_law_198 : decode cL_law 198 = .ok (.iaload, 1) := by decide +kernel
theorem dL_law_199 : decode cL_law 199 = .ok (.aload_n 0, 1) := by decide +kernel
theorem dL_law_200 : decode cL_law 200 = .ok (.iload_n 3, 1) := by decide +kernel
theorem dL_law_201 : decode cL_law 201 = .ok (.iconst 3, 1) := by decide +kernel
theorem dL_law_202 : decode cL_law 202 = .ok (.iadd, 1) := by decide +kernel
theorem dL_law_203 : decode cL_law 203 = .ok (.iaload, 1) := by decide +kernel
theorem dL_law_204 : decode cL_law 204 = .ok (.invokevirtual 22, 3) := by decide +kernel
theorem dL_law_207 : decode cL_law 207 = .ok (.if_icmp .eq 695, 3) := by decide +kernel
theorem dL_law_210 : decode cL_law 210 = .ok (.iconst 0, 1) := by decide +kernel
theorem dL_law_211 : decode cL_law 211 = .ok (.ireturn, 1) := by decide +kernel
theorem dL_law_212 : decode cL_law 212 = .ok (.aload_n 1, 1) := by decide +kernel
theorem dL_law_213 : decode cL_law 213 = .ok (.aload_n 0, 1) := by decide +kernel
theorem dL_law_214 : decode cL_law 214 = .ok (.iload_n 3, 1) := by decide +kernel
theorem dL_law_215 : decode cL_law 215 = .ok (.iconst 1, 1) := by decide +kernel
theorem dL_law_216 : decode cL_law 216 = .ok (.iadd, 1) := by decide +kernel
theorem dL_law_217 : decode cL_law 217 = .ok (.iaload, 1) := by decide +kernel
theorem dL_law_218 : decode cL_law 218 = .ok (.invokevirtual 23, 3) := by decide +kernel
theorem dL_law_221 : decode cL_law 221 = .ok (.aload_n 2, 1) := by decide +kernel
theorem dL_law_222 : decode cL_law 222 = .ok (.aload_n 0, 1) := by decide +kernel
theorem dL_law_223 : decode cL_law 223 = .ok (.iload_n 3, 1) := by decide +kernel
theorem dL_law_224 : decode cL_law 224 = .ok (.iconst 1, 1) := by decide +kernel
theorem dL_law_225 : decode cL_law 225 = .ok (.iadd, 1) := by decide +kernel
theorem dL_law_226 : decode cL_law 226 = .ok (.iaload, 1) := by decide +kernel
theorem dL_law_227 : decode cL_law 227 = .ok (.invokevirtual 27, 3) := by decide +kernel
theorem dL_law_230 : decode cL_law 230 = .ok (.if_icmp .eq 672, 3) := by decide +kernel
theorem dL_law_233 : decode cL_law 233 = .ok (.iconst 0, 1) := by decide +kernel
theorem dL_law_234 : decode cL_law 234 = .ok (.ireturn, 1) := by decide +kernel
theorem dL_law_235 : decode cL_law 235 = .ok (.aload_n 1, 1) := by decide +kernel
theorem dL_law_236 : decode cL_law 236 = .ok (.aload_n 0, 1) := by decide +kernel
theorem dL_law_237 : decode cL_law 237 = .ok (.iload_n 3, 1) := by decide +kernel
theorem dL_law_238 : decode cL_law 238 = .ok (.iconst 1, 1) := by decide +kernel
theorem dL_law_239 : decode cL_law 239 = .ok (.iadd, 1) := by decide +kernel
theorem dL_law_240 : decode cL_law 240 = .ok (.iaload, 1) := by decide +kernel
theorem dL_law_241 : decode cL_law 241 = .ok (.aload_n 0, 1) := by decide +kernel
theorem dL_law_242 : decode cL_law 242 = .ok (.iload_n 3, 1) := by decide +kernel
theorem dL_law_243 : decode cL_law 243 = .ok (.iconst 2, 1) := by decide +kernel
theorem dL_law_244 : decode cL_law 244 = .ok (.iadd, 1) := by decide +kernel
theorem dL_law_245 : decode cL_law 245 = .ok (.iaload, 1) := by decide +kernel
theorem dL_law_246 : decode cL_law 246 = .ok (.aload_n 0, 1) := by decide +kernel
theorem dL_law_247 : decode cL_law 247 = .ok (.iload_n 3, 1) := by decide +kernel
theorem dL_law_248 : decode cL_law 248 = .ok (.iconst 3, 1) := by decide +kernel
theorem dL_law_249 : decode cL_law 249 = .ok (.iadd, 1) := by decide +kernel
theorem dL_law_250 : decode cL_law 250 = .ok (.iaload, 1) := by decide +kernel
theorem dL_law_251 : decode cL_law 251 = .ok (.aload_n 0, 1) := by decide +kernel
theorem dL_law_252 : decode cL_law 252 = .ok (.iload_n 3, 1) := by decide +kernel
theorem dL_law_253 : decode cL_law 253 = .ok (.iconst 4, 1) := by decide +kernel
theorem dL_law_254 : decode cL_law 254 = .ok (.iadd, 1) := by decide +kernel
theorem dL_law_255 : decode cL_law 255 = .ok (.iaload, 1) := by decide +kernel
theorem dL_law_256 : decode cL_law 256 = .ok (.invokevirtual 28, 3) := by decide +kernel
theorem dL_law_259 : decode cL_law 259 = .ok (.aload_n 2, 1) := by decide +kernel
theorem dL_law_260 : decode cL_law 260 = .ok (.aload_n 0, 1) := by decide +kernel
theorem dL_law_261 : decode cL_law 261 = .ok (.iload_n 3, 1) := by decide +kernel
theorem dL_law_262 : decode cL_law 262 = .ok (.iconst 1, 1) := by decide +kernel
theorem dL_law_263 : decode cL_law 263 = .ok (.iadd, 1) := by decide +kernel
theorem dL_law_264 : decode cL_law 264 = .ok (.iaload, 1) := by decide +kernel
theorem dL_law_265 : decode cL_law 265 = .ok (.aload_n 0, 1) := by decide +kernel
theorem dL_law_266 : decode cL_law 266 = .ok (.iload_n 3, 1) := by decide +kernel
theorem dL_law_267 : decode cL_law 267 = .ok (.iconst 2, 1) := by decide +kernel
theorem dL_law_268 : decode cL_law 268 = .ok (.iadd, 1) := by decide +kernel
theorem dL_law_269 : decode cL_law 269 = .ok (.iaload, 1) := by decide +kernel
theorem dL_law_270 : decode cL_law 270 = .ok (.aload_n 0, 1) := by decide +kernel
theorem dL_law_271 : decode cL_law 271 = .ok (.iload_n 3, 1) := by decide +kernel
theorem dL_law_272 : decode cL_law 272 = .ok (.iconst 3, 1) := by decide +kernel
theorem dL_law_273 : decode cL_law 273 = .ok (.iadd, 1) := by decide +kernel
theorem dL_law_274 : decode cL_law 274 = .ok (.iaload, 1) := by decide +kernel
theorem dL_law_275 : decode cL_law 275 = .ok (.aload_n 0, 1) := by decide +kernel
theorem dL_law_276 : decode cL_law 276 = .ok (.iload_n 3, 1) := by decide +kernel
theorem dL_law_277 : decode cL_law 277 = .ok (.iconst 4, 1) := by decide +kernel
theorem dL_law_278 : decode cL_law 278 = .ok (.iadd, 1) := by decide +kernel
theorem dL_law_279 : decode cL_law 279 = .ok (.iaload, 1) := by decide +kernel
theorem dL_law_280 : decode cL_law 280 = .ok (.invokevirtual 32, 3) := by decide +kernel
theorem dL_law_283 : decode cL_law 283 = .ok (.if_icmp .eq 619, 3) := by decide +kernel
theorem dL_law_286 : decode cL_law 286 = .ok (.iconst 0, 1) := by decide +kernel
theorem dL_law_287 : decode cL_law 287 = .ok (.ireturn, 1) := by decide +kernel
theorem dL_law_288 : decode cL_law 288 = .ok (.aload_n 1, 1) := by decide +kernel
theorem dL_law_289 : decode cL_law 289 = .ok (.aload_n 0, 1) := by decide +kernel
theorem dL_law_290 : decode cL_law 290 = .ok (.iload_n 3, 1) := by decide +kernel
theorem dL_law_291 : decode cL_law 291 = .ok (.iconst 1, 1) := by decide +kernel
theorem dL_law_292 : decode cL_law 292 = .ok (.iadd, 1) := by decide +kernel
theorem dL_law_293 : decode cL_law 293 = .ok (.iaload, 1) := by decide +kernel
theorem dL_law_294 : decode cL_law 294 = .ok (.aload_n 0, 1) := by decide +kernel
theorem dL_law_295 : decode cL_law 295 = .ok (.iload_n 3, 1) := by decide +kernel
theorem dL_law_296 : decode cL_law 296 = .ok (.iconst 2, 1) := by decide +kernel
theorem dL_law_297 : decode cL_law 297 = .ok (.iadd, 1) := by decide +kernel
theorem dL_law_298 : decode cL_law 298 = .ok (.iaload, 1) := by decide +kernel
theorem dL_law_299 : decode cL_law 299 = .ok (.aload_n 0, 1) := by decide +kernel
theorem dL_law_300 : decode cL_law 300 = .ok (.iload_n 3, 1) := by decide +kernel
theorem dL_law_301 : decode cL_law 301 = .ok (.iconst 3, 1) := by decide +kernel
theorem dL_law_302 : decode cL_law 302 = .ok (.iadd, 1) := by decide +kernel
theorem dL_law_303 : decode cL_law 303 = .ok (.iaload, 1) := by decide +kernel
theorem dL_law_304 : decode cL_law 304 = .ok (.invokevirtual 33, 3) := by decide +kernel
theorem dL_law_307 : decode cL_law 307 = .ok (.aload_n 2, 1) := by decide +kernel
theorem dL_law_308 : decode cL_law 308 = .ok (.aload_n 0, 1) := by decide +kernel
theorem dL_law_309 : decode cL_law 309 = .ok (.iload_n 3, 1) := by decide +kernel
theorem dL_law_310 : decode cL_law 310 = .ok (.iconst 1, 1) := by decide +kernel
theorem dL_law_311 : decode cL_law 311 = .ok (.iadd, 1) := by decide +kernel
theorem dL_law_312 : decode cL_law 312 = .ok (.iaload, 1) := by decide +kernel
theorem dL_law_313 : decode cL_law 313 = .ok (.aload_n 0, 1) := by decide +kernel
theorem dL_law_314 : decode cL_law 314 = .ok (.iload_n 3, 1) := by decide +kernel
theorem dL_law_315 : decode cL_law 315 = .ok (.iconst 2, 1) := by decide +kernel
theorem dL_law_316 : decode cL_law 316 = .ok (.iadd, 1) := by decide +kernel
theorem dL_law_317 : decode cL_law 317 = .ok (.iaload, 1) := by decide +kernel
theorem dL_law_318 : decode cL_law 318 = .ok (.aload_n 0, 1) := by decide +kernel
theorem dL_law_319 : decode cL_law 319 = .ok (.iload_n 3, 1) := by decide +kernel
theorem dL_law_320 : decode cL_law 320 = .ok (.iconst 3, 1) := by decide +kernel
theorem dL_law_321 : decode cL_law 321 = .ok (.iadd, 1) := by decide +kernel
theorem dL_law_322 : decode cL_law 322 = .ok (.iaload, 1) := by decide +kernel
theorem dL_law_323 : decode cL_law 323 = .ok (.invokevirtual 36, 3) := by decide +kernel
theorem dL_law_326 : decode cL_law 326 = .ok (.if_icmp .eq 576, 3) := by decide +kernel
theorem dL_law_329 : decode cL_law 329 = .ok (.iconst 0, 1) := by decide +kernel
theorem dL_law_330 : decode cL_law 330 = .ok (.ireturn, 1) := by decide +kernel
theorem dL_law_331 : decode cL_law 331 = .ok (.aload_n 1, 1) := by decide +kernel
theorem dL_law_332 : decode cL_law 332 = .ok (.aload_n 0, 1) := by decide +kernel
theorem dL_law_333 : decode cL_law 333 = .ok (.iload_n 3, 1) := by decide +kernel
theorem dL_law_334 : decode cL_law 334 = .ok (.iconst 1, 1) := by decide +kernel
theorem dL_law_335 : decode cL_law 335 = .ok (.iadd, 1) := by decide +kernel
theorem dL_law_336 : decode cL_law 336 = .ok (.iaload, 1) := by decide +kernel
theorem dL_law_337 : decode cL_law 337 = .ok (.aload_n 0, 1) := by decide +kernel
theorem dL_law_338 : decode cL_law 338 = .ok (.iload_n 3, 1) := by decide +kernel
theorem dL_law_339 : decode cL_law 339 = .ok (.iconst 2, 1) := by decide +kernel
theorem dL_law_340 : decode cL_law 340 = .ok (.iadd, 1) := by decide +kernel
theorem dL_law_341 : decode cL_law 341 = .ok (.iaload, 1) := by decide +kernel
theorem dL_law_342 : decode cL_law 342 = .ok (.aload_n 0, 1) := by decide +kernel
theorem dL_law_343 : decode cL_law 343 = .ok (.iload_n 3, 1) := by decide +kernel
theorem dL_law_344 : decode cL_law 344 = .ok (.iconst 3, 1) := by decide +kernel
theorem dL_law_345 : decode cL_law 345 = .ok (.iadd, 1) := by decide +kernel
theorem dL_law_346 : decode cL_law 346 = .ok (.iaload, 1) := by decide +kernel
theorem dL_law_347 : decode cL_law 347 = .ok (.aload_n 0, 1) := by decide +kernel
theorem dL_law_348 : decode cL_law 348 = .ok (.iload_n 3, 1) := by decide +kernel
theorem dL_law_349 : decode cL_law 349 = .ok (.iconst 4, 1) := by decide +kernel
theorem dL_law_350 : decode cL_law 350 = .ok (.iadd, 1) := by decide +kernel
theorem dL_law_351 : decode cL_law 351 = .ok (.iaload, 1) := by decide +kernel
theorem dL_law_352 : decode cL_law 352 = .ok (.invokevirtual 37, 3) := by decide +kernel
theorem dL_law_355 : decode cL_law 355 = .ok (.aload_n 2, 1) := by decide +kernel
theorem dL_law_356 : decode cL_law 356 = .ok (.aload_n 0, 1) := by decide +kernel
theorem dL_law_357 : decode cL_law 357 = .ok (.iload_n 3, 1) := by decide +kernel
theorem dL_law_358 : decode cL_law 358 = .ok (.iconst 1, 1) := by decide +kernel
theorem dL_law_359 : decode cL_law 359 = .ok (.iadd, 1) := by decide +kernel
theorem dL_law_360 : decode cL_law 360 = .ok (.iaload, 1) := by decide +kernel
theorem dL_law_361 : decode cL_law 361 = .ok (.aload_n 0, 1) := by decide +kernel
theorem dL_law_362 : decode cL_law 362 = .ok (.iload_n 3, 1) := by decide +kernel
theorem dL_law_363 : decode cL_law 363 = .ok (.iconst 2, 1) := by decide +kernel
theorem dL_law_364 : decode cL_law 364 = .ok (.iadd, 1) := by decide +kernel
theorem dL_law_365 : decode cL_law 365 = .ok (.iaload, 1) := by decide +kernel
theorem dL_law_366 : decode cL_law 366 = .ok (.aload_n 0, 1) := by decide +kernel
theorem dL_law_367 : decode cL_law 367 = .ok (.iload_n 3, 1) := by decide +kernel
theorem dL_law_368 : decode cL_law 368 = .ok (.iconst 3, 1) := by decide +kernel
theorem dL_law_369 : decode cL_law 369 = .ok (.iadd, 1) := by decide +kernel
theorem dL_law_370 : decode cL_law 370 = .ok (.iaload, 1) := by decide +kernel
theorem dL_law_371 : decode cL_law 371 = .ok (.aload_n 0, 1) := by decide +kernel
theorem dL_law_372 : decode cL_law 372 = .ok (.iload_n 3, 1) := by decide +kernel
theorem dL_law_373 : decode cL_law 373 = .ok (.iconst 4, 1) := by decide +kernel
theorem dL_law_374 : decode cL_law 374 = .ok (.iadd, 1) := by decide +kernel
theorem dL_law_375 : decode cL_law 375 = .ok (.iaload, 1) := by decide +kernel
theorem dL_law_376 : decode cL_law 376 = .ok (.invokevirtual 40, 3) := by decide +kernel
theorem dL_law_379 : decode cL_law 379 = .ok (.if_icmp .eq 523, 3) := by decide +kernel
theorem dL_law_382 : decode cL_law 382 = .ok (.iconst 0, 1) := by decide +kernel
theorem dL_law_383 : decode cL_law 383 = .ok (.ireturn, 1) := by decide +kernel
theorem dL_law_384 : decode cL_law 384 = .ok (.aload_n 1, 1) := by decide +kernel
theorem dL_law_385 : decode cL_law 385 = .ok (.aload_n 0, 1) := by decide +kernel
theorem dL_law_386 : decode cL_law 386 = .ok (.iload_n 3, 1) := by decide +kernel
theorem dL_law_387 : decode cL_law 387 = .ok (.iconst 1, 1) := by decide +kernel
theorem dL_law_388 : decode cL_law 388 = .ok (.iadd, 1) := by decide +kernel
theorem dL_law_389 : decode cL_law 389 = .ok (.iaload, 1) := by decide +kernel
theorem dL_law_390 : decode cL_law 390 = .ok (.aload_n 0, 1) := by decide +kernel
theorem dL_law_391 : decode cL_law 391 = .ok (.iload_n 3, 1) := by decide +kernel
theorem dL_law_392 : decode cL_law 392 = .ok (.iconst 2, 1) := by decide +kernel
theorem dL_law_393 : decode cL_law 393 = .ok (.iadd, 1) := by decide +kernel
theorem dL_law_394 : decode cL_law 394 = .ok (.iaload, 1) := by decide +kernel
theorem dL_law_395 : decode cL_law 395 = .ok (.invokevirtual 41, 3) := by decide +kernel
theorem dL_law_398 : decode cL_law 398 = .ok (.aload_n 2, 1) := by decide +kernel
theorem dL_law_399 : decode cL_law 399 = .ok (.aload_n 0, 1) := by decide +kernel
theorem dL_law_400 : decode cL_law 400 = .ok (.iload_n 3, 1) := by decide +kernel
theorem dL_law_401 : decode cL_law 401 = .ok (.iconst 1, 1) := by decide +kernel
theorem dL_law_402 : decode cL_law 402 = .ok (.iadd, 1) := by decide +kernel
theorem dL_law_403 : decode cL_law 403 = .ok (.iaload, 1) := by decide +kernel
theorem dL_law_404 : decode cL_law 404 = .ok (.aload_n 0, 1) := by decide +kernel
theorem dL_law_405 : decode cL_law 405 = .ok (.iload_n 3, 1) := by decide +kernel
theorem dL_law_406 : decode cL_law 406 = .ok (.iconst 2, 1) := by decide +kernel
theorem dL_law_407 : decode cL_law 407 = .ok (.iadd, 1) := by decide +kernel
theorem dL_law_408 : decode cL_law 408 = .ok (.iaload, 1) := by decide +kernel
theorem dL_law_409 : decode cL_law 409 = .ok (.invokevirtual 44, 3) := by decide +kernel
theorem dL_law_412 : decode cL_law 412 = .ok (.if_icmp .eq 490, 3) := by decide +kernel
theorem dL_law_415 : decode cL_law 415 = .ok (.iconst 0, 1) := by decide +kernel
theorem dL_law_416 : decode cL_law 416 = .ok (.ireturn, 1) := by decide +kernel
theorem dL_law_417 : decode cL_law 417 = .ok (.aload_n 1, 1) := by decide +kernel
theorem dL_law_418 : decode cL_law 418 = .ok (.aload_n 0, 1) := by decide +kernel
theorem dL_law_419 : decode cL_law 419 = .ok (.iload_n 3, 1) := by decide +kernel
theorem dL_law_420 : decode cL_law 420 = .ok (.iconst 1, 1) := by decide +kernel
theorem dL_law_421 : decode cL_law 421 = .ok (.iadd, 1) := by decide +kernel
theorem dL_law_422 : decode cL_law 422 = .ok (.iaload, 1) := by decide +kernel
theorem dL_law_423 : decode cL_law 423 = .ok (.invokevirtual 45, 3) := by decide +kernel
theorem dL_law_426 : decode cL_law 426 = .ok (.aload_n 2, 1) := by decide +kernel
theorem dL_law_427 : decode cL_law 427 = .ok (.aload_n 0, 1) := by decide +kernel
theorem dL_law_428 : decode cL_law 428 = .ok (.iload_n 3, 1) := by decide +kernel
theorem dL_law_429 : decode cL_law 429 = .ok (.iconst 1, 1) := by decide +kernel
theorem dL_law_430 : decode cL_law 430 = .ok (.iadd, 1) := by decide +kernel
theorem dL_law_431 : decode cL_law 431 = .ok (.iaload, 1) := by decide +kernel
theorem dL_law_432 : decode cL_law 432 = .ok (.invokevirtual 48, 3) := by decide +kernel
theorem dL_law_435 : decode cL_law 435 = .ok (.if_icmp .eq 467, 3) := by decide +kernel
theorem dL_law_438 : decode cL_law 438 = .ok (.iconst 0, 1) := by decide +kernel
theorem dL_law_439 : decode cL_law 439 = .ok (.ireturn, 1) := by decide +kernel
theorem dL_law_440 : decode cL_law 440 = .ok (.aload_n 1, 1) := by decide +kernel
theorem dL_law_441 : decode cL_law 441 = .ok (.aload_n 0, 1) := by decide +kernel
theorem dL_law_442 : decode cL_law 442 = .ok (.iload_n 3, 1) := by decide +kernel
theorem dL_law_443 : decode cL_law 443 = .ok (.iconst 1, 1) := by decide +kernel
theorem dL_law_444 : decode cL_law 444 = .ok (.iadd, 1) := by decide +kernel
theorem dL_law_445 : decode cL_law 445 = .ok (.iaload, 1) := by decide +kernel
theorem dL_law_446 : decode cL_law 446 = .ok (.aload_n 0, 1) := by decide +kernel
theorem dL_law_447 : decode cL_law 447 = .ok (.iload_n 3, 1) := by decide +kernel
theorem dL_law_448 : decode cL_law 448 = .ok (.iconst 2, 1) := by decide +kernel
theorem dL_law_449 : decode cL_law 449 = .ok (.iadd, 1) := by decide +kernel
theorem dL_law_450 : decode cL_law 450 = .ok (.iaload, 1) := by decide +kernel
theorem dL_law_451 : decode cL_law 451 = .ok (.aload_n 0, 1) := by decide +kernel
theorem dL_law_452 : decode cL_law 452 = .ok (.iload_n 3, 1) := by decide +kernel
theorem dL_law_453 : decode cL_law 453 = .ok (.iconst 3, 1) := by decide +kernel
theorem dL_law_454 : decode cL_law 454 = .ok (.iadd, 1) := by decide +kernel
theorem dL_law_455 : decode cL_law 455 = .ok (.iaload, 1) := by decide +kernel
theorem dL_law_456 : decode cL_law 456 = .ok (.invokevirtual 49, 3) := by decide +kernel
theorem dL_law_459 : decode cL_law 459 = .ok (.aload_n 2, 1) := by decide +kernel
theorem dL_law_460 : decode cL_law 460 = .ok (.aload_n 0, 1) := by decide +kernel
theorem dL_law_461 : decode cL_law 461 = .ok (.iload_n 3, 1) := by decide +kernel
theorem dL_law_462 : decode cL_law 462 = .ok (.iconst 1, 1) := by decide +kernel
theorem dL_law_463 : decode cL_law 463 = .ok (.iadd, 1) := by decide +kernel
theorem dL_law_464 : decode cL_law 464 = .ok (.iaload, 1) := by decide +kernel
theorem dL_law_465 : decode cL_law 465 = .ok (.aload_n 0, 1) := by decide +kernel
theorem dL_law_466 : decode cL_law 466 = .ok (.iload_n 3, 1) := by decide +kernel
theorem dL_law_467 : decode cL_law 467 = .ok (.iconst 2, 1) := by decide +kernel
theorem dL_law_468 : decode cL_law 468 = .ok (.iadd, 1) := by decide +kernel
theorem dL_law_469 : decode cL_law 469 = .ok (.iaload, 1) := by decide +kernel
theorem dL_law_470 : decode cL_law 470 = .ok (.aload_n 0, 1) := by decide +kernel
theorem dL_law_471 : decode cL_law 471 = .ok (.iload_n 3, 1) := by decide +kernel
theorem dL_law_472 : decode cL_law 472 = .ok (.iconst 3, 1) := by decide +kernel
theorem dL_law_473 : decode cL_law 473 = .ok (.iadd, 1) := by decide +kernel
theorem dL_law_474 : decode cL_law 474 = .ok (.iaload, 1) := by decide +kernel
theorem dL_law_475 : decode cL_law 475 = .ok (.invokevirtual 52, 3) := by decide +kernel
theorem dL_law_478 : decode cL_law 478 = .ok (.if_icmp .eq 424, 3) := by decide +kernel
theorem dL_law_481 : decode cL_law 481 = .ok (.iconst 0, 1) := by decide +kernel
theorem dL_law_482 : decode cL_law 482 = .ok (.ireturn, 1) := by decide +kernel
theorem dL_law_483 : decode cL_law 483 = .ok (.aload_n 1, 1) := by decide +kernel
theorem dL_law_484 : decode cL_law 484 = .ok (.aload_n 0, 1) := by decide +kernel
theorem dL_law_485 : decode cL_law 485 = .ok (.iload_n 3, 1) := by decide +kernel
theorem dL_law_486 : decode cL_law 486 = .ok (.iconst 1, 1) := by decide +kernel
theorem dL_law_487 : decode cL_law 487 = .ok (.iadd, 1) := by decide +kernel
theorem dL_law_488 : decode cL_law 488 = .ok (.iaload, 1) := by decide +kernel
theorem dL_law_489 : decode cL_law 489 = .ok (.aload_n 0, 1) := by decide +kernel
theorem dL_law_490 : decode cL_law 490 = .ok (.iload_n 3, 1) := by decide +kernel
theorem dL_law_491 : decode cL_law 491 = .ok (.iconst 2, 1) := by decide +kernel
theorem dL_law_492 : decode cL_law 492 = .ok (.iadd, 1) := by decide +kernel
theorem dL_law_493 : decode cL_law 493 = .ok (.iaload, 1) := by decide +kernel
theorem dL_law_494 : decode cL_law 494 = .ok (.invokevirtual 53, 3) := by decide +kernel
theorem dL_law_497 : decode cL_law 497 = .ok (.aload_n 2, 1) := by decide +kernel
theorem dL_law_498 : decode cL_law 498 = .ok (.aload_n 0, 1) := by decide +kernel
theorem dL_law_499 : decode cL_law 499 = .ok (.iload_n 3, 1) := by decide +kernel
theorem dL_law_500 : decode cL_law 500 = .ok (.iconst 1, 1) := by decide +kernel
theorem dL_law_501 : decode cL_law 501 = .ok (.iadd, 1) := by decide +kernel
theorem dL_law_502 : decode cL_law 502 = .ok (.iaload, 1) := by decide +kernel
theorem dL_law_503 : decode cL_law 503 = .ok (.aload_n 0, 1) := by decide +kernel
theorem dL_law_504 : decode cL_law 504 = .ok (.iload_n 3, 1) := by decide +kernel
theorem dL_law_505 : decode cL_law 505 = .ok (.iconst 2, 1) := by decide +kernel
theorem dL_law_506 : decode cL_law 506 = .ok (.iadd, 1) := by decide +kernel
theorem dL_law_507 : decode cL_law 507 = .ok (.iaload, 1) := by decide +kernel
theorem dL_law_508 : decode cL_law 508 = .ok (.invokevirtual 56, 3) := by decide +kernel
theorem dL_law_511 : decode cL_law 511 = .ok (.if_icmp .eq 391, 3) := by decide +kernel
theorem dL_law_514 : decode cL_law 514 = .ok (.iconst 0, 1) := by decide +kernel
theorem dL_law_515 : decode cL_law 515 = .ok (.ireturn, 1) := by decide +kernel
theorem dL_law_516 : decode cL_law 516 = .ok (.aload_n 1, 1) := by decide +kernel
theorem dL_law_517 : decode cL_law 517 = .ok (.aload_n 0, 1) := by decide +kernel
theorem dL_law_518 : decode cL_law 518 = .ok (.iload_n 3, 1) := by decide +kernel
theorem dL_law_519 : decode cL_law 519 = .ok (.iconst 1, 1) := by decide +kernel
theorem dL_law_520 : decode cL_law 520 = .ok (.iadd, 1) := by decide +kernel
theorem dL_law_521 : decode cL_law 521 = .ok (.iaload, 1) := by decide +kernel
theorem dL_law_522 : decode cL_law 522 = .ok (.invokevirtual 57, 3) := by decide +kernel
theorem dL_law_525 : decode cL_law 525 = .ok (.aload_n 2, 1) := by decide +kernel
theorem dL_law_526 : decode cL_law 526 = .ok (.aload_n 0, 1) := by decide +kernel
theorem dL_law_527 : decode cL_law 527 = .ok (.iload_n 3, 1) := by decide +kernel
theorem dL_law_528 : decode cL_law 528 = .ok (.iconst 1, 1) := by decide +kernel
theorem dL_law_529 : decode cL_law 529 = .ok (.iadd, 1) := by decide +kernel
theorem dL_law_530 : decode cL_law 530 = .ok (.iaload, 1) := by decide +kernel
theorem dL_law_531 : decode cL_law 531 = .ok (.invokevirtual 60, 3) := by decide +kernel
theorem dL_law_534 : decode cL_law 534 = .ok (.if_icmp .eq 368, 3) := by decide +kernel
theorem dL_law_537 : decode cL_law 537 = .ok (.iconst 0, 1) := by decide +kernel
theorem dL_law_538 : decode cL_law 538 = .ok (.ireturn, 1) := by decide +kernel
theorem dL_law_539 : decode cL_law 539 = .ok (.aload_n 1, 1) := by decide +kernel
theorem dL_law_540 : decode cL_law 540 = .ok (.aload_n 0, 1) := by decide +kernel
theorem dL_law_541 : decode cL_law 541 = .ok (.iload_n 3, 1) := by decide +kernel
theorem dL_law_542 : decode cL_law 542 = .ok (.iconst 1, 1) := by decide +kernel
theorem dL_law_543 : decode cL_law 543 = .ok (.iadd, 1) := by decide +kernel
theorem dL_law_544 : decode cL_law 544 = .ok (.iaload, 1) := by decide +kernel
theorem dL_law_545 : decode cL_law 545 = .ok (.aload_n 0, 1) := by decide +kernel
theorem dL_law_546 : decode cL_law 546 = .ok (.iload_n 3, 1) := by decide +kernel
theorem dL_law_547 : decode cL_law 547 = .ok (.iconst 2, 1) := by decide +kernel
theorem dL_law_548 : decode cL_law 548 = .ok (.iadd, 1) := by decide +kernel
theorem dL_law_549 : decode cL_law 549 = .ok (.iaload, 1) := by decide +kernel
theorem dL_law_550 : decode cL_law 550 = .ok (.invokevirtual 61, 3) := by decide +kernel
theorem dL_law_553 : decode cL_law 553 = .ok (.aload_n 2, 1) := by decide +kernel
theorem dL_law_554 : decode cL_law 554 = .ok (.aload_n 0, 1) := by decide +kernel
theorem dL_law_555 : decode cL_law 555 = .ok (.iload_n 3, 1) := by decide +kernel
theorem dL_law_556 : decode cL_law 556 = .ok (.iconst 1, 1) := by decide +kernel
theorem dL_law_557 : decode cL_law 557 = .ok (.iadd, 1) := by decide +kernel
theorem dL_law_558 : decode cL_law 558 = .ok (.iaload, 1) := by decide +kernel
theorem dL_law_559 : decode cL_law 559 = .ok (.aload_n 0, 1) := by decide +kernel
theorem dL_law_560 : decode cL_law 560 = .ok (.iload_n 3, 1) := by decide +kernel
theorem dL_law_561 : decode cL_law 561 = .ok (.iconst 2, 1) := by decide +kernel
theorem dL_law_562 : decode cL_law 562 = .ok (.iadd, 1) := by decide +kernel
theorem dL_law_563 : decode cL_law 563 = .ok (.iaload, 1) := by decide +kernel
theorem dL_law_564 : decode cL_law 564 = .ok (.invokevirtual 64, 3) := by decide +kernel
theorem dL_law_567 : decode cL_law 567 = .ok (.if_icmp .eq 335, 3) := by decide +kernel
theorem dL_law_570 : decode cL_law 570 = .ok (.iconst 0, 1) := by decide +kernel
theorem dL_law_571 : decode cL_law 571 = .ok (.ireturn, 1) := by decide +kernel
theorem dL_law_572 : decode cL_law 572 = .ok (.aload_n 1, 1) := by decide +kernel
theorem dL_law_573 : decode cL_law 573 = .ok (.aload_n 0, 1) := by decide +kernel
theorem dL_law_574 : decode cL_law 574 = .ok (.iload_n 3, 1) := by decide +kernel
theorem dL_law_575 : decode cL_law 575 = .ok (.iconst 1, 1) := by decide +kernel
theorem dL_law_576 : decode cL_law 576 = .ok (.iadd, 1) := by decide +kernel
theorem dL_law_577 : decode cL_law 577 = .ok (.iaload, 1) := by decide +kernel
theorem dL_law_578 : decode cL_law 578 = .ok (.aload_n 0, 1) := by decide +kernel
theorem dL_law_579 : decode cL_law 579 = .ok (.iload_n 3, 1) := by decide +kernel
theorem dL_law_580 : decode cL_law 580 = .ok (.iconst 2, 1) := by decide +kernel
theorem dL_law_581 : decode cL_law 581 = .ok (.iadd, 1) := by decide +kernel
theorem dL_law_582 : decode cL_law 582 = .ok (.iaload, 1) := by decide +kernel
theorem dL_law_583 : decode cL_law 583 = .ok (.aload_n 0, 1) := by decide +kernel
theorem dL_law_584 : decode cL_law 584 = .ok (.iload_n 3, 1) := by decide +kernel
theorem dL_law_585 : decode cL_law 585 = .ok (.iconst 3, 1) := by decide +kernel
theorem dL_law_586 : decode cL_law 586 = .ok (.iadd, 1) := by decide +kernel
theorem dL_law_587 : decode cL_law 587 = .ok (.iaload, 1) := by decide +kernel
theorem dL_law_588 : decode cL_law 588 = .ok (.invokevirtual 65, 3) := by decide +kernel
theorem dL_law_591 : decode cL_law 591 = .ok (.aload_n 2, 1) := by decide +kernel
theorem dL_law_592 : decode cL_law 592 = .ok (.aload_n 0, 1) := by decide +kernel
theorem dL_law_593 : decode cL_law 593 = .ok (.iload_n 3, 1) := by decide +kernel
theorem dL_law_594 : decode cL_law 594 = .ok (.iconst 1, 1) := by decide +kernel
theorem dL_law_595 : decode cL_law 595 = .ok (.iadd, 1) := by decide +kernel
theorem dL_law_596 : decode cL_law 596 = .ok (.iaload, 1) := by decide +kernel
theorem dL_law_597 : decode cL_law 597 = .ok (.aload_n 0, 1) := by decide +kernel
theorem dL_law_598 : decode cL_law 598 = .ok (.iload_n 3, 1) := by decide +kernel
theorem dL_law_599 : decode cL_law 599 = .ok (.iconst 2, 1) := by decide +kernel
theorem dL_law_600 : decode cL_law 600 = .ok (.iadd, 1) := by decide +kernel
theorem dL_law_601 : decode cL_law 601 = .ok (.iaload, 1) := by decide +kernel
theorem dL_law_602 : decode cL_law 602 = .ok (.aload_n 0, 1) := by decide +kernel
theorem dL_law_603 : decode cL_law 603 = .ok (.iload_n 3, 1) := by decide +kernel
theorem dL_law_604 : decode cL_law 604 = .ok (.iconst 3, 1) := by decide +kernel
theorem dL_law_605 : decode cL_law 605 = .ok (.iadd, 1) := by decide +kernel
theorem dL_law_606 : decode cL_law 606 = .ok (.iaload, 1) := by decide +kernel
theorem dL_law_607 : decode cL_law 607 = .ok (.invokevirtual 68, 3) := by decide +kernel
theorem dL_law_610 : decode cL_law 610 = .ok (.if_icmp .eq 292, 3) := by decide +kernel
theorem dL_law_613 : decode cL_law 613 = .ok (.iconst 0, 1) := by decide +kernel
theorem dL_law_614 : decode cL_law 614 = .ok (.ireturn, 1) := by decide +kernel
theorem dL_law_615 : decode cL_law 615 = .ok (.aload_n 1, 1) := by decide +kernel
theorem dL_law_616 : decode cL_law 616 = .ok (.aload_n 0, 1) := by decide +kernel
theorem dL_law_617 : decode cL_law 617 = .ok (.iload_n 3, 1) := by decide +kernel
theorem dL_law_618 : decode cL_law 618 = .ok (.iconst 1, 1) := by decide +kernel
theorem dL_law_619 : decode cL_law 619 = .ok (.iadd, 1) := by decide +kernel
theorem dL_law_620 : decode cL_law 620 = .ok (.iaload, 1) := by decide +kernel
theorem dL_law_621 : decode cL_law 621 = .ok (.aload_n 0, 1) := by decide +kernel
theorem dL_law_622 : decode cL_law 622 = .ok (.iload_n 3, 1) := by decide +kernel
theorem dL_law_623 : decode cL_law 623 = .ok (.iconst 2, 1) := by decide +kernel
theorem dL_law_624 : decode cL_law 624 = .ok (.iadd, 1) := by decide +kernel
theorem dL_law_625 : decode cL_law 625 = .ok (.iaload, 1) := by decide +kernel
theorem dL_law_626 : decode cL_law 626 = .ok (.aload_n 0, 1) := by decide +kernel
theorem dL_law_627 : decode cL_law 627 = .ok (.iload_n 3, 1) := by decide +kernel
theorem dL_law_628 : decode cL_law 628 = .ok (.iconst 3, 1) := by decide +kernel
theorem dL_law_629 : decode cL_law 629 = .ok (.iadd, 1) := by decide +kernel
theorem dL_law_630 : decode cL_law 630 = .ok (.iaload, 1) := by decide +kernel
theorem dL_law_631 : decode cL_law 631 = .ok (.aload_n 0, 1) := by decide +kernel
theorem dL_law_632 : decode cL_law 632 = .ok (.iload_n 3, 1) := by decide +kernel
theorem dL_law_633 : decode cL_law 633 = .ok (.iconst 4, 1) := by decide +kernel
theorem dL_law_634 : decode cL_law 634 = .ok (.iadd, 1) := by decide +kernel
theorem dL_law_635 : decode cL_law 635 = .ok (.iaload, 1) := by decide +kernel
theorem dL_law_636 : decode cL_law 636 = .ok (.invokevirtual 69, 3) := by decide +kernel
theorem dL_law_639 : decode cL_law 639 = .ok (.aload_n 2, 1) := by decide +kernel
theorem dL_law_640 : decode cL_law 640 = .ok (.aload_n 0, 1) := by decide +kernel
theorem dL_law_641 : decode cL_law 641 = .ok (.iload_n 3, 1) := by decide +kernel
theorem dL_law_642 : decode cL_law 642 = .ok (.iconst 1, 1) := by decide +kernel
theorem dL_law_643 : decode cL_law 643 = .ok (.iadd, 1) := by decide +kernel
theorem dL_law_644 : decode cL_law 644 = .ok (.iaload, 1) := by decide +kernel
theorem dL_law_645 : decode cL_law 645 = .ok (.aload_n 0, 1) := by decide +kernel
theorem dL_law_646 : decode cL_law 646 = .ok (.iload_n 3, 1) := by decide +kernel
theorem dL_law_647 : decode cL_law 647 = .ok (.iconst 2, 1) := by decide +kernel
theorem dL_law_648 : decode cL_law 648 = .ok (.iadd, 1) := by decide +kernel
theorem dL_law_649 : decode cL_law 649 = .ok (.iaload, 1) := by decide +kernel
theorem dL_law_650 : decode cL_law 650 = .ok (.aload_n 0, 1) := by decide +kernel
theorem dL_law_651 : decode cL_law 651 = .ok (.iload_n 3, 1) := by decide +kernel
theorem dL_law_652 : decode cL_law 652 = .ok (.iconst 3, 1) := by decide +kernel
theorem dL_law_653 : decode cL_law 653 = .ok (.iadd, 1) := by decide +kernel
theorem dL_law_654 : decode cL_law 654 = .ok (.iaload, 1) := by decide +kernel
theorem dL_law_655 : decode cL_law 655 = .ok (.aload_n 0, 1) := by decide +kernel
theorem dL_law_656 : decode cL_law 656 = .ok (.iload_n 3, 1) := by decide +kernel
theorem dL_law_657 : decode cL_law 657 = .ok (.iconst 4, 1) := by decide +kernel
theorem dL_law_658 : decode cL_law 658 = .ok (.iadd, 1) := by decide +kernel
theorem dL_law_659 : decode cL_law 659 = .ok (.iaload, 1) := by decide +kernel
theorem dL_law_660 : decode cL_law 660 = .ok (.invokevirtual 72, 3) := by decide +kernel
theorem dL_law_663 : decode cL_law 663 = .ok (.if_icmp .eq 239, 3) := by decide +kernel
theorem dL_law_666 : decode cL_law 666 = .ok (.iconst 0, 1) := by decide +kernel
theorem dL_law_667 : decode cL_law 667 = .ok (.ireturn, 1) := by decide +kernel
theorem dL_law_668 : decode cL_law 668 = .ok (.aload_n 1, 1) := by decide +kernel
theorem dL_law_669 : decode cL_law 669 = .ok (.aload_n 0, 1) := by decide +kernel
theorem dL_law_670 : decode cL_law 670 = .ok (.iload_n 3, 1) := by decide +kernel
theorem dL_law_671 : decode cL_law 671 = .ok (.iconst 1, 1) := by decide +kernel
theorem dL_law_672 : decode cL_law 672 = .ok (.iadd, 1) := by decide +kernel
theorem dL_law_673 : decode cL_law 673 = .ok (.iaload, 1) := by decide +kernel
theorem dL_law_674 : decode cL_law 674 = .ok (.aload_n 0, 1) := by decide +kernel
theorem dL_law_675 : decode cL_law 675 = .ok (.iload_n 3, 1) := by decide +kernel
theorem dL_law_676 : decode cL_law 676 = .ok (.iconst 2, 1) := by decide +kernel
theorem dL_law_677 : decode cL_law 677 = .ok (.iadd, 1) := by decide +kernel
theorem dL_law_678 : decode cL_law 678 = .ok (.iaload, 1) := by decide +kernel
theorem dL_law_679 : decode cL_law 679 = .ok (.invokevirtual 73, 3) := by decide +kernel
theorem dL_law_682 : decode cL_law 682 = .ok (.aload_n 2, 1) := by decide +kernel
theorem dL_law_683 : decode cL_law 683 = .ok (.aload_n 0, 1) := by decide +kernel
theorem dL_law_684 : decode cL_law 684 = .ok (.iload_n 3, 1) := by decide +kernel
theorem dL_law_685 : decode cL_law 685 = .ok (.iconst 1, 1) := by decide +kernel
theorem dL_law_686 : decode cL_law 686 = .ok (.iadd, 1) := by decide +kernel
theorem dL_law_687 : decode cL_law 687 = .ok (.iaload, 1) := by decide +kernel
theorem dL_law_688 : decode cL_law 688 = .ok (.aload_n 0, 1) := by decide +kernel
theorem dL_law_689 : decode cL_law 689 = .ok (.iload_n 3, 1) := by decide +kernel
theorem dL_law_690 : decode cL_law 690 = .ok (.iconst 2, 1) := by decide +kernel
theorem dL_law_691 : decode cL_law 691 = .ok (.iadd, 1) := by decide +kernel
theorem dL_law_692 : decode cL_law 692 = .ok (.iaload, 1) := by decide +kernel
theorem dL_law_693 : decode cL_law 693 = .ok (.invokevirtual 76, 3) := by decide +kernel
theorem dL_law_696 : decode cL_law 696 = .ok (.if_icmp .eq 206, 3) := by decide +kernel
theorem dL_law_699 : decode cL_law 699 = .ok (.iconst 0, 1) := by decide +kernel
theorem dL_law_700 : decode cL_law 700 = .ok (.ireturn, 1) := by decide +kernel
theorem dL_law_701 : decode cL_law 701 = .ok (.aload_n 1, 1) := by decide +kernel
theorem dL_law_702 : decode cL_law 702 = .ok (.aload_n 0, 1) := by decide +kernel
theorem dL_law_703 : decode cL_law 703 = .ok (.iload_n 3, 1) := by decide +kernel
theorem dL_law_704 : decode cL_law 704 = .ok (.iconst 1, 1) := by decide +kernel
theorem dL_law_705 : decode cL_law 705 = .ok (.iadd, 1) := by decide +kernel
theorem dL_law_706 : decode cL_law 706 = .ok (.iaload, 1) := by decide +kernel
theorem dL_law_707 : decode cL_law 707 = .ok (.aload_n 0, 1) := by decide +kernel
theorem dL_law_708 : decode cL_law 708 = .ok (.iload_n 3, 1) := by decide +kernel
theorem dL_law_709 : decode cL_law 709 = .ok (.iconst 2, 1) := by decide +kernel
theorem dL_law_710 : decode cL_law 710 = .ok (.iadd, 1) := by decide +kernel
theorem dL_law_711 : decode cL_law 711 = .ok (.iaload, 1) := by decide +kernel
theorem dL_law_712 : decode cL_law 712 = .ok (.aload_n 0, 1) := by decide +kernel
theorem dL_law_713 : decode cL_law 713 = .ok (.iload_n 3, 1) := by decide +kernel
theorem dL_law_714 : decode cL_law 714 = .ok (.iconst 3, 1) := by decide +kernel
theorem dL_law_715 : decode cL_law 715 = .ok (.iadd, 1) := by decide +kernel
theorem dL_law_716 : decode cL_law 716 = .ok (.iaload, 1) := by decide +kernel
theorem dL_law_717 : decode cL_law 717 = .ok (.aload_n 0, 1) := by decide +kernel
theorem dL_law_718 : decode cL_law 718 = .ok (.iload_n 3, 1) := by decide +kernel
theorem dL_law_719 : decode cL_law 719 = .ok (.iconst 4, 1) := by decide +kernel
theorem dL_law_720 : decode cL_law 720 = .ok (.iadd, 1) := by decide +kernel
theorem dL_law_721 : decode cL_law 721 = .ok (.iaload, 1) := by decide +kernel
theorem dL_law_722 : decode cL_law 722 = .ok (.invokevirtual 77, 3) := by decide +kernel
theorem dL_law_725 : decode cL_law 725 = .ok (.aload_n 2, 1) := by decide +kernel
theorem dL_law_726 : decode cL_law 726 = .ok (.aload_n 0, 1) := by decide +kernel
theorem dL_law_727 : decode cL_law 727 = .ok (.iload_n 3, 1) := by decide +kernel
theorem dL_law_728 : decode cL_law 728 = .ok (.iconst 1, 1) := by decide +kernel
theorem dL_law_729 : decode cL_law 729 = .ok (.iadd, 1) := by decide +kernel
theorem dL_law_730 : decode cL_law 730 = .ok (.iaload, 1) := by decide +kernel
theorem dL_law_731 : decode cL_law 731 = .ok (.aload_n 0, 1) := by decide +kernel
theorem dL_law_732 : decode cL_law 732 = .ok (.iload_n 3, 1) := by decide +kernel
theorem dL_law_733 : decode cL_law 733 = .ok (.iconst 2, 1) := by decide +kernel
theorem dL_law_734 : decode cL_law 734 = .ok (.iadd, 1) := by decide +kernel
theorem dL_law_735 : decode cL_law 735 = .ok (.iaload, 1) := by decide +kernel
theorem dL_law_736 : decode cL_law 736 = .ok (.aload_n 0, 1) := by decide +kernel
theorem dL_law_737 : decode cL_law 737 = .ok (.iload_n 3, 1) := by decide +kernel
theorem dL_law_738 : decode cL_law 738 = .ok (.iconst 3, 1) := by decide +kernel
theorem dL_law_739 : decode cL_law 739 = .ok (.iadd, 1) := by decide +kernel
theorem dL_law_740 : decode cL_law 740 = .ok (.iaload, 1) := by decide +kernel
theorem dL_law_741 : decode cL_law 741 = .ok (.aload_n 0, 1) := by decide +kernel
theorem dL_law_742 : decode cL_law 742 = .ok (.iload_n 3, 1) := by decide +kernel
theorem dL_law_743 : decode cL_law 743 = .ok (.iconst 4, 1) := by decide +kernel
theorem dL_law_744 : decode cL_law 744 = .ok (.iadd, 1) := by decide +kernel
theorem dL_law_745 : decode cL_law 745 = .ok (.iaload, 1) := by decide +kernel
theorem dL_law_746 : decode cL_law 746 = .ok (.invokevirtual 80, 3) := by decide +kernel
theorem dL_law_749 : decode cL_law 749 = .ok (.if_icmp .eq 153, 3) := by decide +kernel
theorem dL_law_752 : decode cL_law 752 = .ok (.iconst 0, 1) := by decide +kernel
theorem dL_law_753 : decode cL_law 753 = .ok (.ireturn, 1) := by decide +kernel
theorem dL_law_754 : decode cL_law 754 = .ok (.aload_n 1, 1) := by decide +kernel
theorem dL_law_755 : decode cL_law 755 = .ok (.aload_n 0, 1) := by decide +kernel
theorem dL_law_756 : decode cL_law 756 = .ok (.iload_n 3, 1) := by decide +kernel
theorem dL_law_757 : decode cL_law 757 = .ok (.iconst 1, 1) := by decide +kernel
theorem dL_law_758 : decode cL_law 758 = .ok (.iadd, 1) := by decide +kernel
theorem dL_law_759 : decode cL_law 759 = .ok (.iaload, 1) := by decide +kernel
theorem dL_law_760 : decode cL_law 760 = .ok (.aload_n 0, 1) := by decide +kernel
theorem dL_law_761 : decode cL_law 761 = .ok (.iload_n 3, 1) := by decide +kernel
theorem dL_law_762 : decode cL_law 762 = .ok (.iconst 2, 1) := by decide +kernel
theorem dL_law_763 : decode cL_law 763 = .ok (.iadd, 1) := by decide +kernel
theorem dL_law_764 : decode cL_law 764 = .ok (.iaload, 1) := by decide +kernel
theorem dL_law_765 : decode cL_law 765 = .ok (.invokevirtual 81, 3) := by decide +kernel
theorem dL_law_768 : decode cL_law 768 = .ok (.aload_n 2, 1) := by decide +kernel
theorem dL_law_769 : decode cL_law 769 = .ok (.aload_n 0, 1) := by decide +kernel
theorem dL_law_770 : decode cL_law 770 = .ok (.iload_n 3, 1) := by decide +kernel
theorem dL_law_771 : decode cL_law 771 = .ok (.iconst 1, 1) := by decide +kernel
theorem dL_law_772 : decode cL_law 772 = .ok (.iadd, 1) := by decide +kernel
theorem dL_law_773 : decode cL_law 773 = .ok (.iaload, 1) := by decide +kernel
theorem dL_law_774 : decode cL_law 774 = .ok (.aload_n 0, 1) := by decide +kernel
theorem dL_law_775 : decode cL_law 775 = .ok (.iload_n 3, 1) := by decide +kernel
theorem dL_law_776 : decode cL_law 776 = .ok (.iconst 2, 1) := by decide +kernel
theorem dL_law_777 : decode cL_law 777 = .ok (.iadd, 1) := by decide +kernel
theorem dL_law_778 : decode cL_law 778 = .ok (.iaload, 1) := by decide +kernel
theorem dL_law_779 : decode cL_law 779 = .ok (.invokevirtual 84, 3) := by decide +kernel
theorem dL_law_782 : decode cL_law 782 = .ok (.if_icmp .eq 120, 3) := by decide +kernel
theorem dL_law_785 : decode cL_law 785 = .ok (.iconst 0, 1) := by decide +kernel
theorem dL_law_786 : decode cL_law 786 = .ok (.ireturn, 1) := by decide +kernel
theorem dL_law_787 : decode cL_law 787 = .ok (.aload_n 1, 1) := by decide +kernel
theorem dL_law_788 : decode cL_law 788 = .ok (.invokevirtual 85, 3) := by decide +kernel
theorem dL_law_791 : decode cL_law 791 = .ok (.aload_n 2, 1) := by decide +kernel
theorem dL_law_792 : decode cL_law 792 = .ok (.invokevirtual 89, 3) := by decide +kernel
theorem dL_law_795 : decode cL_law 795 = .ok (.if_icmp .eq 107, 3) := by decide +kernel
theorem dL_law_798 : decode cL_law 798 = .ok (.iconst 0, 1) := by decide +kernel
theorem dL_law_799 : decode cL_law 799 = .ok (.ireturn, 1) := by decide +kernel
theorem dL_law_800 : decode cL_law 800 = .ok (.aload_n 1, 1) := by decide +kernel
theorem dL_law_801 : decode cL_law 801 = .ok (.aload_n 0, 1) := by decide +kernel
theorem dL_law_802 : decode cL_law 802 = .ok (.iload_n 3, 1) := by decide +kernel
theorem dL_law_803 : decode cL_law 803 = .ok (.iconst 1, 1) := by decide +kernel
theorem dL_law_804 : decode cL_law 804 = .ok (.iadd, 1) := by decide +kernel
theorem dL_law_805 : decode cL_law 805 = .ok (.iaload, 1) := by decide +kernel
theorem dL_law_806 : decode cL_law 806 = .ok (.aload_n 0, 1) := by decide +kernel
theorem dL_law_807 : decode cL_law 807 = .ok (.iload_n 3, 1) := by decide +kernel
theorem dL_law_808 : decode cL_law 808 = .ok (.iconst 2, 1) := by decide +kernel
theorem dL_law_809 : decode cL_law 809 = .ok (.iadd, 1) := by decide +kernel
theorem dL_law_810 : decode cL_law 810 = .ok (.iaload, 1) := by decide +kernel
theorem dL_law_811 : decode cL_law 811 = .ok (.invokevirtual 90, 3) := by decide +kernel
theorem dL_law_814 : decode cL_law 814 = .ok (.aload_n 2, 1) := by decide +kernel
theorem dL_law_815 : decode cL_law 815 = .ok (.aload_n 0, 1) := by decide +kernel
theorem dL_law_816 : decode cL_law 816 = .ok (.iload_n 3, 1) := by decide +kernel
theorem dL_law_817 : decode cL_law 817 = .ok (.iconst 1, 1) := by decide +kernel
theorem dL_law_818 : decode cL_law 818 = .ok (.iadd, 1) := by decide +kernel
theorem dL_law_819 : decode cL_law 819 = .ok (.iaload, 1) := by decide +kernel
theorem dL_law_820 : decode cL_law 820 = .ok (.aload_n 0, 1) := by decide +kernel
theorem dL_law_821 : decode cL_law 821 = .ok (.iload_n 3, 1) := by decide +kernel
theorem dL_law_822 : decode cL_law 822 = .ok (.iconst 2, 1) := by decide +kernel
theorem dL_law_823 : decode cL_law 823 = .ok (.iadd, 1) := by decide +kernel
theorem dL_law_824 : decode cL_law 824 = .ok (.iaload, 1) := by decide +kernel
theorem dL_law_825 : decode cL_law 825 = .ok (.invokevirtual 93, 3) := by decide +kernel
theorem dL_law_828 : decode cL_law 828 = .ok (.if_icmp .eq 74, 3) := by decide +kernel
theorem dL_law_831 : decode cL_law 831 = .ok (.iconst 0, 1) := by decide +kernel
theorem dL_law_832 : decode cL_law 832 = .ok (.ireturn, 1) := by decide +kernel
theorem dL_law_833 : decode cL_law 833 = .ok (.aload_n 1, 1) := by decide +kernel
theorem dL_law_834 : decode cL_law 834 = .ok (.aload_n 0, 1) := by decide +kernel
theorem dL_law_835 : decode cL_law 835 = .ok (.iload_n 3, 1) := by decide +kernel
theorem dL_law_836 : decode cL_law 836 = .ok (.iconst 1, 1) := by decide +kernel
theorem dL_law_837 : decode cL_law 837 = .ok (.iadd, 1) := by decide +kernel
theorem dL_law_838 : decode cL_law 838 = .ok (.iaload, 1) := by decide +kernel
theorem dL_law_839 : decode cL_law 839 = .ok (.invokevirtual 94, 3) := by decide +kernel
theorem dL_law_842 : decode cL_law 842 = .ok (.aload_n 2, 1) := by decide +kernel
theorem dL_law_843 : decode cL_law 843 = .ok (.aload_n 0, 1) := by decide +kernel
theorem dL_law_844 : decode cL_law 844 = .ok (.iload_n 3, 1) := by decide +kernel
theorem dL_law_845 : decode cL_law 845 = .ok (.iconst 1, 1) := by decide +kernel
theorem dL_law_846 : decode cL_law 846 = .ok (.iadd, 1) := by decide +kernel
theorem dL_law_847 : decode cL_law 847 = .ok (.iaload, 1) := by decide +kernel
theorem dL_law_848 : decode cL_law 848 = .ok (.invokevirtual 97, 3) := by decide +kernel
theorem dL_law_851 : decode cL_law 851 = .ok (.if_icmp .eq 51, 3) := by decide +kernel
theorem dL_law_854 : decode cL_law 854 = .ok (.iconst 0, 1) := by decide +kernel
theorem dL_law_855 : decode cL_law 855 = .ok (.ireturn, 1) := by decide +kernel
theorem dL_law_856 : decode cL_law 856 = .ok (.aload_n 1, 1) := by decide +kernel
theorem dL_law_857 : decode cL_law 857 = .ok (.aload_n 0, 1) := by decide +kernel
theorem dL_law_858 : decode cL_law 858 = .ok (.iload_n 3, 1) := by decide +kernel
theorem dL_law_859 : decode cL_law 859 = .ok (.iconst 1, 1) := by decide +kernel
theorem dL_law_860 : decode cL_law 860 = .ok (.iadd, 1) := by decide +kernel
theorem dL_law_861 : decode cL_law 861 = .ok (.iaload, 1) := by decide +kernel
theorem dL_law_862 : decode cL_law 862 = .ok (.invokevirtual 98, 3) := by decide +kernel
theorem dL_law_865 : decode cL_law 865 = .ok (.aload_n 2, 1) := by decide +kernel
theorem dL_law_866 : decode cL_law 866 = .ok (.aload_n 0, 1) := by decide +kernel
theorem dL_law_867 : decode cL_law 867 = .ok (.iload_n 3, 1) := by decide +kernel
theorem dL_law_868 : decode cL_law 868 = .ok (.iconst 1, 1) := by decide +kernel
theorem dL_law_869 : decode cL_law 869 = .ok (.iadd, 1) := by decide +kernel
theorem dL_law_870 : decode cL_law 870 = .ok (.iaload, 1) := by decide +kernel
theorem dL_law_871 : decode cL_law 871 = .ok (.invokevirtual 101, 3) := by decide +kernel
theorem dL_law_874 : decode cL_law 874 = .ok (.if_icmp .eq 28, 3) := by decide +kernel
theorem dL_law_877 : decode cL_law 877 = .ok (.iconst 0, 1) := by decide +kernel
theorem dL_law_878 : decode cL_law 878 = .ok (.ireturn, 1) := by decide +kernel
theorem dL_law_879 : decode cL_law 879 = .ok (.aload_n 1, 1) := by decide +kernel
theorem dL_law_880 : decode cL_law 880 = .ok (.aload_n 0, 1) := by decide +kernel
theorem dL_law_881 : decode cL_law 881 = .ok (.iload_n 3, 1) := by decide +kernel
theorem dL_law_882 : decode cL_law 882 = .ok (.iconst 1, 1) := by decide +kernel
theorem dL_law_883 : decode cL_law 883 = .ok (.iadd, 1) := by decide +kernel
theorem dL_law_884 : decode cL_law 884 = .ok (.iaload, 1) := by decide +kernel
theorem dL_law_885 : decode cL_law 885 = .ok (.invokevirtual 102, 3) := by decide +kernel
theorem dL_law_888 : decode cL_law 888 = .ok (.aload_n 2, 1) := by decide +kernel
theorem dL_law_889 : decode cL_law 889 = .ok (.aload_n 0, 1) := by decide +kernel
theorem dL_law_890 : decode cL_law 890 = .ok (.iload_n 3, 1) := by decide +kernel
theorem dL_law_891 : decode cL_law 891 = .ok (.iconst 1, 1) := by decide +kernel
theorem dL_law_892 : decode cL_law 892 = .ok (.iadd, 1) := by decide +kernel
theorem dL_law_893 : decode cL_law 893 = .ok (.iaload, 1) := by decide +kernel
theorem dL_law_894 : decode cL_law 894 = .ok (.invokevirtual 105, 3) := by decide +kernel
theorem dL_law_897 : decode cL_law 897 = .ok (.if_icmp .eq 5, 3) := by decide +kernel
theorem dL_law_900 : decode cL_law 900 = .ok (.iconst 0, 1) := by decide +kernel
theorem dL_law_901 : decode cL_law 901 = .ok (.ireturn, 1) := by decide +kernel
theorem dL_law_902 : decode cL_law 902 = .ok (.iinc 3 5, 3) := by decide +kernel
theorem dL_law_905 : decode cL_law 905 = .ok (.goto (-887), 3) := by decide +kernel
theorem dL_law_908 : decode cL_law 908 = .ok (.iconst 1, 1) := by decide +kernel
theorem dL_law_909 : decode cL_law 909 = .ok (.ireturn, 1) := by decide +kernel
theorem law_0 {G : Gx} {X : Cx} {nm : String} {rt : Option FieldType} {Q : State → Prop} {h : PH} (C : pw_Ctx G X cL_law 4 RL nm rt room_1) {Ln : Nat} {xs : Nat → Int32} (x : ScX G X Ln xs) {i B : Int} (s : Sim h B) (B0 : B ≤ 800000000) (i0 : 0 ≤ i) (i1 : i + 5 ≤ Ln) (nx : ∀ h2, Sim h2 (B + 640) → PW G X 4 Q 140 85706 902 (lawL i) [] h2) : PW G X 4 Q 140 85706 136 (lawL i) [] h := by
  obtain ⟨PQ, MQ, cx, cm, bo⟩ := op_pass G X.2.1 s B0 (scv_r xs i 1) (scv_r xs i 2)
  refine pw_aload_n C dL_law_136 (r := 2) rfl ?_
  refine pw_arg C x (j := 1) dL_law_137 dL_law_138 dL_law_139 dL_law_140 dL_law_141 (by omega) (by omega) ?_
  refine pw_arg C x (j := 2) dL_law_142 dL_law_143 dL_law_144 dL_law_145 dL_law_146 (by omega) (by omega) ?_
  refine pw_callV C (na := 2) (As := [.inl (scv xs i 1), .inl (scv xs i 2)]) (S := []) (c := 2) (t := 6) cx s.tp.1 (by decide) (hcl := by rfl) kw323 kw324 kw325 kw38 kw326 (by decide +kernel) rfl dL_law_147 (by decide) (by decide) (by decide) (by decide) (by decide) (fun rr h1 q => ?_)
  obtain ⟨⟨v, rfl⟩, b2⟩ := bo rr h1 q
  obtain ⟨t1, c7⟩ := cm _ h1 q
  refine pw_aload_n C dL_law_150 (r := 134) (S := [.inl v]) rfl ?_
  refine pw_arg C x (j := 1) dL_law_151 dL_law_152 dL_law_153 dL_law_154 dL_law_155 (by omega) (by omega) ?_
  refine pw_arg C x (j := 2) dL_law_156 dL_law_157 dL_law_158 dL_law_159 dL_law_160 (by omega) (by omega) ?_
  refine pw_callV C (na := 2) (As := [.inl (scv xs i 1), .inl (scv xs i 2)]) (S := [.inl v]) (c := 134) (t := 7) c7 t1 (by decide) (hcl := by rfl) kw715 kw716 kw717 kw45 kw718 (by decide +kernel) rfl dL_law_161 (by decide) (by decide) (by decide) (by decide) (by simp only [List.length_cons, List.length_nil]; omega) (fun r2 h2 q2 => ?_)
  obtain ⟨⟨w, e1, rfl⟩, s2⟩ := b2 r2 h2 q2
  cases e1
  exact pw_icmp_same C 902 dL_law_164 (by decide) (nx h2 s2)
theorem law_1 {G : Gx} {X : Cx} {nm : String} {rt : Option FieldType} {Q : State → Prop} {h : PH} (C : pw_Ctx G X cL_law 4 RL nm rt room_1) {Ln : Nat} {xs : Nat → Int32} (x : ScX G X Ln xs) {i B : Int} (s : Sim h B) (B0 : B ≤ 800000000) (i0 : 0 ≤ i) (i1 : i + 5 ≤ Ln) (nx : ∀ h2, Sim h2 (B + 640) → PW G X 4 Q 140 85706 902 (lawL i) [] h2) : PW G X 4 Q 140 85706 169 (lawL i) [] h := by
  obtain ⟨PQ, MQ, cx, cm, bo⟩ := op_point G X.2.1 s B0 (scv_r xs i 1) (scv_r xs i 2) (scv_r xs i 3)
  refine pw_aload_n C dL_law_169 (r := 2) rfl ?_
  refine pw_arg C x (j := 1) dL_law_170 dL_law_171 dL_law_172 dL_law_173 dL_law_174 (by omega) (by omega) ?_
  refine pw_arg C x (j := 2) dL_law_175 dL_law_176 dL_law_177 dL_law_178 dL_law_179 (by omega) (by omega) ?_
  refine pw_arg C x (j := 3) dL_law_180 dL_law_181 dL_law_182 dL_law_183 dL_law_184 (by omega) (by omega) ?_
  refine pw_callV C (na := 3) (As := [.inl (scv xs i 1), .inl (scv xs i 2), .inl (scv xs i 3)]) (S := []) (c := 2) (t := 6) cx s.tp.1 (by decide) (hcl := by rfl) kw342 kw343 kw344 kw38 kw345 (by decide +kernel) rfl dL_law_185 (by decide) (by decide) (by decide) (by decide) (by decide) (fun rr h1 q => ?_)
  obtain ⟨⟨v, rfl⟩, b2⟩ := bo rr h1 q
  obtain ⟨t1, c7⟩ := cm _ h1 q
  refine pw_aload_n C dL_law_188 (r := 134) (S := [.inl v]) rfl ?_
  refine pw_arg C x (j := 1) dL_law_189 dL_law_190 dL_law_191 dL_law_192 dL_law_193 (by omega) (by omega) ?_
  refine pw_arg C x (j := 2) dL_law_194 dL_law_195 dL_law_196 dL_law_197 dL_law_198 (by omega) (by omega) ?_
  refine pw_arg C x (j := 3) dL_law_199 dL_law_200 dL_law_201 dL_law_202 dL_law_203 (by omega) (by omega) ?_
  refine pw_callV C (na := 3) (As := [.inl (scv xs i 1), .inl (scv xs i 2), .inl (scv xs i 3)]) (S := [.inl v]) (c := 134) (t := 7) c7 t1 (by decide) (hcl := by rfl) kw726 kw727 kw728 kw45 kw729 (by decide +kernel) rfl dL_law_204 (by decide) (by decide) (by decide) (by decide) (by simp only [List.length_cons, List.length_nil]; omega) (fun r2 h2 q2 => ?_)
  obtain ⟨⟨w, e1, rfl⟩, s2⟩ := b2 r2 h2 q2
  cases e1
  exact pw_icmp_same C 902 dL_law_207 (by decide) (nx h2 s2)
theorem law_2 {G : Gx} {X : Cx} {nm : String} {rt : Option FieldType} {Q : State → Prop} {h : PH} (C : pw_Ctx G X cL_law 4 RL nm rt room_1) {Ln : Nat} {xs : Nat → Int32} (x : ScX G X Ln xs) {i B : Int} (s : Sim h B) (B0 : B ≤ 800000000) (i0 : 0 ≤ i) (i1 : i + 5 ≤ Ln) (nx : ∀ h2, Sim h2 (B + 640) → PW G X 4 Q 140 85706 902 (lawL i) [] h2) : PW G X 4 Q 140 85706 212 (lawL i) [] h := by
  obtain ⟨PQ, MQ, cx, cm, bo⟩ := op_drop G X.2.1 s B0 (scv_r xs i 1)
  refine pw_aload_n C dL_law_212 (r := 2) rfl ?_
  refine pw_arg C x (j := 1) dL_law_213 dL_law_214 dL_law_215 dL_law_216 dL_law_217 (by omega) (by omega) ?_
  refine pw_callV C (na := 1) (As := [.inl (scv xs i 1)]) (S := []) (c := 2) (t := 6) cx s.tp.1 (by decide) (hcl := by rfl) kw363 kw364 kw365 kw38 kw366 (by decide +kernel) rfl dL_law_218 (by decide) (by decide) (by decide) (by decide) (by decide) (fun rr h1 q => ?_)
  obtain ⟨⟨v, rfl⟩, b2⟩ := bo rr h1 q
  obtain ⟨t1, c7⟩ := cm _ h1 q
  refine pw_aload_n C dL_law_221 (r := 134) (S := [.inl v]) rfl ?_
  refine pw_arg C x (j := 1) dL_law_222 dL_law_223 dL_law_224 dL_law_225 dL_law_226 (by omega) (by omega) ?_
  refine pw_callV C (na := 1) (As := [.inl (scv xs i 1)]) (S := [.inl v]) (c := 134) (t := 7) c7 t1 (by decide) (hcl := by rfl) kw733 kw734 kw735 kw45 kw736 (by decide +kernel) rfl dL_law_227 (by decide) (by decide) (by decide) (by decide) (by simp only [List.length_cons, List.length_nil]; omega) (fun r2 h2 q2 => ?_)
  obtain ⟨⟨w, e1, rfl⟩, s2⟩ := b2 r2 h2 q2
  cases e1
  exact pw_icmp_same C 902 dL_law_230 (by decide) (nx h2 s2)
theorem law_3 {G : Gx} {X : Cx} {nm : String} {rt : Option FieldType} {Q : State → Prop} {h : PH} (C : pw_Ctx G X cL_law 4 RL nm rt room_1) {Ln : Nat} {xs : Nat → Int32} (x : ScX G X Ln xs) {i B : Int} (s : Sim h B) (B0 : B ≤ 800000000) (i0 : 0 ≤ i) (i1 : i + 5 ≤ Ln) (nx : ∀ h2, Sim h2 (B + 640) → PW G X 4 Q 140 85706 902 (lawL i) [] h2) : PW G X 4 Q 140 85706 235 (lawL i) [] h := by
  obtain ⟨PQ, MQ, cx, cm, bo⟩ := op_stand G X.2.1 s B0 (scv_r xs i 1) (scv_r xs i 2) (scv_r xs i 3) (scv_r xs i 4)
  refine pw_aload_n C dL_law_235 (r := 2) rfl ?_
  refine pw_arg C x (j := 1) dL_law_236 dL_law_237 dL_law_238 dL_law_239 dL_law_240 (by omega) (by omega) ?_
  refine pw_arg C x (j := 2) dL_law_241 dL_law_242 dL_law_243 dL_law_244 dL_law_245 (by omega) (by omega) ?_
  refine pw_arg C x (j := 3) dL_law_246 dL_law_247 dL_law_248 dL_law_249 dL_law_250 (by omega) (by omega) ?_
  refine pw_arg C x (j := 4) dL_law_251 dL_law_252 dL_law_253 dL_law_254 dL_law_255 (by omega) (by omega) ?_
  refine pw_callV C (na := 4) (As := [.inl (scv xs i 1), .inl (scv xs i 2), .inl (scv xs i 3), .inl (scv xs i 4)]) (S := []) (c := 2) (t := 6) cx s.tp.1 (by decide) (hcl := by rfl) kw371 kw372 kw373 kw38 kw374 (by decide +kernel) rfl dL_law_256 (by decide) (by decide) (by decide) (by decide) (by decide) (fun rr h1 q => ?_)
  obtain ⟨⟨v, rfl⟩, b2⟩ := bo rr h1 q
  obtain ⟨t1, c7⟩ := cm _ h1 q
  refine pw_aload_n C dL_law_259 (r := 134) (S := [.inl v]) rfl ?_
  refine pw_arg C x (j := 1) dL_law_260 dL_law_261 dL_law_262 dL_law_263 dL_law_264 (by omega) (by omega) ?_
  refine pw_arg C x (j := 2) dL_law_265 dL_law_266 dL_law_267 dL_law_268 dL_law_269 (by omega) (by omega) ?_
  refine pw_arg C x (j := 3) dL_law_270 dL_law_271 dL_law_272 dL_law_273 dL_law_274 (by omega) (by omega) ?_
  refine pw_arg C x (j := 4) dL_law_275 dL_law_276 dL_law_277 dL_law_278 dL_law_279 (by omega) (by omega) ?_
  refine pw_callV C (na := 4) (As := [.inl (scv xs i 1), .inl (scv xs i 2), .inl (scv xs i 3), .inl (scv xs i 4)]) (S := [.inl v]) (c := 134) (t := 7) c7 t1 (by decide) (hcl := by rfl) kw737 kw738 kw739 kw45 kw740 (by decide +kernel) rfl dL_law_280 (by decide) (by decide) (by decide) (by decide) (by simp only [List.length_cons, List.length_nil]; omega) (fun r2 h2 q2 => ?_)
  obtain ⟨⟨w, e1, rfl⟩, s2⟩ := b2 r2 h2 q2
  cases e1
  exact pw_icmp_same C 902 dL_law_283 (by decide) (nx h2 s2)
theorem law_4 {G : Gx} {X : Cx} {nm : String} {rt : Option FieldType} {Q : State → Prop} {h : PH} (C : pw_Ctx G X cL_law 4 RL nm rt room_1) {Ln : Nat} {xs : Nat → Int32} (x : ScX G X Ln xs) {i B : Int} (s : Sim h B) (B0 : B ≤ 800000000) (i0 : 0 ≤ i) (i1 : i + 5 ≤ Ln) (nx : ∀ h2, Sim h2 (B + 640) → PW G X 4 Q 140 85706 902 (lawL i) [] h2) : PW G X 4 Q 140 85706 288 (lawL i) [] h := by
  obtain ⟨PQ, MQ, cx, cm, bo⟩ := op_set G X.2.1 s B0 (scv_r xs i 1) (scv_r xs i 2) (scv_r xs i 3)
  refine pw_aload_n C dL_law_288 (r := 2) rfl ?_
  refine pw_arg C x (j := 1) dL_law_289 dL_law_290 dL_law_291 dL_law_292 dL_law_293 (by omega) (by omega) ?_
  refine pw_arg C x (j := 2) dL_law_294 dL_law_295 dL_law_296 dL_law_297 dL_law_298 (by omega) (by omega) ?_
  refine pw_arg C x (j := 3) dL_law_299 dL_law_300 dL_law_301 dL_law_302 dL_law_303 (by omega) (by omega) ?_
  refine pw_callV C (na := 3) (As := [.inl (scv xs i 1), .inl (scv xs i 2), .inl (scv xs i 3)]) (S := []) (c := 2) (t := 6) cx s.tp.1 (by decide) (hcl := by rfl) kw385 kw386 kw387 kw38 kw388 (by decide +kernel) rfl dL_law_304 (by decide) (by decide) (by decide) (by decide) (by decide) (fun rr h1 q => ?_)
  obtain ⟨⟨v, rfl⟩, b2⟩ := bo rr h1 q
  obtain ⟨t1, c7⟩ := cm _ h1 q
  refine pw_aload_n C dL_law_307 (r := 134) (S := [.inl v]) rfl ?_
  refine pw_arg C x (j := 1) dL_law_308 dL_law_309 dL_law_310 dL_law_311 dL_law_312 (by omega) (by omega) ?_
  refine pw_arg C x (j := 2) dL_law_313 dL_law_314 dL_law_315 dL_law_316 dL_law_317 (by omega) (by omega) ?_
  refine pw_arg C x (j := 3) dL_law_318 dL_law_319 dL_law_320 dL_law_321 dL_law_322 (by omega) (by omega) ?_
  refine pw_callV C (na := 3) (As := [.inl (scv xs i 1), .inl (scv xs i 2), .inl (scv xs i 3)]) (S := [.inl v]) (c := 134) (t := 7) c7 t1 (by decide) (hcl := by rfl) kw747 kw748 kw749 kw45 kw750 (by decide +kernel) rfl dL_law_323 (by decide) (by decide) (by decide) (by decide) (by simp only [List.length_cons, List.length_nil]; omega) (fun r2 h2 q2 => ?_)
  obtain ⟨⟨w, e1, rfl⟩, s2⟩ := b2 r2 h2 q2
  cases e1
  exact pw_icmp_same C 902 dL_law_326 (by decide) (nx h2 s2)
theorem law_5 {G : Gx} {X : Cx} {nm : String} {rt : Option FieldType} {Q : State → Prop} {h : PH} (C : pw_Ctx G X cL_law 4 RL nm rt room_1) {Ln : Nat} {xs : Nat → Int32} (x : ScX G X Ln xs) {i B : Int} (s : Sim h B) (B0 : B ≤ 800000000) (i0 : 0 ≤ i) (i1 : i + 5 ≤ Ln) (nx : ∀ h2, Sim h2 (B + 640) → PW G X 4 Q 140 85706 902 (lawL i) [] h2) : PW G X 4 Q 140 85706 331 (lawL i) [] h := by
  obtain ⟨PQ, MQ, cx, cm, bo⟩ := op_sun G X.2.1 s B0 (scv_r xs i 1) (scv_r xs i 2) (scv_r xs i 3) (scv_r xs i 4)
  refine pw_aload_n C dL_law_331 (r := 2) rfl ?_
  refine pw_arg C x (j := 1) dL_law_332 dL_law_333 dL_law_334 dL_law_335 dL_law_336 (by omega) (by omega) ?_
  refine pw_arg C x (j := 2) dL_law_337 dL_law_338 dL_law_339 dL_law_340 dL_law_341 (by omega) (by omega) ?_
  refine pw_arg C x (j := 3) dL_law_342 dL_law_343 dL_law_344 dL_law_345 dL_law_346 (by omega) (by omega) ?_
  refine pw_arg C x (j := 4) dL_law_347 dL_law_348 dL_law_349 dL_law_350 dL_law_351 (by omega) (by omega) ?_
  refine pw_callV C (na := 4) (As := [.inl (scv xs i 1), .inl (scv xs i 2), .inl (scv xs i 3), .inl (scv xs i 4)]) (S := []) (c := 2) (t := 6) cx s.tp.1 (by decide) (hcl := by rfl) kw392 kw393 kw394 kw38 kw395 (by decide +kernel) rfl dL_law_352 (by decide) (by decide) (by decide) (by decide) (by decide) (fun rr h1 q => ?_)
  obtain ⟨⟨v, rfl⟩, b2⟩ := bo rr h1 q
  obtain ⟨t1, c7⟩ := cm _ h1 q
  refine pw_aload_n C dL_law_355 (r := 134) (S := [.inl v]) rfl ?_
  refine pw_arg C x (j := 1) dL_law_356 dL_law_357 dL_law_358 dL_law_359 dL_law_360 (by omega) (by omega) ?_
  refine pw_arg C x (j := 2) dL_law_361 dL_law_362 dL_law_363 dL_law_364 dL_law_365 (by omega) (by omega) ?_
  refine pw_arg C x (j := 3) dL_law_366 dL_law_367 dL_law_368 dL_law_369 dL_law_370 (by omega) (by omega) ?_
  refine pw_arg C x (j := 4) dL_law_371 dL_law_372 dL_law_373 dL_law_374 dL_law_375 (by omega) (by omega) ?_
  refine pw_callV C (na := 4) (As := [.inl (scv xs i 1), .inl (scv xs i 2), .inl (scv xs i 3), .inl (scv xs i 4)]) (S := [.inl v]) (c := 134) (t := 7) c7 t1 (by decide) (hcl := by rfl) kw754 kw755 kw756 kw45 kw757 (by decide +kernel) rfl dL_law_376 (by decide) (by decide) (by decide) (by decide) (by simp only [List.length_cons, List.length_nil]; omega) (fun r2 h2 q2 => ?_)
  obtain ⟨⟨w, e1, rfl⟩, s2⟩ := b2 r2 h2 q2
  cases e1
  exact pw_icmp_same C 902 dL_law_379 (by decide) (nx h2 s2)
theorem law_6 {G : Gx} {X : Cx} {nm : String} {rt : Option FieldType} {Q : State → Prop} {h : PH} (C : pw_Ctx G X cL_law 4 RL nm rt room_1) {Ln : Nat} {xs : Nat → Int32} (x : ScX G X Ln xs) {i B : Int} (s : Sim h B) (B0 : B ≤ 800000000) (i0 : 0 ≤ i) (i1 : i + 5 ≤ Ln) (nx : ∀ h2, Sim h2 (B + 640) → PW G X 4 Q 140 85706 902 (lawL i) [] h2) : PW G X 4 Q 140 85706 384 (lawL i) [] h := by
  obtain ⟨PQ, MQ, cx, cm, bo⟩ := op_storm G X.2.1 s B0 (scv_r xs i 1) (scv_r xs i 2)
  refine pw_aload_n C dL_law_384 (r := 2) rfl ?_
  refine pw_arg C x (j := 1) dL_law_385 dL_law_386 dL_law_387 dL_law_388 dL_law_389 (by omega) (by omega) ?_
  refine pw_arg C x (j := 2) dL_law_390 dL_law_391 dL_law_392 dL_law_393 dL_law_394 (by omega) (by omega) ?_
  refine pw_callV C (na := 2) (As := [.inl (scv xs i 1), .inl (scv xs i 2)]) (S := []) (c := 2) (t := 6) cx s.tp.1 (by decide) (hcl := by rfl) kw400 kw401 kw402 kw38 kw403 (by decide +kernel) rfl dL_law_395 (by decide) (by decide) (by decide) (by decide) (by decide) (fun rr h1 q => ?_)
  obtain ⟨⟨v, rfl⟩, b2⟩ := bo rr h1 q
  obtain ⟨t1, c7⟩ := cm _ h1 q
  refine pw_aload_n C dL_law_398 (r := 134) (S := [.inl v]) rfl ?_
  refine pw_arg C x (j := 1) dL_law_399 dL_law_400 dL_law_401 dL_law_402 dL_law_403 (by omega) (by omega) ?_
  refine pw_arg C x (j := 2) dL_law_404 dL_law_405 dL_law_406 dL_law_407 dL_law_408 (by omega) (by omega) ?_
  refine pw_callV C (na := 2) (As := [.inl (scv xs i 1), .inl (scv xs i 2)]) (S := [.inl v]) (c := 134) (t := 7) c7 t1 (by decide) (hcl := by rfl) kw758 kw759 kw760 kw45 kw761 (by decide +kernel) rfl dL_law_409 (by decide) (by decide) (by decide) (by decide) (by simp only [List.length_cons, List.length_nil]; omega) (fun r2 h2 q2 => ?_)
  obtain ⟨⟨w, e1, rfl⟩, s2⟩ := b2 r2 h2 q2
  cases e1
  exact pw_icmp_same C 902 dL_law_412 (by decide) (nx h2 s2)
theorem law_7 {G : Gx} {X : Cx} {nm : String} {rt : Option FieldType} {Q : State → Prop} {h : PH} (C : pw_Ctx G X cL_law 4 RL nm rt room_1) {Ln : Nat} {xs : Nat → Int32} (x : ScX G X Ln xs) {i B : Int} (s : Sim h B) (B0 : B ≤ 800000000) (i0 : 0 ≤ i) (i1 : i + 5 ≤ Ln) (nx : ∀ h2, Sim h2 (B + 640) → PW G X 4 Q 140 85706 902 (lawL i) [] h2) : PW G X 4 Q 140 85706 417 (lawL i) [] h := by
  obtain ⟨PQ, MQ, cx, cm, bo⟩ := op_key G X.2.1 s B0 (scv_r xs i 1)
  refine pw_aload_n C dL_law_417 (r := 2) rfl ?_
  refine pw_arg C x (j := 1) dL_law_418 dL_law_419 dL_law_420 dL_law_421 dL_law_422 (by omega) (by omega) ?_
  refine pw_callV C (na := 1) (As := [.inl (scv xs i 1)]) (S := []) (c := 2) (t := 6) cx s.tp.1 (by decide) (hcl := by rfl) kw404 kw405 kw406 kw38 kw407 (by decide +kernel) rfl dL_law_423 (by decide) (by decide) (by decide) (by decide) (by decide) (fun rr h1 q => ?_)
  obtain ⟨⟨v, rfl⟩, b2⟩ := bo rr h1 q
  obtain ⟨t1, c7⟩ := cm _ h1 q
  refine pw_aload_n C dL_law_426 (r := 134) (S := [.inl v]) rfl ?_
  refine pw_arg C x (j := 1) dL_law_427 dL_law_428 dL_law_429 dL_law_430 dL_law_431 (by omega) (by omega) ?_
  refine pw_callV C (na := 1) (As := [.inl (scv xs i 1)]) (S := [.inl v]) (c := 134) (t := 7) c7 t1 (by decide) (hcl := by rfl) kw762 kw763 kw764 kw45 kw765 (by decide +kernel) rfl dL_law_432 (by decide) (by decide) (by decide) (by decide) (by simp only [List.length_cons, List.length_nil]; omega) (fun r2 h2 q2 => ?_)
  obtain ⟨⟨w, e1, rfl⟩, s2⟩ := b2 r2 h2 q2
  cases e1
  exact pw_icmp_same C 902 dL_law_435 (by decide) (nx h2 s2)
theorem law_8 {G : Gx} {X : Cx} {nm : String} {rt : Option FieldType} {Q : State → Prop} {h : PH} (C : pw_Ctx G X cL_law 4 RL nm rt room_1) {Ln : Nat} {xs : Nat → Int32} (x : ScX G X Ln xs) {i B : Int} (s : Sim h B) (B0 : B ≤ 800000000) (i0 : 0 ≤ i) (i1 : i + 5 ≤ Ln) (nx : ∀ h2, Sim h2 (B + 640) → PW G X 4 Q 140 85706 902 (lawL i) [] h2) : PW G X 4 Q 140 85706 440 (lawL i) [] h := by
  obtain ⟨PQ, MQ, cx, cm, bo⟩ := op_burnt G X.2.1 s B0 (scv_r xs i 1) (scv_r xs i 2) (scv_r xs i 3)
  refine pw_aload_n C dL_law_440 (r := 2) rfl ?_
  refine pw_arg C x (j := 1) dL_law_441 dL_law_442 dL_law_443 dL_law_444 dL_law_445 (by omega) (by omega) ?_
  refine pw_arg C x (j := 2) dL_law_446 dL_law_447 dL_law_448 dL_law_449 dL_law_450 (by omega) (by omega) ?_
  refine pw_arg C x (j := 3) dL_law_451 dL_law_452 dL_law_453 dL_law_454 dL_law_455 (by omega) (by omega) ?_
  refine pw_callV C (na := 3) (As := [.inl (scv xs i 1), .inl (scv xs i 2), .inl (scv xs i 3)]) (S := []) (c := 2) (t := 6) cx s.tp.1 (by decide) (hcl := by rfl) kw408 kw409 kw410 kw38 kw411 (by decide +kernel) rfl dL_law_456 (by decide) (by decide) (by decide) (by decide) (by decide) (fun rr h1 q => ?_)
  obtain ⟨⟨v, rfl⟩, b2⟩ := bo rr h1 q
  obtain ⟨t1, c7⟩ := cm _ h1 q
  refine pw_aload_n C dL_law_459 (r := 134) (S := [.inl v]) rfl ?_
  refine pw_arg C x (j := 1) dL_law_460 dL_law_461 dL_law_462 dL_law_463 dL_law_464 (by omega) (by omega) ?_
  refine pw_arg C x (j := 2) dL_law_465 dL_law_466 dL_law_467 dL_law_468 dL_law_469 (by omega) (by omega) ?_
  refine pw_arg C x (j := 3) dL_law_470 dL_law_471 dL_law_472 dL_law_473 dL_law_474 (by omega) (by omega) ?_
  refine pw_callV C (na := 3) (As := [.inl (scv xs i 1), .inl (scv xs i 2), .inl (scv xs i 3)]) (S := [.inl v]) (c := 134) (t := 7) c7 t1 (by decide) (hcl := by rfl) kw766 kw767 kw768 kw45 kw769 (by decide +kernel) rfl dL_law_475 (by decide) (by decide) (by decide) (by decide) (by simp only [List.length_cons, List.length_nil]; omega) (fun r2 h2 q2 => ?_)
  obtain ⟨⟨w, e1, rfl⟩, s2⟩ := b2 r2 h2 q2
  cases e1
  exact pw_icmp_same C 902 dL_law_478 (by decide) (nx h2 s2)
theorem law_9 {G : Gx} {X : Cx} {nm : String} {rt : Option FieldType} {Q : State → Prop} {h : PH} (C : pw_Ctx G X cL_law 4 RL nm rt room_1) {Ln : Nat} {xs : Nat → Int32} (x : ScX G X Ln xs) {i B : Int} (s : Sim h B) (B0 : B ≤ 800000000) (i0 : 0 ≤ i) (i1 : i + 5 ≤ Ln) (nx : ∀ h2, Sim h2 (B + 640) → PW G X 4 Q 140 85706 902 (lawL i) [] h2) : PW G X 4 Q 140 85706 483 (lawL i) [] h := by
  obtain ⟨PQ, MQ, cx, cm, bo⟩ := op_told G X.2.1 s B0 (scv_r xs i 1) (scv_r xs i 2)
  refine pw_aload_n C dL_law_483 (r := 2) rfl ?_
  refine pw_arg C x (j := 1) dL_law_484 dL_law_485 dL_law_486 dL_law_487 dL_law_488 (by omega) (by omega) ?_
  refine pw_arg C x (j := 2) dL_law_489 dL_law_490 dL_law_491 dL_law_492 dL_law_493 (by omega) (by omega) ?_
  refine pw_callV C (na := 2) (As := [.inl (scv xs i 1), .inl (scv xs i 2)]) (S := []) (c := 2) (t := 6) cx s.tp.1 (by decide) (hcl := by rfl) kw430 kw431 kw432 kw38 kw433 (by decide +kernel) rfl dL_law_494 (by decide) (by decide) (by decide) (by decide) (by decide) (fun rr h1 q => ?_)
  obtain ⟨⟨v, rfl⟩, b2⟩ := bo rr h1 q
  obtain ⟨t1, c7⟩ := cm _ h1 q
  refine pw_aload_n C dL_law_497 (r := 134) (S := [.inl v]) rfl ?_
  refine pw_arg C x (j := 1) dL_law_498 dL_law_499 dL_law_500 dL_law_501 dL_law_502 (by omega) (by omega) ?_
  refine pw_arg C x (j := 2) dL_law_503 dL_law_504 dL_law_505 dL_law_506 dL_law_507 (by omega) (by omega) ?_
  refine pw_callV C (na := 2) (As := [.inl (scv xs i 1), .inl (scv xs i 2)]) (S := [.inl v]) (c := 134) (t := 7) c7 t1 (by decide) (hcl := by rfl) kw774 kw775 kw776 kw45 kw777 (by decide +kernel) rfl dL_law_508 (by decide) (by decide) (by decide) (by decide) (by simp only [List.length_cons, List.length_nil]; omega) (fun r2 h2 q2 => ?_)
  obtain ⟨⟨w, e1, rfl⟩, s2⟩ := b2 r2 h2 q2
  cases e1
  exact pw_icmp_same C 902 dL_law_511 (by decide) (nx h2 s2)
theorem law_10 {G : Gx} {X : Cx} {nm : String} {rt : Option FieldType} {Q : State → Prop} {h : PH} (C : pw_Ctx G X cL_law 4 RL nm rt room_1) {Ln : Nat} {xs : Nat → Int32} (x : ScX G X Ln xs) {i B : Int} (s : Sim h B) (B0 : B ≤ 800000000) (i0 : 0 ≤ i) (i1 : i + 5 ≤ Ln) (nx : ∀ h2, Sim h2 (B + 640) → PW G X 4 Q 140 85706 902 (lawL i) [] h2) : PW G X 4 Q 140 85706 516 (lawL i) [] h := by
  obtain ⟨PQ, MQ, cx, cm, bo⟩ := op_order G X.2.1 s B0 (scv_r xs i 1)
  refine pw_aload_n C dL_law_516 (r := 2) rfl ?_
  refine pw_arg C x (j := 1) dL_law_517 dL_law_518 dL_law_519 dL_law_520 dL_law_521 (by omega) (by omega) ?_
  refine pw_callV C (na := 1) (As := [.inl (scv xs i 1)]) (S := []) (c := 2) (t := 6) cx s.tp.1 (by decide) (hcl := by rfl) kw434 kw435 kw436 kw38 kw437 (by decide +kernel) rfl dL_law_522 (by decide) (by decide) (by decide) (by decide) (by decide) (fun rr h1 q => ?_)
  obtain ⟨⟨v, rfl⟩, b2⟩ := bo rr h1 q
  obtain ⟨t1, c7⟩ := cm _ h1 q
  refine pw_aload_n C dL_law_525 (r := 134) (S := [.inl v]) rfl ?_
  refine pw_arg C x (j := 1) dL_law_526 dL_law_527 dL_law_528 dL_law_529 dL_law_530 (by omega) (by omega) ?_
  refine pw_callV C (na := 1) (As := [.inl (scv xs i 1)]) (S := [.inl v]) (c := 134) (t := 7) c7 t1 (by decide) (hcl := by rfl) kw778 kw779 kw780 kw45 kw781 (by decide +kernel) rfl dL_law_531 (by decide) (by decide) (by decide) (by decide) (by simp only [List.length_cons, List.length_nil]; omega) (fun r2 h2 q2 => ?_)
  obtain ⟨⟨w, e1, rfl⟩, s2⟩ := b2 r2 h2 q2
  cases e1
  exact pw_icmp_same C 902 dL_law_534 (by decide) (nx h2 s2)
theorem law_11 {G : Gx} {X : Cx} {nm : String} {rt : Option FieldType} {Q : State → Prop} {h : PH} (C : pw_Ctx G X cL_law 4 RL nm rt room_1) {Ln : Nat} {xs : Nat → Int32} (x : ScX G X Ln xs) {i B : Int} (s : Sim h B) (B0 : B ≤ 800000000) (i0 : 0 ≤ i) (i1 : i + 5 ≤ Ln) (nx : ∀ h2, Sim h2 (B + 640) → PW G X 4 Q 140 85706 902 (lawL i) [] h2) : PW G X 4 Q 140 85706 539 (lawL i) [] h := by
  obtain ⟨PQ, MQ, cx, cm, bo⟩ := op_dish G X.2.1 s B0 (scv_r xs i 1) (scv_r xs i 2)
  refine pw_aload_n C dL_law_539 (r := 2) rfl ?_
  refine pw_arg C x (j := 1) dL_law_540 dL_law_541 dL_law_542 dL_law_543 dL_law_544 (by omega) (by omega) ?_
  refine pw_arg C x (j := 2) dL_law_545 dL_law_546 dL_law_547 dL_law_548 dL_law_549 (by omega) (by omega) ?_
  refine pw_callV C (na := 2) (As := [.inl (scv xs i 1), .inl (scv xs i 2)]) (S := []) (c := 2) (t := 6) cx s.tp.1 (by decide) (hcl := by rfl) kw438 kw439 kw440 kw38 kw441 (by decide +kernel) rfl dL_law_550 (by decide) (by decide) (by decide) (by decide) (by decide) (fun rr h1 q => ?_)
  obtain ⟨⟨v, rfl⟩, b2⟩ := bo rr h1 q
  obtain ⟨t1, c7⟩ := cm _ h1 q
  refine pw_aload_n C dL_law_553 (r := 134) (S := [.inl v]) rfl ?_
  refine pw_arg C x (j := 1) dL_law_554 dL_law_555 dL_law_556 dL_law_557 dL_law_558 (by omega) (by omega) ?_
  refine pw_arg C x (j := 2) dL_law_559 dL_law_560 dL_law_561 dL_law_562 dL_law_563 (by omega) (by omega) ?_
  refine pw_callV C (na := 2) (As := [.inl (scv xs i 1), .inl (scv xs i 2)]) (S := [.inl v]) (c := 134) (t := 7) c7 t1 (by decide) (hcl := by rfl) kw782 kw783 kw784 kw45 kw785 (by decide +kernel) rfl dL_law_564 (by decide) (by decide) (by decide) (by decide) (by simp only [List.length_cons, List.length_nil]; omega) (fun r2 h2 q2 => ?_)
  obtain ⟨⟨w, e1, rfl⟩, s2⟩ := b2 r2 h2 q2
  cases e1
  exact pw_icmp_same C 902 dL_law_567 (by decide) (nx h2 s2)
theorem law_12 {G : Gx} {X : Cx} {nm : String} {rt : Option FieldType} {Q : State → Prop} {h : PH} (C : pw_Ctx G X cL_law 4 RL nm rt room_1) {Ln : Nat} {xs : Nat → Int32} (x : ScX G X Ln xs) {i B : Int} (s : Sim h B) (B0 : B ≤ 800000000) (i0 : 0 ≤ i) (i1 : i + 5 ≤ Ln) (nx : ∀ h2, Sim h2 (B + 640) → PW G X 4 Q 140 85706 902 (lawL i) [] h2) : PW G X 4 Q 140 85706 572 (lawL i) [] h := by
  obtain ⟨PQ, MQ, cx, cm, bo⟩ := op_way G X.2.1 s B0 (scv_r xs i 1) (scv_r xs i 2) (scv_r xs i 3)
  refine pw_aload_n C dL_law_572 (r := 2) rfl ?_
  refine pw_arg C x (j := 1) dL_law_573 dL_law_574 dL_law_575 dL_law_576 dL_law_577 (by omega) (by omega) ?_
  refine pw_arg C x (j := 2) dL_law_578 dL_law_579 dL_law_580 dL_law_581 dL_law_582 (by omega) (by omega) ?_
  refine pw_arg C x (j := 3) dL_law_583 dL_law_584 dL_law_585 dL_law_586 dL_law_587 (by omega) (by omega) ?_
  refine pw_callV C (na := 3) (As := [.inl (scv xs i 1), .inl (scv xs i 2), .inl (scv xs i 3)]) (S := []) (c := 2) (t := 6) cx s.tp.1 (by decide) (hcl := by rfl) kw445 kw446 kw447 kw38 kw448 (by decide +kernel) rfl dL_law_588 (by decide) (by decide) (by decide) (by decide) (by decide) (fun rr h1 q => ?_)
  obtain ⟨⟨v, rfl⟩, b2⟩ := bo rr h1 q
  obtain ⟨t1, c7⟩ := cm _ h1 q
  refine pw_aload_n C dL_law_591 (r := 134) (S := [.inl v]) rfl ?_
  refine pw_arg C x (j := 1) dL_law_592 dL_law_593 dL_law_594 dL_law_595 dL_law_596 (by omega) (by omega) ?_
  refine pw_arg C x (j := 2) dL_law_597 dL_law_598 dL_law_599 dL_law_600 dL_law_601 (by omega) (by omega) ?_
  refine pw_arg C x (j := 3) dL_law_602 dL_law_603 dL_law_604 dL_law_605 dL_law_606 (by omega) (by omega) ?_
  refine pw_callV C (na := 3) (As := [.inl (scv xs i 1), .inl (scv xs i 2), .inl (scv xs i 3)]) (S := [.inl v]) (c := 134) (t := 7) c7 t1 (by decide) (hcl := by rfl) kw789 kw790 kw791 kw45 kw792 (by decide +kernel) rfl dL_law_607 (by decide) (by decide) (by decide) (by decide) (by simp only [List.length_cons, List.length_nil]; omega) (fun r2 h2 q2 => ?_)
  obtain ⟨⟨w, e1, rfl⟩, s2⟩ := b2 r2 h2 q2
  cases e1
  exact pw_icmp_same C 902 dL_law_610 (by decide) (nx h2 s2)
theorem law_13 {G : Gx} {X : Cx} {nm : String} {rt : Option FieldType} {Q : State → Prop} {h : PH} (C : pw_Ctx G X cL_law 4 RL nm rt room_1) {Ln : Nat} {xs : Nat → Int32} (x : ScX G X Ln xs) {i B : Int} (s : Sim h B) (B0 : B ≤ 800000000) (i0 : 0 ≤ i) (i1 : i + 5 ≤ Ln) (nx : ∀ h2, Sim h2 (B + 640) → PW G X 4 Q 140 85706 902 (lawL i) [] h2) : PW G X 4 Q 140 85706 615 (lawL i) [] h := by
  obtain ⟨PQ, MQ, cx, cm, bo⟩ := op_where G X.2.1 s B0 (scv_r xs i 1) (scv_r xs i 2) (scv_r xs i 3) (scv_r xs i 4)
  refine pw_aload_n C dL_law_615 (r := 2) rfl ?_
  refine pw_arg C x (j := 1) dL_law_616 dL_law_617 dL_law_618 dL_law_619 dL_law_620 (by omega) (by omega) ?_
  refine pw_arg C x (j := 2) dL_law_621 dL_law_622 dL_law_623 dL_law_624 dL_law_625 (by omega) (by omega) ?_
  refine pw_arg C x (j := 3) dL_law_626 dL_law_627 dL_law_628 dL_law_629 dL_law_630 (by omega) (by omega) ?_
  refine pw_arg C x (j := 4) dL_law_631 dL_law_632 dL_law_633 dL_law_634 dL_law_635 (by omega) (by omega) ?_
  refine pw_callV C (na := 4) (As := [.inl (scv xs i 1), .inl (scv xs i 2), .inl (scv xs i 3), .inl (scv xs i 4)]) (S := []) (c := 2) (t := 6) cx s.tp.1 (by decide) (hcl := by rfl) kw559 kw560 kw561 kw38 kw562 (by decide +kernel) rfl dL_law_636 (by decide) (by decide) (by decide) (by decide) (by decide) (fun rr h1 q => ?_)
  obtain ⟨⟨v, rfl⟩, b2⟩ := bo rr h1 q
  obtain ⟨t1, c7⟩ := cm _ h1 q
  refine pw_aload_n C dL_law_639 (r := 134) (S := [.inl v]) rfl ?_
  refine pw_arg C x (j := 1) dL_law_640 dL_law_641 dL_law_642 dL_law_643 dL_law_644 (by omega) (by omega) ?_
  refine pw_arg C x (j := 2) dL_law_645 dL_law_646 dL_law_647 dL_law_648 dL_law_649 (by omega) (by omega) ?_
  refine pw_arg C x (j := 3) dL_law_650 dL_law_651 dL_law_652 dL_law_653 dL_law_654 (by omega) (by omega) ?_
  refine pw_arg C x (j := 4) dL_law_655 dL_law_656 dL_law_657 dL_law_658 dL_law_659 (by omega) (by omega) ?_
  refine pw_callV C (na := 4) (As := [.inl (scv xs i 1), .inl (scv xs i 2), .inl (scv xs i 3), .inl (scv xs i 4)]) (S := [.inl v]) (c := 134) (t := 7) c7 t1 (by decide) (hcl := by rfl) kw847 kw848 kw849 kw45 kw850 (by decide +kernel) rfl dL_law_660 (by decide) (by decide) (by decide) (by decide) (by simp only [List.length_cons, List.length_nil]; omega) (fun r2 h2 q2 => ?_)
  obtain ⟨⟨w, e1, rfl⟩, s2⟩ := b2 r2 h2 q2
  cases e1
  exact pw_icmp_same C 902 dL_law_663 (by decide) (nx h2 s2)
theorem law_14 {G : Gx} {X : Cx} {nm : String} {rt : Option FieldType} {Q : State → Prop} {h : PH} (C : pw_Ctx G X cL_law 4 RL nm rt room_1) {Ln : Nat} {xs : Nat → Int32} (x : ScX G X Ln xs) {i B : Int} (s : Sim h B) (B0 : B ≤ 800000000) (i0 : 0 ≤ i) (i1 : i + 5 ≤ Ln) (nx : ∀ h2, Sim h2 (B + 640) → PW G X 4 Q 140 85706 902 (lawL i) [] h2) : PW G X 4 Q 140 85706 668 (lawL i) [] h := by
  obtain ⟨PQ, MQ, cx, cm, bo⟩ := op_offer G X.2.1 s B0 (scv_r xs i 1) (scv_r xs i 2)
  refine pw_aload_n C dL_law_668 (r := 2) rfl ?_
  refine pw_arg C x (j := 1) dL_law_669 dL_law_670 dL_law_671 dL_law_672 dL_law_673 (by omega) (by omega) ?_
  refine pw_arg C x (j := 2) dL_law_674 dL_law_675 dL_law_676 dL_law_677 dL_law_678 (by omega) (by omega) ?_
  refine pw_callV C (na := 2) (As := [.inl (scv xs i 1), .inl (scv xs i 2)]) (S := []) (c := 2) (t := 6) cx s.tp.1 (by decide) (hcl := by rfl) kw563 kw564 kw565 kw38 kw566 (by decide +kernel) rfl dL_law_679 (by decide) (by decide) (by decide) (by decide) (by decide) (fun rr h1 q => ?_)
  obtain ⟨⟨v, rfl⟩, b2⟩ := bo rr h1 q
  obtain ⟨t1, c7⟩ := cm _ h1 q
  refine pw_aload_n C dL_law_682 (r := 134) (S := [.inl v]) rfl ?_
  refine pw_arg C x (j := 1) dL_law_683 dL_law_684 dL_law_685 dL_law_686 dL_law_687 (by omega) (by omega) ?_
  refine pw_arg C x (j := 2) dL_law_688 dL_law_689 dL_law_690 dL_law_691 dL_law_692 (by omega) (by omega) ?_
  refine pw_callV C (na := 2) (As := [.inl (scv xs i 1), .inl (scv xs i 2)]) (S := [.inl v]) (c := 134) (t := 7) c7 t1 (by decide) (hcl := by rfl) kw851 kw852 kw853 kw45 kw854 (by decide +kernel) rfl dL_law_693 (by decide) (by decide) (by decide) (by decide) (by simp only [List.length_cons, List.length_nil]; omega) (fun r2 h2 q2 => ?_)
  obtain ⟨⟨w, e1, rfl⟩, s2⟩ := b2 r2 h2 q2
  cases e1
  exact pw_icmp_same C 902 dL_law_696 (by decide) (nx h2 s2)
theorem law_15 {G : Gx} {X : Cx} {nm : String} {rt : Option FieldType} {Q : State → Prop} {h : PH} (C : pw_Ctx G X cL_law 4 RL nm rt room_1) {Ln : Nat} {xs : Nat → Int32} (x : ScX G X Ln xs) {i B : Int} (s : Sim h B) (B0 : B ≤ 800000000) (i0 : 0 ≤ i) (i1 : i + 5 ≤ Ln) (nx : ∀ h2, Sim h2 (B + 640) → PW G X 4 Q 140 85706 902 (lawL i) [] h2) : PW G X 4 Q 140 85706 701 (lawL i) [] h := by
  obtain ⟨PQ, MQ, cx, cm, bo⟩ := op_share G X.2.1 s B0 (scv_r xs i 1) (scv_r xs i 2) (scv_r xs i 3) (scv_r xs i 4)
  refine pw_aload_n C dL_law_701 (r := 2) rfl ?_
  refine pw_arg C x (j := 1) dL_law_702 dL_law_703 dL_law_704 dL_law_705 dL_law_706 (by omega) (by omega) ?_
  refine pw_arg C x (j := 2) dL_law_707 dL_law_708 dL_law_709 dL_law_710 dL_law_711 (by omega) (by omega) ?_
  refine pw_arg C x (j := 3) dL_law_712 dL_law_713 dL_law_714 dL_law_715 dL_law_716 (by omega) (by omega) ?_
  refine pw_arg C x (j := 4) dL_law_717 dL_law_718 dL_law_719 dL_law_720 dL_law_721 (by omega) (by omega) ?_
  refine pw_callV C (na := 4) (As := [.inl (scv xs i 1), .inl (scv xs i 2), .inl (scv xs i 3), .inl (scv xs i 4)]) (S := []) (c := 2) (t := 6) cx s.tp.1 (by decide) (hcl := by rfl) kw575 kw576 kw577 kw38 kw578 (by decide +kernel) rfl dL_law_722 (by decide) (by decide) (by decide) (by decide) (by decide) (fun rr h1 q => ?_)
  obtain ⟨⟨v, rfl⟩, b2⟩ := bo rr h1 q
  obtain ⟨t1, c7⟩ := cm _ h1 q
  refine pw_aload_n C dL_law_725 (r := 134) (S := [.inl v]) rfl ?_
  refine pw_arg C x (j := 1) dL_law_726 dL_law_727 dL_law_728 dL_law_729 dL_law_730 (by omega) (by omega) ?_
  refine pw_arg C x (j := 2) dL_law_731 dL_law_732 dL_law_733 dL_law_734 dL_law_735 (by omega) (by omega) ?_
  refine pw_arg C x (j := 3) dL_law_736 dL_law_737 dL_law_738 dL_law_739 dL_law_740 (by omega) (by omega) ?_
  refine pw_arg C x (j := 4) dL_law_741 dL_law_742 dL_law_743 dL_law_744 dL_law_745 (by omega) (by omega) ?_
  refine pw_callV C (na := 4) (As := [.inl (scv xs i 1), .inl (scv xs i 2), .inl (scv xs i 3), .inl (scv xs i 4)]) (S := [.inl v]) (c := 134) (t := 7) c7 t1 (by decide) (hcl := by rfl) kw859 kw860 kw861 kw45 kw862 (by decide +kernel) rfl dL_law_746 (by decide) (by decide) (by decide) (by decide) (by simp only [List.length_cons, List.length_nil]; omega) (fun r2 h2 q2 => ?_)
  obtain ⟨⟨w, e1, rfl⟩, s2⟩ := b2 r2 h2 q2
  cases e1
  exact pw_icmp_same C 902 dL_law_749 (by decide) (nx h2 s2)
theorem law_16 {G : Gx} {X : Cx} {nm : String} {rt : Option FieldType} {Q : State → Prop} {h : PH} (C : pw_Ctx G X cL_law 4 RL nm rt room_1) {Ln : Nat} {xs : Nat → Int32} (x : ScX G X Ln xs) {i B : Int} (s : Sim h B) (B0 : B ≤ 800000000) (i0 : 0 ≤ i) (i1 : i + 5 ≤ Ln) (nx : ∀ h2, Sim h2 (B + 640) → PW G X 4 Q 140 85706 902 (lawL i) [] h2) : PW G X 4 Q 140 85706 754 (lawL i) [] h := by
  obtain ⟨PQ, MQ, cx, cm, bo⟩ := op_take G X.2.1 s B0 (scv_r xs i 1) (scv_r xs i 2)
  refine pw_aload_n C dL_law_754 (r := 2) rfl ?_
  refine pw_arg C x (j := 1) dL_law_755 dL_law_756 dL_law_757 dL_law_758 dL_law_759 (by omega) (by omega) ?_
  refine pw_arg C x (j := 2) dL_law_760 dL_law_761 dL_law_762 dL_law_763 dL_law_764 (by omega) (by omega) ?_
  refine pw_callV C (na := 2) (As := [.inl (scv xs i 1), .inl (scv xs i 2)]) (S := []) (c := 2) (t := 6) cx s.tp.1 (by decide) (hcl := by rfl) kw595 kw596 kw597 kw38 kw598 (by decide +kernel) rfl dL_law_765 (by decide) (by decide) (by decide) (by decide) (by decide) (fun rr h1 q => ?_)
  obtain ⟨⟨v, rfl⟩, b2⟩ := bo rr h1 q
  obtain ⟨t1, c7⟩ := cm _ h1 q
  refine pw_aload_n C dL_law_768 (r := 134) (S := [.inl v]) rfl ?_
  refine pw_arg C x (j := 1) dL_law_769 dL_law_770 dL_law_771 dL_law_772 dL_law_773 (by omega) (by omega) ?_
  refine pw_arg C x (j := 2) dL_law_774 dL_law_775 dL_law_776 dL_law_777 dL_law_778 (by omega) (by omega) ?_
  refine pw_callV C (na := 2) (As := [.inl (scv xs i 1), .inl (scv xs i 2)]) (S := [.inl v]) (c := 134) (t := 7) c7 t1 (by decide) (hcl := by rfl) kw867 kw868 kw869 kw45 kw870 (by decide +kernel) rfl dL_law_779 (by decide) (by decide) (by decide) (by decide) (by simp only [List.length_cons, List.length_nil]; omega) (fun r2 h2 q2 => ?_)
  obtain ⟨⟨w, e1, rfl⟩, s2⟩ := b2 r2 h2 q2
  cases e1
  exact pw_icmp_same C 902 dL_law_782 (by decide) (nx h2 s2)
theorem law_17 {G : Gx} {X : Cx} {nm : String} {rt : Option FieldType} {Q : State → Prop} {h : PH} (C : pw_Ctx G X cL_law 4 RL nm rt room_1) {Ln : Nat} {xs : Nat → Int32} (x : ScX G X Ln xs) {i B : Int} (s : Sim h B) (B0 : B ≤ 800000000) (i0 : 0 ≤ i) (i1 : i + 5 ≤ Ln) (nx : ∀ h2, Sim h2 (B + 640) → PW G X 4 Q 140 85706 902 (lawL i) [] h2) : PW G X 4 Q 140 85706 787 (lawL i) [] h := by
  obtain ⟨PQ, MQ, cx, cm, bo⟩ := op_round G X.2.1 s B0 
  refine pw_aload_n C dL_law_787 (r := 2) rfl ?_
  refine pw_callV C (na := 0) (As := []) (S := []) (c := 2) (t := 6) cx s.tp.1 (by decide) (hcl := by rfl) kw603 kw604 kw605 kw38 kw606 (by decide +kernel) rfl dL_law_788 (by decide) (by decide) (by decide) (by decide) (by decide) (fun rr h1 q => ?_)
  obtain ⟨⟨v, rfl⟩, b2⟩ := bo rr h1 q
  obtain ⟨t1, c7⟩ := cm _ h1 q
  refine pw_aload_n C dL_law_791 (r := 134) (S := [.inl v]) rfl ?_
  refine pw_callV C (na := 0) (As := []) (S := [.inl v]) (c := 134) (t := 7) c7 t1 (by decide) (hcl := by rfl) kw875 kw876 kw877 kw45 kw878 (by decide +kernel) rfl dL_law_792 (by decide) (by decide) (by decide) (by decide) (by simp only [List.length_cons, List.length_nil]; omega) (fun r2 h2 q2 => ?_)
  obtain ⟨⟨w, e1, rfl⟩, s2⟩ := b2 r2 h2 q2
  cases e1
  exact pw_icmp_same C 902 dL_law_795 (by decide) (nx h2 s2)
theorem law_18 {G : Gx} {X : Cx} {nm : String} {rt : Option FieldType} {Q : State → Prop} {h : PH} (C : pw_Ctx G X cL_law 4 RL nm rt room_1) {Ln : Nat} {xs : Nat → Int32} (x : ScX G X Ln xs) {i B : Int} (s : Sim h B) (B0 : B ≤ 800000000) (i0 : 0 ≤ i) (i1 : i + 5 ≤ Ln) (nx : ∀ h2, Sim h2 (B + 640) → PW G X 4 Q 140 85706 902 (lawL i) [] h2) : PW G X 4 Q 140 85706 800 (lawL i) [] h := by
  obtain ⟨PQ, MQ, cx, cm, bo⟩ := op_looked G X.2.1 s B0 (scv_r xs i 1) (scv_r xs i 2)
  refine pw_aload_n C dL_law_800 (r := 2) rfl ?_
  refine pw_arg C x (j := 1) dL_law_801 dL_law_802 dL_law_803 dL_law_804 dL_law_805 (by omega) (by omega) ?_
  refine pw_arg C x (j := 2) dL_law_806 dL_law_807 dL_law_808 dL_law_809 dL_law_810 (by omega) (by omega) ?_
  refine pw_callV C (na := 2) (As := [.inl (scv xs i 1), .inl (scv xs i 2)]) (S := []) (c := 2) (t := 6) cx s.tp.1 (by decide) (hcl := by rfl) kw612 kw613 kw614 kw38 kw615 (by decide +kernel) rfl dL_law_811 (by decide) (by decide) (by decide) (by decide) (by decide) (fun rr h1 q => ?_)
  obtain ⟨⟨v, rfl⟩, b2⟩ := bo rr h1 q
  obtain ⟨t1, c7⟩ := cm _ h1 q
  refine pw_aload_n C dL_law_814 (r := 134) (S := [.inl v]) rfl ?_
  refine pw_arg C x (j := 1) dL_law_815 dL_law_816 dL_law_817 dL_law_818 dL_law_819 (by omega) (by omega) ?_
  refine pw_arg C x (j := 2) dL_law_820 dL_law_821 dL_law_822 dL_law_823 dL_law_824 (by omega) (by omega) ?_
  refine pw_callV C (na := 2) (As := [.inl (scv xs i 1), .inl (scv xs i 2)]) (S := [.inl v]) (c := 134) (t := 7) c7 t1 (by decide) (hcl := by rfl) kw883 kw884 kw885 kw45 kw886 (by decide +kernel) rfl dL_law_825 (by decide) (by decide) (by decide) (by decide) (by simp only [List.length_cons, List.length_nil]; omega) (fun r2 h2 q2 => ?_)
  obtain ⟨⟨w, e1, rfl⟩, s2⟩ := b2 r2 h2 q2
  cases e1
  exact pw_icmp_same C 902 dL_law_828 (by decide) (nx h2 s2)
theorem law_19 {G : Gx} {X : Cx} {nm : String} {rt : Option FieldType} {Q : State → Prop} {h : PH} (C : pw_Ctx G X cL_law 4 RL nm rt room_1) {Ln : Nat} {xs : Nat → Int32} (x : ScX G X Ln xs) {i B : Int} (s : Sim h B) (B0 : B ≤ 800000000) (i0 : 0 ≤ i) (i1 : i + 5 ≤ Ln) (nx : ∀ h2, Sim h2 (B + 640) → PW G X 4 Q 140 85706 902 (lawL i) [] h2) : PW G X 4 Q 140 85706 833 (lawL i) [] h := by
  obtain ⟨PQ, MQ, cx, cm, bo⟩ := op_count G X.2.1 s B0 (scv_r xs i 1)
  refine pw_aload_n C dL_law_833 (r := 2) rfl ?_
  refine pw_arg C x (j := 1) dL_law_834 dL_law_835 dL_law_836 dL_law_837 dL_law_838 (by omega) (by omega) ?_
  refine pw_callV C (na := 1) (As := [.inl (scv xs i 1)]) (S := []) (c := 2) (t := 6) cx s.tp.1 (by decide) (hcl := by rfl) kw616 kw617 kw618 kw38 kw619 (by decide +kernel) rfl dL_law_839 (by decide) (by decide) (by decide) (by decide) (by decide) (fun rr h1 q => ?_)
  obtain ⟨⟨v, rfl⟩, b2⟩ := bo rr h1 q
  obtain ⟨t1, c7⟩ := cm _ h1 q
  refine pw_aload_n C dL_law_842 (r := 134) (S := [.inl v]) rfl ?_
  refine pw_arg C x (j := 1) dL_law_843 dL_law_844 dL_law_845 dL_law_846 dL_law_847 (by omega) (by omega) ?_
  refine pw_callV C (na := 1) (As := [.inl (scv xs i 1)]) (S := [.inl v]) (c := 134) (t := 7) c7 t1 (by decide) (hcl := by rfl) kw887 kw888 kw889 kw45 kw890 (by decide +kernel) rfl dL_law_848 (by decide) (by decide) (by decide) (by decide) (by simp only [List.length_cons, List.length_nil]; omega) (fun r2 h2 q2 => ?_)
  obtain ⟨⟨w, e1, rfl⟩, s2⟩ := b2 r2 h2 q2
  cases e1
  exact pw_icmp_same C 902 dL_law_851 (by decide) (nx h2 s2)
theorem law_20 {G : Gx} {X : Cx} {nm : String} {rt : Option FieldType} {Q : State → Prop} {h : PH} (C : pw_Ctx G X cL_law 4 RL nm rt room_1) {Ln : Nat} {xs : Nat → Int32} (x : ScX G X Ln xs) {i B : Int} (s : Sim h B) (B0 : B ≤ 800000000) (i0 : 0 ≤ i) (i1 : i + 5 ≤ Ln) (nx : ∀ h2, Sim h2 (B + 640) → PW G X 4 Q 140 85706 902 (lawL i) [] h2) : PW G X 4 Q 140 85706 856 (lawL i) [] h := by
  obtain ⟨PQ, MQ, cx, cm, bo⟩ := op_image G X.2.1 s B0 (scv_r xs i 1)
  refine pw_aload_n C dL_law_856 (r := 2) rfl ?_
  refine pw_arg C x (j := 1) dL_law_857 dL_law_858 dL_law_859 dL_law_860 dL_law_861 (by omega) (by omega) ?_
  refine pw_callV C (na := 1) (As := [.inl (scv xs i 1)]) (S := []) (c := 2) (t := 6) cx s.tp.1 (by decide) (hcl := by rfl) kw641 kw642 kw643 kw38 kw644 (by decide +kernel) rfl dL_law_862 (by decide) (by decide) (by decide) (by decide) (by decide) (fun rr h1 q => ?_)
  obtain ⟨⟨v, rfl⟩, b2⟩ := bo rr h1 q
  obtain ⟨t1, c7⟩ := cm _ h1 q
  refine pw_aload_n C dL_law_865 (r := 134) (S := [.inl v]) rfl ?_
  refine pw_arg C x (j := 1) dL_law_866 dL_law_867 dL_law_868 dL_law_869 dL_law_870 (by omega) (by omega) ?_
  refine pw_callV C (na := 1) (As := [.inl (scv xs i 1)]) (S := [.inl v]) (c := 134) (t := 7) c7 t1 (by decide) (hcl := by rfl) kw903 kw904 kw905 kw45 kw906 (by decide +kernel) rfl dL_law_871 (by decide) (by decide) (by decide) (by decide) (by simp only [List.length_cons, List.length_nil]; omega) (fun r2 h2 q2 => ?_)
  obtain ⟨⟨w, e1, rfl⟩, s2⟩ := b2 r2 h2 q2
  cases e1
  exact pw_icmp_same C 902 dL_law_874 (by decide) (nx h2 s2)
theorem law_21 {G : Gx} {X : Cx} {nm : String} {rt : Option FieldType} {Q : State → Prop} {h : PH} (C : pw_Ctx G X cL_law 4 RL nm rt room_1) {Ln : Nat} {xs : Nat → Int32} (x : ScX G X Ln xs) {i B : Int} (s : Sim h B) (B0 : B ≤ 800000000) (i0 : 0 ≤ i) (i1 : i + 5 ≤ Ln) (nx : ∀ h2, Sim h2 (B + 640) → PW G X 4 Q 140 85706 902 (lawL i) [] h2) : PW G X 4 Q 140 85706 879 (lawL i) [] h := by
  obtain ⟨PQ, MQ, cx, cm, bo⟩ := op_restore G X.2.1 s B0 (scv_r xs i 1)
  refine pw_aload_n C dL_law_879 (r := 2) rfl ?_
  refine pw_arg C x (j := 1) dL_law_880 dL_law_881 dL_law_882 dL_law_883 dL_law_884 (by omega) (by omega) ?_
  refine pw_callV C (na := 1) (As := [.inl (scv xs i 1)]) (S := []) (c := 2) (t := 6) cx s.tp.1 (by decide) (hcl := by rfl) kw667 kw668 kw669 kw38 kw670 (by decide +kernel) rfl dL_law_885 (by decide) (by decide) (by decide) (by decide) (by decide) (fun rr h1 q => ?_)
  obtain ⟨⟨v, rfl⟩, b2⟩ := bo rr h1 q
  obtain ⟨t1, c7⟩ := cm _ h1 q
  refine pw_aload_n C dL_law_888 (r := 134) (S := [.inl v]) rfl ?_
  refine pw_arg C x (j := 1) dL_law_889 dL_law_890 dL_law_891 dL_law_892 dL_law_893 (by omega) (by omega) ?_
  refine pw_callV C (na := 1) (As := [.inl (scv xs i 1)]) (S := [.inl v]) (c := 134) (t := 7) c7 t1 (by decide) (hcl := by rfl) kw907 kw908 kw909 kw45 kw910 (by decide +kernel) rfl dL_law_894 (by decide) (by decide) (by decide) (by decide) (by simp only [List.length_cons, List.length_nil]; omega) (fun r2 h2 q2 => ?_)
  obtain ⟨⟨w, e1, rfl⟩, s2⟩ := b2 r2 h2 q2
  cases e1
  exact pw_icmp_same C 902 dL_law_897 (by decide) (nx h2 s2)
