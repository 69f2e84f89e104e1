theorem dX9_law_0 : decode cX9_law 0 = .ok (.new 7, 3) := by decide +kernel
theorem dX9_law_3 : decode cX9_law 3 = .ok (.dup, 1) := by decide +kernel
theorem dX9_law_4 : decode cX9_law 4 = .ok (.invokespecial 9, 3) := by decide +kernel
theorem dX9_law_7 : decode cX9_law 7 = .ok (.astore_n 1, 1) := by decide +kernel
theorem dX9_law_8 : decode cX9_law 8 = .ok (.new 10, 3) := by decide +kernel
theorem dX9_law_11 : decode cX9_law 11 = .ok (.dup, 1) := by decide +kernel
theorem dX9_law_12 : decode cX9_law 12 = .ok (.invokespecial 12, 3) := by decide +kernel
theorem dX9_law_15 : decode cX9_law 15 = .ok (.astore_n 2, 1) := by decide +kernel
theorem dX9_law_16 : decode cX9_law 16 = .ok (.iconst 0, 1) := by decide +kernel
theorem dX9_law_17 : decode cX9_law 17 = .ok (.istore_n 3, 1) := by decide +kernel
theorem dX9_law_18 : decode cX9_law 18 = .ok (.iload_n 3, 1) := by decide +kernel
theorem dX9_law_19 : decode cX9_law 19 = .ok (.aload_n 0, 1) := by decide +kernel
theorem dX9_law_20 : decode cX9_law 20 = .ok (.arraylength, 1) := by decide +kernel
theorem dX9_law_21 : decode cX9_law 21 = .ok (.bipush 6, 2) := by decide +kernel
theorem dX9_law_23 : decode cX9_law 23 = .ok (.isub, 1) := by decide +kernel
theorem dX9_law_24 : decode cX9_law 24 = .ok (.if_icmp .gt 934, 3) := by decide +kernel
theorem dX9_law_27 : decode cX9_law 27 = .ok (.aload_n 0, 1) := by decide +kernel
theorem dX9_law_28 : decode cX9_law 28 = .ok (.iload_n 3, 1) := by decide +kernel
theorem dX9_law_29 : decode cX9_law 29 = .ok (.iaload, 1) := by decide +kernel
theorem dX9_law_30 : decode cX9_law 30 = .ok (.bipush 31, 2) := by decide +kernel
theorem dX9_law_32 : decode cX9_law 32 = .ok (.iand, 1) := by decide +kernel
theorem dX9_law_33 : decode cX9_law 33 = .ok (.tableswitch 919 0 19 #[95, 108, 201, 294, 348, 451, 494, 557, 570, 633, 656, 689, 712, 725, 738, 761, 785, 829, 863, 896], 95) := by decide +kernel
theorem dX9_law_128 : decode cX9_law 128 = .ok (.aload_n 1, 1) := by decide +kernel
theorem dX9_law_129 : decode cX9_law 129 = .ok (.invokevirtual 13, 3) := by decide +kernel
theorem dX9_law_132 : decode cX9_law 132 = .ok (.aload_n 2, 1) := by decide +kernel
theorem dX9_law_133 : decode cX9_law 133 = .ok (.invokevirtual 17, 3) := by decide +kernel
theorem dX9_law_136 : decode cX9_law 136 = .ok (.if_icmp .eq 816, 3) := by decide +kernel
theorem dX9_law_139 : decode cX9_law 139 = .ok (.iconst 0, 1) := by decide +kernel
theorem dX9_law_140 : decode cX9_law 140 = .ok (.ireturn, 1) := by decide +kernel
theorem dX9_law_141 : decode cX9_law 141 = .ok (.aload_n 1, 1) := by decide +kernel
theorem dX9_law_142 : decode cX9_law 142 = .ok (.aload_n 0, 1) := by decide +kernel
theorem dX9_law_143 : decode cX9_law 143 = .ok (.iload_n 3, 1) := by decide +kernel
theorem dX9_law_144 : decode cX9_law 144 = .ok (.iconst 1, 1) := by decide +kernel
theorem dX9_law_145 : decode cX9_law 145 = .ok (.iadd, 1) := by decide +kernel
theorem dX9_law_146 : decode cX9_law 146 = .ok (.iaload, 1) := by decide +kernel
theorem dX9_law_147 : decode cX9_law 147 = .ok (.i2l, 1) := by decide +kernel
theorem dX9_law_148 : decode cX9_law 148 = .ok (.bipush 32, 2) := by decide +kernel
theorem dX9_law_150 : decode cX9_law 150 = .ok (.lshl, 1) := by decide +kernel
theorem dX9_law_151 : decode cX9_law 151 = .ok (.aload_n 0, 1) := by decide +kernel
theorem dX9_law_152 : decode cX9_law 152 = .ok (.iload_n 3, 1) := by decide +kernel
theorem dX9_law_153 : decode cX9_law 153 = .ok (.iconst 2, 1) := by decide +kernel
theorem dX9_law_154 : decode cX9_law 154 = .ok (.iadd, 1) := by decide +kernel
theorem dX9_law_155 : decode cX9_law 155 = .ok (.iaload, 1) := by decide +kernel
theorem dX9_law_156 : decode cX9_law 156 = .ok (.i2l, 1) := by decide +kernel
theorem dX9_law_157 : decode cX9_law 157 = .ok (.ldc2_w 18, 3) := by decide +kernel
theorem dX9_law_160 : decode cX9_law 160 = .ok (.land, 1) := by decide +kernel
theorem dX9_law_161 : decode cX9_law 161 = .ok (.lor, 1) := by decide +kernel
theorem dX9_law_162 : decode cX9_law 162 = .ok (.aload_n 0, 1) := by decide +kernel
theorem dX9_law_163 : decode cX9_law 163 = .ok (.iload_n 3, 1) := by decide +kernel
theorem dX9_law_164 : decode cX9_law 164 = .ok (.iconst 3, 1) := by decide +kernel
theorem dX9_law_165 : decode cX9_law 165 = .ok (.iadd, 1) := by decide +kernel
theorem dX9_law_166 : decode cX9_law 166 = .ok (.iaload, 1) := by decide +kernel
theorem dX9_law_167 : decode cX9_law 167 = .ok (.i2l, 1) := by decide +kernel
theorem dX9_law_168 : decode cX9_law 168 = .ok (.bipush 32, 2) := by decide +kernel
theorem dX9_law_170 : decode cX9_law 170 = .ok (.lshl, 1) := by decide +kernel
theorem dX9_law_171 : decode cX9_law 171 = .ok (.aload_n 0, 1) := by decide +kernel
theorem dX9_law_172 : decode cX9_law 172 = .ok (.iload_n 3, 1) := by decide +kernel
theorem dX9_law_173 : decode cX9_law 173 = .ok (.iconst 4, 1) := by decide +kernel
theorem dX9_law_174 : decode cX9_law 174 = .ok (.iadd, 1) := by decide +kernel
theorem dX9_law_175 : decode cX9_law 175 = .ok (.iaload, 1) := by decide +kernel
theorem dX9_law_176 : decode cX9_law 176 = .ok (.i2l, 1) := by decide +kernel
theorem dX9_law_177 : decode cX9_law 177 = .ok (.ldc2_w 18, 3) := by decide +kernel
theorem dX9_law_180 : decode cX9_law 180 = .ok (.land, 1) := by decide +kernel
theorem dX9_law_181 : decode cX9_law 181 = .ok (.lor, 1) := by decide +kernel
theorem dX9_law_182 : decode cX9_law 182 = .ok (.invokevirtual 20, 3) := by decide +kernel
theorem dX9_law_185 : decode cX9_law 185 = .ok (.aload_n 2, 1) := by decide +kernel
theorem dX9_law_186 : decode cX9_law 186 = .ok (.aload_n 0, 1) := by decide +kernel
theorem dX9_law_187 : decode cX9_law 187 = .ok (.iload_n 3, 1) := by decide +kernel
theorem dX9_law_188 : decode cX9_law 188 = .ok (.iconst 1, 1) := by decide +kernel
theorem dX9_law_189 : decode cX9_law 189 = .ok (.iadd, 1) := by decide +kernel
theorem dX9_law_190 : decode cX9_law 190 = .ok (.iaload, 1) := by decide +kernel
theorem dX9_law_191 : decode cX9_law 191 = .ok (.i2l, 1) := by decide +kernel
theorem dX9_law_192 : decode cX9_law 192 = .ok (.bipush 32, 2) := by decide +kernel
theorem dX9_law_194 : decode cX9_law 194 = .ok (.lshl, 1) := by decide +kernel
theorem dX9_law_195 : decode cX9_law 195 = .ok (.aload_n 0, 1) := by decide +kernel
theorem dX9_law_196 : decode cX9_law 196 = .ok (.iload_n 3, 1) := by decide +kernel
theorem dX9_law_197 : decode cX9_law 197 = .ok (.iconst 2, 1) := by decide +kernel
theorem dX9_law_198 : decode cX9_law 198 = .ok (.iadd, 1) := by decide +kernel
theorem dX9_law_199 : decode cX9_law 199 = .ok (.iaload, 1) := by decide +kernel
theorem dX9_law_200 : decode cX9_law 200 = .ok (.i2l, 1) := by decide +kernel
theorem dX9_law_201 : decode cX9_law 201 = .ok (.ldc2_w 18, 3) := by decide +kernel
theorem dX9_law_204 : decode cX9_law 204 = .ok (.land, 1) := by decide +kernel
theorem dX9_law_205 : decode cX9_law 205 = .ok (.lor, 1) := by decide +kernel
theorem dX9_law_206 : decode cX9_law 206 = .ok (.aload_n 0, 1) := by decide +kernel
theorem dX9_law_207 : decode cX9_law 207 = .ok (.iload_n 3, 1) := by decide +kernel
theorem dX9_law_208 : decode cX9_law 208 = .ok (.iconst 3, 1) := by decide +kernel
theorem dX9_law_209 : decode cX9_law 209 = .ok (.iadd, 1) := by decide +kernel
theorem dX9_law_210 : decode cX9_law 210 = .ok (.iaload, 1) := by decide +kernel
theorem dX9_law_211 : decode cX9_law 211 = .ok (.i2l, 1) := by decide +kernel
theorem dX9_law_212 : decode cX9_law 212 = .ok (.bipush 32, 2) := by decide +kernel
theorem dX9_law_214 : decode cX9_law 214 = .ok (.lshl, 1) := by decide +kernel
theorem dX9_law_215 : decode cX9_law 215 = .ok (.aload_n 0, 1) := by decide +kernel
theorem dX9_law_216 : decode cX9_law 216 = .ok (.iload_n 3, 1) := by decide +kernel
theorem dX9_law_217 : decode cX9_law 217 = .ok (.iconst 4, 1) := by decide +kernel
theorem dX9_law_218 : decode cX9_law 218 = .ok (.iadd, 1) := by decide +kernel
theorem dX9_law_219 : decode cX9_law 219 = .ok (.iaload, 1) := by decide +kernel
theorem dX9_law_220 : decode cX9_law 220 = .ok (.i2l, 1) := by decide +kernel
theorem dX9_law_221 : decode cX9_law 221 = .ok (.ldc2_w 18, 3) := by decide +kernel
theorem dX9_law_224 : decode cX9_law 224 = .ok (.land, 1) := by decide +kernel
theorem dX9_law_225 : decode cX9_law 225 = .ok (.lor, 1) := by decide +kernel
theorem dX9_law_226 : decode cX9_law 226 = .ok (.invokevirtual 24, 3) := by decide +kernel
theorem dX9_law_229 : decode cX9_law 229 = .ok (.if_icmp .eq 723, 3) := by decide +kernel
theorem dX9_law_232 : decode cX9_law 232 = .ok (.iconst 0, 1) := by decide +kernel
theorem dX9_law_233 : decode cX9_law 233 = .ok (.ireturn, 1) := by decide +kernel
theorem dX9_law_234 : decode cX9_law 234 = .ok (.aload_n 1, 1) := by decide +kernel
theorem dX9_law_235 : decode cX9_law 235 = .ok (.aload_n 0, 1) := by decide +kernel
theorem dX9_law_236 : decode cX9_law 236 = .ok (.iload_n 3, 1) := by decide +kernel
theorem dX9_law_237 : decode cX9_law 237 = .ok (.iconst 1, 1) := by decide +kernel
theorem dX9_law_238 : decode cX9_law 238 = .ok (.iadd, 1) := by decide +kernel
theorem dX9_law_239 : decode cX9_law 239 = .ok (.iaload, 1) := by decide +kernel
theorem dX9_law_240 : decode cX9_law 240 = .ok (.i2l, 1) := by decide +kernel
theorem dX9_law_241 : decode cX9_law 241 = .ok (.bipush 32, 2) := by decide +kernel
theorem dX9_law_243 : decode cX9_law 243 = .ok (.lshl, 1) := by decide +kernel
theorem dX9_law_244 : decode cX9_law 244 = .ok (.aload_n 0, 1) := by decide +kernel
theorem dX9_law_245 : decode cX9_law 245 = .ok (.iload_n 3, 1) := by decide +kernel
theorem dX9_law_246 : decode cX9_law 246 = .ok (.iconst 2, 1) := by decide +kernel
theorem dX9_law_247 : decode cX9_law 247 = .ok (.iadd, 1) := by decide +kernel
theorem dX9_law_248 : decode cX9_law 248 = .ok (.iaload, 1) := by decide +kernel
theorem dX9_law_249 : decode cX9_law 249 = .ok (.i2l, 1) := by decide +kernel
theorem dX9_law_250 : decode cX9_law 250 = .ok (.ldc2_w 18, 3) := by decide +kernel
theorem dX9_law_253 : decode cX9_law 253 = .ok (.land, 1) := by decide +kernel
theorem dX9_law_254 : decode cX9_law 254 = .ok (.lor, 1) := by decide +kernel
theorem dX9_law_255 : decode cX9_law 255 = .ok (.aload_n 0, 1) := by decide +kernel
theorem dX9_law_256 : decode cX9_law 256 = .ok (.iload_n 3, 1) := by decide +kernel
theorem dX9_law_257 : decode cX9_law 257 = .ok (.iconst 3, 1) := by decide +kernel
theorem dX9_law_258 : decode cX9_law 258 = .ok (.iadd, 1) := by decide +kernel
theorem dX9_law_259 : decode cX9_law 259 = .ok (.iaload, 1) := by decide +kernel
theorem dX9_law_260 : decode cX9_law 260 = .ok (.i2l, 1) := by decide +kernel
theorem dX9_law_261 : decode cX9_law 261 = .ok (.bipush 32, 2) := by decide +kernel
theorem dX9_law_263 : decode cX9_law 263 = .ok (.lshl, 1) := by decide +kernel
theorem dX9_law_264 : decode cX9_law 264 = .ok (.aload_n 0, 1) := by decide +kernel
theorem dX9_law_265 : decode cX9_law 265 = .ok (.iload_n 3, 1) := by decide +kernel
theorem dX9_law_266 : decode cX9_law 266 = .ok (.iconst 4, 1) := by decide +kernel
theorem dX9_law_267 : decode cX9_law 267 = .ok (.iadd, 1) := by decide +kernel
theorem dX9_law_268 : decode cX9_law 268 = .ok (.iaload, 1) := by decide +kernel
theorem dX9_law_269 : decode cX9_law 269 = .ok (.i2l, 1) := by decide +kernel
theorem dX9_law_270 : decode cX9_law 270 = .ok (.ldc2_w 18, 3) := by decide +kernel
theorem dX9_law_273 : decode cX9_law 273 = .ok (.land, 1) := by decide +kernel
theorem dX9_law_274 : decode cX9_law 274 = .ok (.lor, 1) := by decide +kernel
theorem dX9_law_275 : decode cX9_law 275 = .ok (.invokevirtual 25, 3) := by decide +kernel
theorem dX9_law_278 : decode cX9_law 278 = .ok (.aload_n 2, 1) := by decide +kernel
theorem dX9_law_279 : decode cX9_law 279 = .ok (.aload_n 0, 1) := by decide +kernel
theorem dX9_law_280 : decode cX9_law 280 = .ok (.iload_n 3, 1) := by decide +kernel
theorem dX9_law_281 : decode cX9_law 281 = .ok (.iconst 1, 1) := by decide +kernel
theorem dX9_law_282 : decode cX9_law 282 = .ok (.iadd, 1) := by decide +kernel
theorem dX9_law_283 : decode cX9_law 283 = .ok (.iaload, 1) := by decide +kernel
theorem dX9_law_284 : decode cX9_law 284 = .ok (.i2l, 1) := by decide +kernel
theorem dX9_law_285 : decode cX9_law 285 = .ok (.bipush 32, 2) := by decide +kernel
theorem dX9_law_287 : decode cX9_law 287 = .ok (.lshl, 1) := by decide +kernel
theorem dX9_law_288 : decode cX9_law 288 = .ok (.aload_n 0, 1) := by decide +kernel
theorem dX9_law_289 : decode cX9_law 289 = .ok (.iload_n 3, 1) := by decide +kernel
theorem dX9_law_290 : decode cX9_law 290 = .ok (.iconst 2, 1) := by decide +kernel
theorem dX9_law_291 : decode cX9_law 291 = .ok (.iadd, 1) := by decide +kernel
theorem dX9_law_292 : decode cX9_law 292 = .ok (.iaload, 1) := by decide +kernel
theorem dX9_law_293 : decode cX9_law 293 = .ok (.i2l, 1) := by decide +kernel
theorem dX9_law_294 : decode cX9_law 294 = .ok (.ldc2_w 18, 3) := by decide +kernel
theorem dX9_law_297 : decode cX9_law 297 = .ok (.land, 1) := by decide +kernel
theorem dX9_law_298 : decode cX9_law 298 = .ok (.lor, 1) := by decide +kernel
theorem dX9_law_299 : decode cX9_law 299 = .ok (.aload_n 0, 1) := by decide +kernel
theorem dX9_law_300 : decode cX9_law 300 = .ok (.iload_n 3, 1) := by decide +kernel
theorem dX9_law_301 : decode cX9_law 301 = .ok (.iconst 3, 1) := by decide +kernel
theorem dX9_law_302 : decode cX9_law 302 = .ok (.iadd, 1) := by decide +kernel
theorem dX9_law_303 : decode cX9_law 303 = .ok (.iaload, 1) := by decide +kernel
theorem dX9_law_304 : decode cX9_law 304 = .ok (.i2l, 1) := by decide +kernel
theorem dX9_law_305 : decode cX9_law 305 = .ok (.bipush 32, 2) := by decide +kernel
theorem dX9_law_307 : decode cX9_law 307 = .ok (.lshl, 1) := by decide +kernel
theorem dX9_law_308 : decode cX9_law 308 = .ok (.aload_n 0, 1) := by decide +kernel
theorem dX9_law_309 : decode cX9_law 309 = .ok (.iload_n 3, 1) := by decide +kernel
theorem dX9_law_310 : decode cX9_law 310 = .ok (.iconst 4, 1) := by decide +kernel
theorem dX9_law_311 : decode cX9_law 311 = .ok (.iadd, 1) := by decide +kernel
theorem dX9_law_312 : decode cX9_law 312 = .ok (.iaload, 1) := by decide +kernel
theorem dX9_law_313 : decode cX9_law 313 = .ok (.i2l, 1) := by decide +kernel
theorem dX9_law_314 : decode cX9_law 314 = .ok (.ldc2_w 18, 3) := by decide +kernel
theorem dX9_law_317 : decode cX9_law 317 = .ok (.land, 1) := by decide +kernel
theorem dX9_law_318 : decode cX9_law 318 = .ok (.lor, 1) := by decide +kernel
theorem dX9_law_319 : decode cX9_law 319 = .ok (.invokevirtual 28, 3) := by decide +kernel
theorem dX9_law_322 : decode cX9_law 322 = .ok (.if_icmp .eq 630, 3) := by decide +kernel
theorem dX9_law_325 : decode cX9_law 325 = .ok (.iconst 0, 1) := by decide +kernel
theorem dX9_law_326 : decode cX9_law 326 = .ok (.ireturn, 1) := by decide +kernel
theorem dX9_law_327 : decode cX9_law 327 = .ok (.aload_n 1, 1) := by decide +kernel
theorem dX9_law_328 : decode cX9_law 328 = .ok (.aload_n 0, 1) := by decide +kernel
theorem dX9_law_329 : decode cX9_law 329 = .ok (.iload_n 3, 1) := by decide +kernel
theorem dX9_law_330 : decode cX9_law 330 = .ok (.iconst 1, 1) := by decide +kernel
theorem dX9_law_331 : decode cX9_law 331 = .ok (.iadd, 1) := by decide +kernel
theorem dX9_law_332 : decode cX9_law 332 = .ok (.iaload, 1) := by decide +kernel
theorem dX9_law_333 : decode cX9_law 333 = .ok (.aload_n 0, 1) := by decide +kernel
theorem dX9_law_334 : decode cX9_law 334 = .ok (.iload_n 3, 1) := by decide +kernel
theorem dX9_law_335 : decode cX9_law 335 = .ok (.iconst 2, 1) := by decide +kernel
theorem dX9_law_336 : decode cX9_law 336 = .ok (.iadd, 1) := by decide +kernel
theorem dX9_law_337 : decode cX9_law 337 = .ok (.iaload, 1) := by decide +kernel
theorem dX9_law_338 : decode cX9_law 338 = .ok (.aload_n 0, 1) := by decide +kernel
theorem dX9_law_339 : decode cX9_law 339 = .ok (.iload_n 3, 1) := by decide +kernel
theorem dX9_law_340 : decode cX9_law 340 = .ok (.iconst 3, 1) := by decide +kernel
theorem dX9_law_341 : decode cX9_law 341 = .ok (.iadd, 1) := by decide +kernel
theorem dX9_law_342 : decode cX9_law 342 = .ok (.iaload, 1) := by decide +kernel
theorem dX9_law_343 : decode cX9_law 343 = .ok (.aload_n 0, 1) := by decide +kernel
theorem dX9_law_344 : decode cX9_law 344 = .ok (.iload_n 3, 1) := by decide +kernel
theorem dX9_law_345 : decode cX9_law 345 = .ok (.iconst 4, 1) := by decide +kernel
theorem dX9_law_346 : decode cX9_law 346 = .ok (.iadd, 1) := by decide +kernel
theorem dX9_law_347 : decode cX9_law 347 = .ok (.iaload, 1) := by decide +kernel
theorem dX9_law_348 : decode cX9_law 348 = .ok (.invokevirtual 29, 3) := by decide +kernel
theorem dX9_law_351 : decode cX9_law 351 = .ok (.aload_n 2, 1) := by decide +kernel
theorem dX9_law_352 : decode cX9_law 352 = .ok (.aload_n 0, 1) := by decide +kernel
theorem dX9_law_353 : decode cX9_law 353 = .ok (.iload_n 3, 1) := by decide +kernel
theorem dX9_law_354 : decode cX9_law 354 = .ok (.iconst 1, 1) := by decide +kernel
theorem dX9_law_355 : decode cX9_law 355 = .ok (.iadd, 1) := by decide +kernel
theorem dX9_law_356 : decode cX9_law 356 = .ok (.iaload, 1) := by decide +kernel
theorem dX9_law_357 : decode cX9_law 357 = .ok (.aload_n 0, 1) := by decide +kernel
theorem dX9_law_358 : decode cX9_law 358 = .ok (.iload_n 3, 1) := by decide +kernel
theorem dX9_law_359 : decode cX9_law 359 = .ok (.iconst 2, 1) := by decide +kernel
theorem dX9_law_360 : decode cX9_law 360 = .ok (.iadd, 1) := by decide +kernel
theorem dX9_law_361 : decode cX9_law 361 = .ok (.iaload, 1) := by decide +kernel
theorem dX9_law_362 : decode cX9_law 362 = .ok (.aload_n 0, 1) := by decide +kernel
theorem dX9_law_363 : decode cX9_law 363 = .ok (.iload_n 3, 1) := by decide +kernel
theorem dX9_law_364 : decode cX9_law 364 = .ok (.iconst 3, 1) := by decide +kernel
theorem dX9_law_365 : decode cX9_law 365 = .ok (.iadd, 1) := by decide +kernel
theorem dX9_law_366 : decode cX9_law 366 = .ok (.iaload, 1) := by decide +kernel
theorem dX9_law_367 : decode cX9_law 367 = .ok (.aload_n 0, 1) := by decide +kernel
theorem dX9_law_368 : decode cX9_law 368 = .ok (.iload_n 3, 1) := by decide +kernel
theorem dX9_law_369 : decode cX9_law 369 = .ok (.iconst 4, 1) := by decide +kernel
theorem dX9_law_370 : decode cX9_law 370 = .ok (.iadd, 1) := by decide +kernel
theorem dX9_law_371 : decode cX9_law 371 = .ok (.iaload, 1) := by decide +kernel
theorem dX9_law_372 : decode cX9_law 372 = .ok (.invokevirtual 33, 3) := by decide +kernel
theorem dX9_law_375 : decode cX9_law 375 = .ok (.lcmp, 1) := by decide +kernel
theorem dX9_law_376 : decode cX9_law 376 = .ok (.ifCond .eq 576, 3) := by decide +kernel
theorem dX9_law_379 : decode cX9_law 379 = .ok (.iconst 0, 1) := by decide +kernel
theorem dX9_law_380 : decode cX9_law 380 = .ok (.ireturn, 1) := by decide +kernel
theorem dX9_law_381 : decode cX9_law 381 = .ok (.aload_n 1, 1) := by decide +kernel
theorem dX9_law_382 : decode cX9_law 382 = .ok (.aload_n 0, 1) := by decide +kernel
theorem dX9_law_383 : decode cX9_law 383 = .ok (.iload_n 3, 1) := by decide +kernel
theorem dX9_law_384 : decode cX9_law 384 = .ok (.iconst 1, 1) := by decide +kernel
theorem dX9_law_385 : decode cX9_law 385 = .ok (.iadd, 1) := by decide +kernel
theorem dX9_law_386 : decode cX9_law 386 = .ok (.iaload, 1) := by decide +kernel
theorem dX9_law_387 : decode cX9_law 387 = .ok (.aload_n 0, 1) := by decide +kernel
theorem dX9_law_388 : decode cX9_law 388 = .ok (.iload_n 3, 1) := by decide +kernel
theorem dX9_law_389 : decode cX9_law 389 = .ok (.iconst 2, 1) := by decide +kernel
theorem dX9_law_390 : decode cX9_law 390 = .ok (.iadd, 1) := by decide +kernel
theorem dX9_law_391 : decode cX9_law 391 = .ok (.iaload, 1) := by decide +kernel
theorem dX9_law_392 : decode cX9_law 392 = .ok (.i2l, 1) := by decide +kernel
theorem dX9_law_393 : decode cX9_law 393 = .ok (.bipush 32, 2) := by decide +kernel
theorem dX9_law_395 : decode cX9_law 395 = .ok (.lshl, 1) := by decide +kernel
theorem dX9_law_396 : decode cX9_law 396 = .ok (.aload_n 0, 1) := by decide +kernel
theorem dX9_law_397 : decode cX9_law 397 = .ok (.iload_n 3, 1) := by decide +kernel
theorem dX9_law_398 : decode cX9_law 398 = .ok (.iconst 3, 1) := by decide +kernel
theorem dX9_law_399 : decode cX9_law 399 = .ok (.iadd, 1) := by decide +kernel
theorem dX9_law_400 : decode cX9_law 400 = .ok (.iaload, 1) := by decide +kernel
theorem dX9_law_401 : decode cX9_law 401 = .ok (.i2l, 1) := by decide +kernel
theorem dX9_law_402 : decode cX9_law 402 = .ok (.ldc2_w 18, 3) := by decide +kernel
theorem dX9_law_405 : decode cX9_law 405 = .ok (.land, 1) := by decide +kernel
theorem dX9_law_406 : decode cX9_law 406 = .ok (.lor, 1) := by decide +kernel
theorem dX9_law_407 : decode cX9_law 407 = .ok (.aload_n 0, 1) := by decide +kernel
theorem dX9_law_408 : decode cX9_law 408 = .ok (.iload_n 3, 1) := by decide +kernel
theorem dX9_law_409 : decode cX9_law 409 = .ok (.iconst 4, 1) := by decide +kernel
theorem dX9_law_410 : decode cX9_law 410 = .ok (.iadd, 1) := by decide +kernel
theorem dX9_law_411 : decode cX9_law 411 = .ok (.iaload, 1) := by decide +kernel
theorem dX9_law_412 : decode cX9_law 412 = .ok (.i2l, 1) := by decide +kernel
theorem dX9_law_413 : decode cX9_law 413 = .ok (.bipush 32, 2) := by decide +kernel
theorem dX9_law_415 : decode cX9_law 415 = .ok (.lshl, 1) := by decide +kernel
theorem dX9_law_416 : decode cX9_law 416 = .ok (.aload_n 0, 1) := by decide +kernel
theorem dX9_law_417 : decode cX9_law 417 = .ok (.iload_n 3, 1) := by decide +kernel
theorem dX9_law_418 : decode cX9_law 418 = .ok (.iconst 5, 1) := by decide +kernel
theorem dX9_law_419 : decode cX9_law 419 = .ok (.iadd, 1) := by decide +kernel
theorem dX9_law_420 : decode cX9_law 420 = .ok (.iaload, 1) := by decide +kernel
theorem dX9_law_421 : decode cX9_law 421 = .ok (.i2l, 1) := by decide +kernel
theorem dX9_law_422 : decode cX9_law 422 = .ok (.ldc2_w 18, 3) := by decide +kernel
theorem dX9_law_425 : decode cX9_law 425 = .ok (.land, 1) := by decide +kernel
theorem dX9_law_426 : decode cX9_law 426 = .ok (.lor, 1) := by decide +kernel
theorem dX9_law_427 : decode cX9_law 427 = .ok (.invokevirtual 34, 3) := by decide +kernel
theorem dX9_law_430 : decode cX9_law 430 = .ok (.aload_n 2, 1) := by decide +kernel
theorem dX9_law_431 : decode cX9_law 431 = .ok (.aload_n 0, 1) := by decide +kernel
theorem dX9_law_432 : decode cX9_law 432 = .ok (.iload_n 3, 1) := by decide +kernel
theorem dX9_law_433 : decode cX9_law 433 = .ok (.iconst 1, 1) := by decide +kernel
theorem dX9_law_434 : decode cX9_law 434 = .ok (.iadd, 1) := by decide +kernel
theorem dX9_law_435 : decode cX9_law 435 = .ok (.iaload, 1) := by decide +kernel
theorem dX9_law_436 : decode cX9_law 436 = .ok (.aload_n 0, 1) := by decide +kernel
theorem dX9_law_437 : decode cX9_law 437 = .ok (.iload_n 3, 1) := by decide +kernel
theorem dX9_law_438 : decode cX9_law 438 = .ok (.iconst 2, 1) := by decide +kernel
theorem dX9_law_439 : decode cX9_law 439 = .ok (.iadd, 1) := by decide +kernel
theorem dX9_law_440 : decode cX9_law 440 = .ok (.iaload, 1) := by decide +kernel
theorem dX9_law_441 : decode cX9_law 441 = .ok (.i2l, 1) := by decide +kernel
theorem dX9_law_442 : decode cX9_law 442 = .ok (.bipush 32, 2) := by decide +kernel
theorem dX9_law_444 : decode cX9_law 444 = .ok (.lshl, 1) := by decide +kernel
theorem dX9_law_445 : decode cX9_law 445 = .ok (.aload_n 0, 1) := by decide +kernel
theorem dX9_law_446 : decode cX9_law 446 = .ok (.iload_n 3, 1) := by decide +kernel
theorem dX9_law_447 : decode cX9_law 447 = .ok (.iconst 3, 1) := by decide +kernel
theorem dX9_law_448 : decode cX9_law 448 = .ok (.iadd, 1) := by decide +kernel
theorem dX9_law_449 : decode cX9_law 449 = .ok (.iaload, 1) := by decide +kernel
theorem dX9_law_450 : decode cX9_law 450 = .ok (.i2l, 1) := by decide +kernel
theorem dX9_law_451 : decode cX9_law 451 = .ok (.ldc2_w 18, 3) := by decide +kernel
theorem dX9_law_454 : decode cX9_law 454 = .ok (.land, 1) := by decide +kernel
theorem dX9_law_455 : decode cX9_law 455 = .ok (.lor, 1) := by decide +kernel
theorem dX9_law_456 : decode cX9_law 456 = .ok (.aload_n 0, 1) := by decide +kernel
theorem dX9_law_457 : decode cX9_law 457 = .ok (.iload_n 3, 1) := by decide +kernel
theorem dX9_law_458 : decode cX9_law 458 = .ok (.iconst 4, 1) := by decide +kernel
theorem dX9_law_459 : decode cX9_law 459 = .ok (.iadd, 1) := by decide +kernel
theorem dX9_law_460 : decode cX9_law 460 = .ok (.iaload, 1) := by decide +kernel
theorem dX9_law_461 : decode cX9_law 461 = .ok (.i2l, 1) := by decide +kernel
theorem dX9_law_462 : decode cX9_law 462 = .ok (.bipush 32, 2) := by decide +kernel
theorem dX9_law_464 : decode cX9_law 464 = .ok (.lshl, 1) := by decide +kernel
theorem dX9_law_465 : decode cX9_law 465 = .ok (.aload_n 0, 1) := by decide +kernel
theorem dX9_law_466 : decode cX9_law 466 = .ok (.iload_n 3, 1) := by decide +kernel
theorem dX9_law_467 : decode cX9_law 467 = .ok (.iconst 5, 1) := by decide +kernel
theorem dX9_law_468 : decode cX9_law 468 = .ok (.iadd, 1) := by decide +kernel
theorem dX9_law_469 : decode cX9_law 469 = .ok (.iaload, 1) := by decide +kernel
theorem dX9_law_470 : decode cX9_law 470 = .ok (.i2l, 1) := by decide +kernel
theorem dX9_law_471 : decode cX9_law 471 = .ok (.ldc2_w 18, 3) := by decide +kernel
theorem dX9_law_474 : decode cX9_law 474 = .ok (.land, 1) := by decide +kernel
theorem dX9_law_475 : decode cX9_law 475 = .ok (.lor, 1) := by decide +kernel
theorem dX9_law_476 : decode cX9_law 476 = .ok (.invokevirtual 38, 3) := by decide +kernel
theorem dX9_law_479 : decode cX9_law 479 = .ok (.if_icmp .eq 473, 3) := by decide +kernel
theorem dX9_law_482 : decode cX9_law 482 = .ok (.iconst 0, 1) := by decide +kernel
theorem dX9_law_483 : decode cX9_law 483 = .ok (.ireturn, 1) := by decide +kernel
theorem dX9_law_484 : decode cX9_law 484 = .ok (.aload_n 1, 1) := by decide +kernel
theorem dX9_law_485 : decode cX9_law 485 = .ok (.aload_n 0, 1) := by decide +kernel
theorem dX9_law_486 : decode cX9_law 486 = .ok (.iload_n 3, 1) := by decide +kernel
theorem dX9_law_487 : decode cX9_law 487 = .ok (.iconst 1, 1) := by decide +kernel
theorem dX9_law_488 : decode cX9_law 488 = .ok (.iadd, 1) := by decide +kernel
theorem dX9_law_489 : decode cX9_law 489 = .ok (.iaload, 1) := by decide +kernel
theorem dX9_law_490 : decode cX9_law 490 = .ok (.aload_n 0, 1) := by decide +kernel
theorem dX9_law_491 : decode cX9_law 491 = .ok (.iload_n 3, 1) := by decide +kernel
theorem dX9_law_492 : decode cX9_law 492 = .ok (.iconst 2, 1) := by decide +kernel
theorem dX9_law_493 : decode cX9_law 493 = .ok (.iadd, 1) := by decide +kernel
theorem dX9_law_494 : decode cX9_law 494 = .ok (.iaload, 1) := by decide +kernel
theorem dX9_law_495 : decode cX9_law 495 = .ok (.aload_n 0, 1) := by decide +kernel
theorem dX9_law_496 : decode cX9_law 496 = .ok (.iload_n 3, 1) := by decide +kernel
theorem dX9_law_497 : decode cX9_law 497 = .ok (.iconst 3, 1) := by decide +kernel
theorem dX9_law_498 : decode cX9_law 498 = .ok (.iadd, 1) := by decide +kernel
theorem dX9_law_499 : decode cX9_law 499 = .ok (.iaload, 1) := by decide +kernel
theorem dX9_law_500 : decode cX9_law 500 = .ok (.invokevirtual 39, 3) := by decide +kernel
theorem dX9_law_503 : decode cX9_law 503 = .ok (.aload_n 2, 1) := by decide +kernel
theorem dX9_law_504 : decode cX9_law 504 = .ok (.aload_n 0, 1) := by decide +kernel
theorem dX9_law_505 : decode cX9_law 505 = .ok (.iload_n 3, 1) := by decide +kernel
theorem dX9_law_506 : decode cX9_law 506 = .ok (.iconst 1, 1) := by decide +kernel
theorem dX9_law_507 : decode cX9_law 507 = .ok (.iadd, 1) := by decide +kernel
theorem dX9_law_508 : decode cX9_law 508 = .ok (.iaload, 1) := by decide +kernel
theorem dX9_law_509 : decode cX9_law 509 = .ok (.aload_n 0, 1) := by decide +kernel
theorem dX9_law_510 : decode cX9_law 510 = .ok (.iload_n 3, 1) := by decide +kernel
theorem dX9_law_511 : decode cX9_law 511 = .ok (.iconst 2, 1) := by decide +kernel
theorem dX9_law_512 : decode cX9_law 512 = .ok (.iadd, 1) := by decide +kernel
theorem dX9_law_513 : decode cX9_law 513 = .ok (.iaload, 1) := by decide +kernel
theorem dX9_law_514 : decode cX9_law 514 = .ok (.aload_n 0, 1) := by decide +kernel
theorem dX9_law_515 : decode cX9_law 515 = .ok (.iload_n 3, 1) := by decide +kernel
theorem dX9_law_516 : decode cX9_law 516 = .ok (.iconst 3, 1) := by decide +kernel
theorem dX9_law_517 : decode cX9_law 517 = .ok (.iadd, 1) := by decide +kernel
theorem dX9_law_518 : decode cX9_law 518 = .ok (.iaload, 1) := by decide +kernel
theorem dX9_law_519 : decode cX9_law 519 = .ok (.invokevirtual 43, 3) := by decide +kernel
theorem dX9_law_522 : decode cX9_law 522 = .ok (.if_icmp .eq 430, 3) := by decide +kernel
theorem dX9_law_525 : decode cX9_law 525 = .ok (.iconst 0, 1) := by decide +kernel
theorem dX9_law_526 : decode cX9_law 526 = .ok (.ireturn, 1) := by decide +kernel
theorem dX9_law_527 : decode cX9_law 527 = .ok (.aload_n 1, 1) := by decide +kernel
theorem dX9_law_528 : decode cX9_law 528 = .ok (.aload_n 0, 1) := by decide +kernel
theorem dX9_law_529 : decode cX9_law 529 = .ok (.iload_n 3, 1) := by decide +kernel
theorem dX9_law_530 : decode cX9_law 530 = .ok (.iconst 1, 1) := by decide +kernel
theorem dX9_law_531 : decode cX9_law 531 = .ok (.iadd, 1) := by decide +kernel
theorem dX9_law_532 : decode cX9_law 532 = .ok (.iaload, 1) := by decide +kernel
theorem dX9_law_533 : decode cX9_law 533 = .ok (.aload_n 0, 1) := by decide +kernel
theorem dX9_law_534 : decode cX9_law 534 = .ok (.iload_n 3, 1) := by decide +kernel
theorem dX9_law_535 : decode cX9_law 535 = .ok (.iconst 2, 1) := by decide +kernel
theorem dX9_law_536 : decode cX9_law 536 = .ok (.iadd, 1) := by decide +kernel
theorem dX9_law_537 : decode cX9_law 537 = .ok (.iaload, 1) := by decide +kernel
theorem dX9_law_538 : decode cX9_law 538 = .ok (.aload_n 0, 1) := by decide +kernel
theorem dX9_law_539 : decode cX9_law 539 = .ok (.iload_n 3, 1) := by decide +kernel
theorem dX9_law_540 : decode cX9_law 540 = .ok (.iconst 3, 1) := by decide +kernel
theorem dX9_law_541 : decode cX9_law 541 = .ok (.iadd, 1) := by decide +kernel
theorem dX9_law_542 : decode cX9_law 542 = .ok (.iaload, 1) := by decide +kernel
theorem dX9_law_543 : decode cX9_law 543 = .ok (.aload_n 0, 1) := by decide +kernel
theorem dX9_law_544 : decode cX9_law 544 = .ok (.iload_n 3, 1) := by decide +kernel
theorem dX9_law_545 : decode cX9_law 545 = .ok (.iconst 4, 1) := by decide +kernel
theorem dX9_law_546 : decode cX9_law 546 = .ok (.iadd, 1) := by decide +kernel
theorem dX9_law_547 : decode cX9_law 547 = .ok (.iaload, 1) := by decide +kernel
theorem dX9_law_548 : decode cX9_law 548 = .ok (.aload_n 0, 1) := by decide +kernel
theorem dX9_law_549 : decode cX9_law 549 = .ok (.iload_n 3, 1) := by decide +kernel
theorem dX9_law_550 : decode cX9_law 550 = .ok (.iconst 5, 1) := by decide +kernel
theorem dX9_law_551 : decode cX9_law 551 = .ok (.iadd, 1) := by decide +kernel
theorem dX9_law_552 : decode cX9_law 552 = .ok (.iaload, 1) := by decide +kernel
theorem dX9_law_553 : decode cX9_law 553 = .ok (.invokevirtual 44, 3) := by decide +kernel
theorem dX9_law_556 : decode cX9_law 556 = .ok (.aload_n 2, 1) := by decide +kernel
theorem dX9_law_557 : decode cX9_law 557 = .ok (.aload_n 0, 1) := by decide +kernel
theorem dX9_law_558 : decode cX9_law 558 = .ok (.iload_n 3, 1) := by decide +kernel
theorem dX9_law_559 : decode cX9_law 559 = .ok (.iconst 1, 1) := by decide +kernel
theorem dX9_law_560 : decode cX9_law 560 = .ok (.iadd, 1) := by decide +kernel
theorem dX9_law_561 : decode cX9_law 561 = .ok (.iaload, 1) := by decide +kernel
theorem dX9_law_562 : decode cX9_law 562 = .ok (.aload_n 0, 1) := by decide +kernel
theorem dX9_law_563 : decode cX9_law 563 = .ok (.iload_n 3, 1) := by decide +kernel
theorem dX9_law_564 : decode cX9_law 564 = .ok (.iconst 2, 1) := by decide +kernel
theorem dX9_law_565 : decode cX9_law 565 = .ok (.iadd, 1) := by decide +kernel
theorem dX9_law_566 : decode cX9_law 566 = .ok (.iaload, 1) := by decide +kernel
theorem dX9_law_567 : decode cX9_law 567 = .ok (.aload_n 0, 1) := by decide +kernel
theorem dX9_law_568 : decode cX9_law 568 = .ok (.iload_n 3, 1) := by decide +kernel
theorem dX9_law_569 : decode cX9_law 569 = .ok (.iconst 3, 1) := by decide +kernel
theorem dX9_law_570 : decode cX9_law 570 = .ok (.iadd, 1) := by decide +kernel
theorem dX9_law_571 : decode cX9_law 571 = .ok (.iaload, 1) := by decide +kernel
theorem dX9_law_572 : decode cX9_law 572 = .ok (.aload_n 0, 1) := by decide +kernel
theorem dX9_law_573 : decode cX9_law 573 = .ok (.iload_n 3, 1) := by decide +kernel
theorem dX9_law_574 : decode cX9_law 574 = .ok (.iconst 4, 1) := by decide +kernel
theorem dX9_law_575 : decode cX9_law 575 = .ok (.iadd, 1) := by decide +kernel
theorem dX9_law_576 : decode cX9_law 576 = .ok (.iaload, 1) := by decide +kernel
theorem dX9_law_577 : decode cX9_law 577 = .ok (.aload_n 0, 1) := by decide +kernel
theorem dX9_law_578 : decode cX9_law 578 = .ok (.iload_n 3, 1) := by decide +kernel
theorem dX9_law_579 : decode cX9_law 579 = .ok (.iconst 5, 1) := by decide +kernel
theorem dX9_law_580 : decode cX9_law 580 = .ok (.iadd, 1) := by decide +kernel
theorem dX9_law_581 : decode cX9_law 581 = .ok (.iaload, 1) := by decide +kernel
theorem dX9_law_582 : decode cX9_law 582 = .ok (.invokevirtual 48, 3) := by decide +kernel
theorem dX9_law_585 : decode cX9_law 585 = .ok (.if_icmp .eq 367, 3) := by decide +kernel
theorem dX9_law_588 : decode cX9_law 588 = .ok (.iconst 0, 1) := by decide +kernel
theorem dX9_law_589 : decode cX9_law 589 = .ok (.ireturn, 1) := by decide +kernel
theorem dX9_law_590 : decode cX9_law 590 = .ok (.aload_n 1, 1) := by decide +kernel
theorem dX9_law_591 : decode cX9_law 591 = .ok (.invokevirtual 49, 3) := by decide +kernel
theorem dX9_law_594 : decode cX9_law 594 = .ok (.aload_n 2, 1) := by decide +kernel
theorem dX9_law_595 : decode cX9_law 595 = .ok (.invokevirtual 52, 3) := by decide +kernel
theorem dX9_law_598 : decode cX9_law 598 = .ok (.if_icmp .eq 354, 3) := by decide +kernel
theorem dX9_law_601 : decode cX9_law 601 = .ok (.iconst 0, 1) := by decide +kernel
theorem dX9_law_602 : decode cX9_law 602 = .ok (.ireturn, 1) := by decide +kernel
theorem dX9_law_603 : decode cX9_law 603 = .ok (.aload_n 1, 1) := by decide +kernel
theorem dX9_law_604 : decode cX9_law 604 = .ok (.aload_n 0, 1) := by decide +kernel
theorem dX9_law_605 : decode cX9_law 605 = .ok (.iload_n 3, 1) := by decide +kernel
theorem dX9_law_606 : decode cX9_law 606 = .ok (.iconst 1, 1) := by decide +kernel
theorem dX9_law_607 : decode cX9_law 607 = .ok (.iadd, 1) := by decide +kernel
theorem dX9_law_608 : decode cX9_law 608 = .ok (.iaload, 1) := by decide +kernel
theorem dX9_law_609 : decode cX9_law 609 = .ok (.aload_n 0, 1) := by decide +kernel
theorem dX9_law_610 : decode cX9_law 610 = .ok (.iload_n 3, 1) := by decide +kernel
theorem dX9_law_611 : decode cX9_law 611 = .ok (.iconst 2, 1) := by decide +kernel
theorem dX9_law_612 : decode cX9_law 612 = .ok (.iadd, 1) := by decide +kernel
theorem dX9_law_613 : decode cX9_law 613 = .ok (.iaload, 1) := by decide +kernel
theorem dX9_law_614 : decode cX9_law 614 = .ok (.i2l, 1) := by decide +kernel
theorem dX9_law_615 : decode cX9_law 615 = .ok (.bipush 32, 2) := by decide +kernel
theorem dX9_law_617 : decode cX9_law 617 = .ok (.lshl, 1) := by decide +kernel
theorem dX9_law_618 : decode cX9_law 618 = .ok (.aload_n 0, 1) := by decide +kernel
theorem dX9_law_619 : decode cX9_law 619 = .ok (.iload_n 3, 1) := by decide +kernel
theorem dX9_law_620 : decode cX9_law 620 = .ok (.iconst 3, 1) := by decide +kernel
theorem dX9_law_621 : decode cX9_law 621 = .ok (.iadd, 1) := by decide +kernel
theorem dX9_law_622 : decode cX9_law 622 = .ok (.iaload, 1) := by decide +kernel
theorem dX9_law_623 : decode cX9_law 623 = .ok (.i2l, 1) := by decide +kernel
theorem dX9_law_624 : decode cX9_law 624 = .ok (.ldc2_w 18, 3) := by decide +kernel
theorem dX9_law_627 : decode cX9_law 627 = .ok (.land, 1) := by decide +kernel
theorem dX9_law_628 : decode cX9_law 628 = .ok (.lor, 1) := by decide +kernel
theorem dX9_law_629 : decode cX9_law 629 = .ok (.invokevirtual 53, 3) := by decide +kernel
theorem dX9_law_632 : decode cX9_law 632 = .ok (.aload_n 2, 1) := by decide +kernel
theorem dX9_law_633 : decode cX9_law 633 = .ok (.aload_n 0, 1) := by decide +kernel
theorem dX9_law_634 : decode cX9_law 634 = .ok (.iload_n 3, 1) := by decide +kernel
theorem dX9_law_635 : decode cX9_law 635 = .ok (.iconst 1, 1) := by decide +kernel
theorem dX9_law_636 : decode cX9_law 636 = .ok (.iadd, 1) := by decide +kernel
theorem dX9_law_637 : decode cX9_law 637 = .ok (.iaload, 1) := by decide +kernel
theorem dX9_law_638 : decode cX9_law 638 = .ok (.aload_n 0, 1) := by decide +kernel
theorem dX9_law_639 : decode cX9_law 639 = .ok (.iload_n 3, 1) := by decide +kernel
theorem dX9_law_640 : decode cX9_law 640 = .ok (.iconst 2, 1) := by decide +kernel
theorem dX9_law_641 : decode cX9_law 641 = .ok (.iadd, 1) := by decide +kernel
theorem dX9_law_642 : decode cX9_law 642 = .ok (.iaload, 1) := by decide +kernel
theorem dX9_law_643 : decode cX9_law 643 = .ok (.i2l, 1) := by decide +kernel
theorem dX9_law_644 : decode cX9_law 644 = .ok (.bipush 32, 2) := by decide +kernel
theorem dX9_law_646 : decode cX9_law 646 = .ok (.lshl, 1) := by decide +kernel
theorem dX9_law_647 : decode cX9_law 647 = .ok (.aload_n 0, 1) := by decide +kernel
theorem dX9_law_648 : decode cX9_law 648 = .ok (.iload_n 3, 1) := by decide +kernel
theorem dX9_law_649 : decode cX9_law 649 = .ok (.iconst 3, 1) := by decide +kernel
theorem dX9_law_650 : decode cX9_law 650 = .ok (.iadd, 1) := by decide +kernel
theorem dX9_law_651 : decode cX9_law 651 = .ok (.iaload, 1) := by decide +kernel
theorem dX9_law_652 : decode cX9_law 652 = .ok (.i2l, 1) := by decide +kernel
theorem dX9_law_653 : decode cX9_law 653 = .ok (.ldc2_w 18, 3) := by decide +kernel
theorem dX9_law_656 : decode cX9_law 656 = .ok (.land, 1) := by decide +kernel
theorem dX9_law_657 : decode cX9_law 657 = .ok (.lor, 1) := by decide +kernel
theorem dX9_law_658 : decode cX9_law 658 = .ok (.invokevirtual 57, 3) := by decide +kernel
theorem dX9_law_661 : decode cX9_law 661 = .ok (.if_icmp .eq 291, 3) := by decide +kernel
theorem dX9_law_664 : decode cX9_law 664 = .ok (.iconst 0, 1) := by decide +kernel
theorem dX9_law_665 : decode cX9_law 665 = .ok (.ireturn, 1) := by decide +kernel
theorem dX9_law_666 : decode cX9_law 666 = .ok (.aload_n 1, 1) := by decide +kernel
theorem dX9_law_667 : decode cX9_law 667 = .ok (.aload_n 0, 1) := by decide +kernel
theorem dX9_law_668 : decode cX9_law 668 = .ok (.iload_n 3, 1) := by decide +kernel
theorem dX9_law_669 : decode cX9_law 669 = .ok (.iconst 1, 1) := by decide +kernel
theorem dX9_law_670 : decode cX9_law 670 = .ok (.iadd, 1) := by decide +kernel
theorem dX9_law_671 : decode cX9_law 671 = .ok (.iaload, 1) := by decide +kernel
theorem dX9_law_672 : decode cX9_law 672 = .ok (.invokevirtual 58, 3) := by decide +kernel
theorem dX9_law_675 : decode cX9_law 675 = .ok (.aload_n 2, 1) := by decide +kernel
theorem dX9_law_676 : decode cX9_law 676 = .ok (.aload_n 0, 1) := by decide +kernel
theorem dX9_law_677 : decode cX9_law 677 = .ok (.iload_n 3, 1) := by decide +kernel
theorem dX9_law_678 : decode cX9_law 678 = .ok (.iconst 1, 1) := by decide +kernel
theorem dX9_law_679 : decode cX9_law 679 = .ok (.iadd, 1) := by decide +kernel
theorem dX9_law_680 : decode cX9_law 680 = .ok (.iaload, 1) := by decide +kernel
theorem dX9_law_681 : decode cX9_law 681 = .ok (.invokevirtual 62, 3) := by decide +kernel
theorem dX9_law_684 : decode cX9_law 684 = .ok (.if_icmp .eq 268, 3) := by decide +kernel
theorem dX9_law_687 : decode cX9_law 687 = .ok (.iconst 0, 1) := by decide +kernel
theorem dX9_law_688 : decode cX9_law 688 = .ok (.ireturn, 1) := by decide +kernel
theorem dX9_law_689 : decode cX9_law 689 = .ok (.aload_n 1, 1) := by decide +kernel
theorem dX9_law_690 : decode cX9_law 690 = .ok (.aload_n 0, 1) := by decide +kernel
theorem dX9_law_691 : decode cX9_law 691 = .ok (.iload_n 3, 1) := by decide +kernel
theorem dX9_law_692 : decode cX9_law 692 = .ok (.iconst 1, 1) := by decide +kernel
theorem dX9_law_693 : decode cX9_law 693 = .ok (.iadd, 1) := by decide +kernel
theorem dX9_law_694 : decode cX9_law 694 = .ok (.iaload, 1) := by decide +kernel
theorem dX9_law_695 : decode cX9_law 695 = .ok (.aload_n 0, 1) := by decide +kernel
theorem dX9_law_696 : decode cX9_law 696 = .ok (.iload_n 3, 1) := by decide +kernel
theorem dX9_law_697 : decode cX9_law 697 = .ok (.iconst 2, 1) := by decide +kernel
theorem dX9_law_698 : decode cX9_law 698 = .ok (.iadd, 1) := by decide +kernel
theorem dX9_law_699 : decode cX9_law 699 = .ok (.iaload, 1) := by decide +kernel
theorem dX9_law_700 : decode cX9_law 700 = .ok (.invokevirtual 63, 3) := by decide +kernel
theorem dX9_law_703 : decode cX9_law 703 = .ok (.aload_n 2, 1) := by decide +kernel
theorem dX9_law_704 : decode cX9_law 704 = .ok (.aload_n 0, 1) := by decide +kernel
theorem dX9_law_705 : decode cX9_law 705 = .ok (.iload_n 3, 1) := by decide +kernel
theorem dX9_law_706 : decode cX9_law 706 = .ok (.iconst 1, 1) := by decide +kernel
theorem dX9_law_707 : decode cX9_law 707 = .ok (.iadd, 1) := by decide +kernel
theorem dX9_law_708 : decode cX9_law 708 = .ok (.iaload, 1) := by decide +kernel
theorem dX9_law_709 : decode cX9_law 709 = .ok (.aload_n 0, 1) := by decide +kernel
theorem dX9_law_710 : decode cX9_law 710 = .ok (.iload_n 3, 1) := by decide +kernel
theorem dX9_law_711 : decode cX9_law 711 = .ok (.iconst 2, 1) := by decide +kernel
theorem dX9_law_712 : decode cX9_law 712 = .ok (.iadd, 1) := by decide +kernel
theorem dX9_law_713 : decode cX9_law 713 = .ok (.iaload, 1) := by decide +kernel
theorem dX9_law_714 : decode cX9_law 714 = .ok (.invokevirtual 67, 3) := by decide +kernel
theorem dX9_law_717 : decode cX9_law 717 = .ok (.if_icmp .eq 235, 3) := by decide +kernel
theorem dX9_law_720 : decode cX9_law 720 = .ok (.iconst 0, 1) := by decide +kernel
theorem dX9_law_721 : decode cX9_law 721 = .ok (.ireturn, 1) := by decide +kernel
theorem dX9_law_722 : decode cX9_law 722 = .ok (.aload_n 1, 1) := by decide +kernel
theorem dX9_law_723 : decode cX9_law 723 = .ok (.aload_n 0, 1) := by decide +kernel
theorem dX9_law_724 : decode cX9_law 724 = .ok (.iload_n 3, 1) := by decide +kernel
theorem dX9_law_725 : decode cX9_law 725 = .ok (.iconst 1, 1) := by decide +kernel
theorem dX9_law_726 : decode cX9_law 726 = .ok (.iadd, 1) := by decide +kernel
theorem dX9_law_727 : decode cX9_law 727 = .ok (.iaload, 1) := by decide +kernel
theorem dX9_law_728 : decode cX9_law 728 = .ok (.invokevirtual 68, 3) := by decide +kernel
theorem dX9_law_731 : decode cX9_law 731 = .ok (.aload_n 2, 1) := by decide +kernel
theorem dX9_law_732 : decode cX9_law 732 = .ok (.aload_n 0, 1) := by decide +kernel
theorem dX9_law_733 : decode cX9_law 733 = .ok (.iload_n 3, 1) := by decide +kernel
theorem dX9_law_734 : decode cX9_law 734 = .ok (.iconst 1, 1) := by decide +kernel
theorem dX9_law_735 : decode cX9_law 735 = .ok (.iadd, 1) := by decide +kernel
theorem dX9_law_736 : decode cX9_law 736 = .ok (.iaload, 1) := by decide +kernel
theorem dX9_law_737 : decode cX9_law 737 = .ok (.invokevirtual 71, 3) := by decide +kernel
theorem dX9_law_740 : decode cX9_law 740 = .ok (.if_icmp .eq 212, 3) := by decide +kernel
theorem dX9_law_743 : decode cX9_law 743 = .ok (.iconst 0, 1) := by decide +kernel
theorem dX9_law_744 : decode cX9_law 744 = .ok (.ireturn, 1) := by decide +kernel
theorem dX9_law_745 : decode cX9_law 745 = .ok (.aload_n 1, 1) := by decide +kernel
theorem dX9_law_746 : decode cX9_law 746 = .ok (.invokevirtual 72, 3) := by decide +kernel
theorem dX9_law_749 : decode cX9_law 749 = .ok (.aload_n 2, 1) := by decide +kernel
theorem dX9_law_750 : decode cX9_law 750 = .ok (.invokevirtual 75, 3) := by decide +kernel
theorem dX9_law_753 : decode cX9_law 753 = .ok (.if_icmp .eq 199, 3) := by decide +kernel
theorem dX9_law_756 : decode cX9_law 756 = .ok (.iconst 0, 1) := by decide +kernel
theorem dX9_law_757 : decode cX9_law 757 = .ok (.ireturn, 1) := by decide +kernel
theorem dX9_law_758 : decode cX9_law 758 = .ok (.aload_n 1, 1) := by decide +kernel
theorem dX9_law_759 : decode cX9_law 759 = .ok (.invokevirtual 76, 3) := by decide +kernel
theorem dX9_law_762 : decode cX9_law 762 = .ok (.aload_n 2, 1) := by decide +kernel
theorem dX9_law_763 : decode cX9_law 763 = .ok (.invokevirtual 79, 3) := by decide +kernel
theorem dX9_law_766 : decode cX9_law 766 = .ok (.if_icmp .eq 186, 3) := by decide +kernel
theorem dX9_law_769 : decode cX9_law 769 = .ok (.iconst 0, 1) := by decide +kernel
theorem dX9_law_770 : decode cX9_law 770 = .ok (.ireturn, 1) := by decide +kernel
theorem dX9_law_771 : decode cX9_law 771 = .ok (.aload_n 1, 1) := by decide +kernel
theorem dX9_law_772 : decode cX9_law 772 = .ok (.aload_n 0, 1) := by decide +kernel
theorem dX9_law_773 : decode cX9_law 773 = .ok (.iload_n 3, 1) := by decide +kernel
theorem dX9_law_774 : decode cX9_law 774 = .ok (.iconst 1, 1) := by decide +kernel
theorem dX9_law_775 : decode cX9_law 775 = .ok (.iadd, 1) := by decide +kernel
theorem dX9_law_776 : decode cX9_law 776 = .ok (.iaload, 1) := by decide +kernel
theorem dX9_law_777 : decode cX9_law 777 = .ok (.invokevirtual 80, 3) := by decide +kernel
theorem dX9_law_780 : decode cX9_law 780 = .ok (.aload_n 2, 1) := by decide +kernel
theorem dX9_law_781 : decode cX9_law 781 = .ok (.aload_n 0, 1) := by decide +kernel
theorem dX9_law_782 : decode cX9_law 782 = .ok (.iload_n 3, 1) := by decide +kernel
theorem dX9_law_783 : decode cX9_law 783 = .ok (.iconst 1, 1) := by decide +kernel
theorem dX9_law_784 : decode cX9_law 784 = .ok (.iadd, 1) := by decide +kernel
theorem dX9_law_785 : decode cX9_law 785 = .ok (.iaload, 1) := by decide +kernel
theorem dX9_law_786 : decode cX9_law 786 = .ok (.invokevirtual 83, 3) := by decide +kernel
theorem dX9_law_789 : decode cX9_law 789 = .ok (.if_icmp .eq 163, 3) := by decide +kernel
theorem dX9_law_792 : decode cX9_law 792 = .ok (.iconst 0, 1) := by decide +kernel
theorem dX9_law_793 : decode cX9_law 793 = .ok (.ireturn, 1) := by decide +kernel
theorem dX9_law_794 : decode cX9_law 794 = .ok (.aload_n 1, 1) := by decide +kernel
theorem dX9_law_795 : decode cX9_law 795 = .ok (.aload_n 0, 1) := by decide +kernel
theorem dX9_law_796 : decode cX9_law 796 = .ok (.iload_n 3, 1) := by decide +kernel
theorem dX9_law_797 : decode cX9_law 797 = .ok (.iconst 1, 1) := by decide +kernel
theorem dX9_law_798 : decode cX9_law 798 = .ok (.iadd, 1) := by decide +kernel
theorem dX9_law_799 : decode cX9_law 799 = .ok (.iaload, 1) := by decide +kernel
theorem dX9_law_800 : decode cX9_law 800 = .ok (.invokevirtual 84, 3) := by decide +kernel
theorem dX9_law_803 : decode cX9_law 803 = .ok (.aload_n 2, 1) := by decide +kernel
theorem dX9_law_804 : decode cX9_law 804 = .ok (.aload_n 0, 1) := by decide +kernel
theorem dX9_law_805 : decode cX9_law 805 = .ok (.iload_n 3, 1) := by decide +kernel
theorem dX9_law_806 : decode cX9_law 806 = .ok (.iconst 1, 1) := by decide +kernel
theorem dX9_law_807 : decode cX9_law 807 = .ok (.iadd, 1) := by decide +kernel
theorem dX9_law_808 : decode cX9_law 808 = .ok (.iaload, 1) := by decide +kernel
theorem dX9_law_809 : decode cX9_law 809 = .ok (.invokevirtual 88, 3) := by decide +kernel
theorem dX9_law_812 : decode cX9_law 812 = .ok (.lcmp, 1) := by decide +kernel
theorem dX9_law_813 : decode cX9_law 813 = .ok (.ifCond .eq 139, 3) := by decide +kernel
theorem dX9_law_816 : decode cX9_law 816 = .ok (.iconst 0, 1) := by decide +kernel
theorem dX9_law_817 : decode cX9_law 817 = .ok (.ireturn, 1) := by decide +kernel
theorem dX9_law_818 : decode cX9_law 818 = .ok (.aload_n 1, 1) := by decide +kernel
theorem dX9_law_819 : decode cX9_law 819 = .ok (.aload_n 0, 1) := by decide +kernel
theorem dX9_law_820 : decode cX9_law 820 = .ok (.iload_n 3, 1) := by decide +kernel
theorem dX9_law_821 : decode cX9_law 821 = .ok (.iconst 1, 1) := by decide +kernel
theorem dX9_law_822 : decode cX9_law 822 = .ok (.iadd, 1) := by decide +kernel
theorem dX9_law_823 : decode cX9_law 823 = .ok (.iaload, 1) := by decide +kernel
theorem dX9_law_824 : decode cX9_law 824 = .ok (.aload_n 0, 1) := by decide +kernel
theorem dX9_law_825 : decode cX9_law 825 = .ok (.iload_n 3, 1) := by decide +kernel
theorem dX9_law_826 : decode cX9_law 826 = .ok (.iconst 2, 1) := by decide +kernel
theorem dX9_law_827 : decode cX9_law 827 = .ok (.iadd, 1) := by decide +kernel
theorem dX9_law_828 : decode cX9_law 828 = .ok (.iaload, 1) := by decide +kernel
theorem dX9_law_829 : decode cX9_law 829 = .ok (.aload_n 0, 1) := by decide +kernel
theorem dX9_law_830 : decode cX9_law 830 = .ok (.iload_n 3, 1) := by decide +kernel
theorem dX9_law_831 : decode cX9_law 831 = .ok (.iconst 3, 1) := by decide +kernel
theorem dX9_law_832 : decode cX9_law 832 = .ok (.iadd, 1) := by decide +kernel
theorem dX9_law_833 : decode cX9_law 833 = .ok (.iaload, 1) := by decide +kernel
theorem dX9_law_834 : decode cX9_law 834 = .ok (.invokevirtual 89, 3) := by decide +kernel
theorem dX9_law_837 : decode cX9_law 837 = .ok (.aload_n 2, 1) := by decide +kernel
theorem dX9_law_838 : decode cX9_law 838 = .ok (.aload_n 0, 1) := by decide +kernel
theorem dX9_law_839 : decode cX9_law 839 = .ok (.iload_n 3, 1) := by decide +kernel
theorem dX9_law_840 : decode cX9_law 840 = .ok (.iconst 1, 1) := by decide +kernel
theorem dX9_law_841 : decode cX9_law 841 = .ok (.iadd, 1) := by decide +kernel
theorem dX9_law_842 : decode cX9_law 842 = .ok (.iaload, 1) := by decide +kernel
theorem dX9_law_843 : decode cX9_law 843 = .ok (.aload_n 0, 1) := by decide +kernel
theorem dX9_law_844 : decode cX9_law 844 = .ok (.iload_n 3, 1) := by decide +kernel
theorem dX9_law_845 : decode cX9_law 845 = .ok (.iconst 2, 1) := by decide +kernel
theorem dX9_law_846 : decode cX9_law 846 = .ok (.iadd, 1) := by decide +kernel
theorem dX9_law_847 : decode cX9_law 847 = .ok (.iaload, 1) := by decide +kernel
theorem dX9_law_848 : decode cX9_law 848 = .ok (.aload_n 0, 1) := by decide +kernel
theorem dX9_law_849 : decode cX9_law 849 = .ok (.iload_n 3, 1) := by decide +kernel
theorem dX9_law_850 : decode cX9_law 850 = .ok (.iconst 3, 1) := by decide +kernel
theorem dX9_law_851 : decode cX9_law 851 = .ok (.iadd, 1) := by decide +kernel
theorem dX9_law_852 : decode cX9_law 852 = .ok (.iaload, 1) := by decide +kernel
theorem dX9_law_853 : decode cX9_law 853 = .ok (.invokevirtual 93, 3) := by decide +kernel
theorem dX9_law_856 : decode cX9_law 856 = .ok (.lcmp, 1) := by decide +kernel
theorem dX9_law_857 : decode cX9_law 857 = .ok (.ifCond .eq 95, 3) := by decide +kernel
theorem dX9_law_860 : decode cX9_law 860 = .ok (.iconst 0, 1) := by decide +kernel
theorem dX9_law_861 : decode cX9_law 861 = .ok (.ireturn, 1) := by decide +kernel
theorem dX9_law_862 : decode cX9_law 862 = .ok (.aload_n 1, 1) := by decide +kernel
theorem dX9_law_863 : decode cX9_law 863 = .ok (.aload_n 0, 1) := by decide +kernel
theorem dX9_law_864 : decode cX9_law 864 = .ok (.iload_n 3, 1) := by decide +kernel
theorem dX9_law_865 : decode cX9_law 865 = .ok (.iconst 1, 1) := by decide +kernel
theorem dX9_law_866 : decode cX9_law 866 = .ok (.iadd, 1) := by decide +kernel
theorem dX9_law_867 : decode cX9_law 867 = .ok (.iaload, 1) := by decide +kernel
theorem dX9_law_868 : decode cX9_law 868 = .ok (.aload_n 0, 1) := by decide +kernel
theorem dX9_law_869 : decode cX9_law 869 = .ok (.iload_n 3, 1) := by decide +kernel
theorem dX9_law_870 : decode cX9_law 870 = .ok (.iconst 2, 1) := by decide +kernel
theorem dX9_law_871 : decode cX9_law 871 = .ok (.iadd, 1) := by decide +kernel
theorem dX9_law_872 : decode cX9_law 872 = .ok (.iaload, 1) := by decide +kernel
theorem dX9_law_873 : decode cX9_law 873 = .ok (.invokevirtual 94, 3) := by decide +kernel
theorem dX9_law_876 : decode cX9_law 876 = .ok (.aload_n 2, 1) := by decide +kernel
theorem dX9_law_877 : decode cX9_law 877 = .ok (.aload_n 0, 1) := by decide +kernel
theorem dX9_law_878 : decode cX9_law 878 = .ok (.iload_n 3, 1) := by decide +kernel
theorem dX9_law_879 : decode cX9_law 879 = .ok (.iconst 1, 1) := by decide +kernel
theorem dX9_law_880 : decode cX9_law 880 = .ok (.iadd, 1) := by decide +kernel
theorem dX9_law_881 : decode cX9_law 881 = .ok (.iaload, 1) := by decide +kernel
theorem dX9_law_882 : decode cX9_law 882 = .ok (.aload_n 0, 1) := by decide +kernel
theorem dX9_law_883 : decode cX9_law 883 = .ok (.iload_n 3, 1) := by decide +kernel
theorem dX9_law_884 : decode cX9_law 884 = .ok (.iconst 2, 1) := by decide +kernel
theorem dX9_law_885 : decode cX9_law 885 = .ok (.iadd, 1) := by decide +kernel
theorem dX9_law_886 : decode cX9_law 886 = .ok (.iaload, 1) := by decide +kernel
theorem dX9_law_887 : decode cX9_law 887 = .ok (.invokevirtual 98, 3) := by decide +kernel
theorem dX9_law_890 : decode cX9_law 890 = .ok (.lcmp, 1) := by decide +kernel
theorem dX9_law_891 : decode cX9_law 891 = .ok (.ifCond .eq 61, 3) := by decide +kernel
theorem dX9_law_894 : decode cX9_law 894 = .ok (.iconst 0, 1) := by decide +kernel
theorem dX9_law_895 : decode cX9_law 895 = .ok (.ireturn, 1) := by decide +kernel
theorem dX9_law_896 : decode cX9_law 896 = .ok (.aload_n 1, 1) := by decide +kernel
theorem dX9_law_897 : decode cX9_law 897 = .ok (.aload_n 0, 1) := by decide +kernel
theorem dX9_law_898 : decode cX9_law 898 = .ok (.iload_n 3, 1) := by decide +kernel
theorem dX9_law_899 : decode cX9_law 899 = .ok (.iconst 1, 1) := by decide +kernel
theorem dX9_law_900 : decode cX9_law 900 = .ok (.iadd, 1) := by decide +kernel
theorem dX9_law_901 : decode cX9_law 901 = .ok (.iaload, 1) := by decide +kernel
theorem dX9_law_902 : decode cX9_law 902 = .ok (.aload_n 0, 1) := by decide +kernel
theorem dX9_law_903 : decode cX9_law 903 = .ok (.iload_n 3, 1) := by decide +kernel
theorem dX9_law_904 : decode cX9_law 904 = .ok (.iconst 2, 1) := by decide +kernel
theorem dX9_law_905 : decode cX9_law 905 = .ok (.iadd, 1) := by decide +kernel
theorem dX9_law_906 : decode cX9_law 906 = .ok (.iaload, 1) := by decide +kernel
theorem dX9_law_907 : decode cX9_law 907 = .ok (.invokevirtual 99, 3) := by decide +kernel
theorem dX9_law_910 : decode cX9_law 910 = .ok (.aload_n 2, 1) := by decide +kernel
theorem dX9_law_911 : decode cX9_law 911 = .ok (.aload_n 0, 1) := by decide +kernel
theorem dX9_law_912 : decode cX9_law 912 = .ok (.iload_n 3, 1) := by decide +kernel
theorem dX9_law_913 : decode cX9_law 913 = .ok (.iconst 1, 1) := by decide +kernel
theorem dX9_law_914 : decode cX9_law 914 = .ok (.iadd, 1) := by decide +kernel
theorem dX9_law_915 : decode cX9_law 915 = .ok (.iaload, 1) := by decide +kernel
theorem dX9_law_916 : decode cX9_law 916 = .ok (.aload_n 0, 1) := by decide +kernel
theorem dX9_law_917 : decode cX9_law 917 = .ok (.iload_n 3, 1) := by decide +kernel
theorem dX9_law_918 : decode cX9_law 918 = .ok (.iconst 2, 1) := by decide +kernel
theorem dX9_law_919 : decode cX9_law 919 = .ok (.iadd, 1) := by decide +kernel
theorem dX9_law_920 : decode cX9_law 920 = .ok (.iaload, 1) := by decide +kernel
theorem dX9_law_921 : decode cX9_law 921 = .ok (.invokevirtual 102, 3) := by decide +kernel
theorem dX9_law_924 : decode cX9_law 924 = .ok (.if_icmp .eq 28, 3) := by decide +kernel
theorem dX9_law_927 : decode cX9_law 927 = .ok (.iconst 0, 1) := by decide +kernel
theorem dX9_law_928 : decode cX9_law 928 = .ok (.ireturn, 1) := by decide +kernel
theorem dX9_law_929 : decode cX9_law 929 = .ok (.aload_n 1, 1) := by decide +kernel
theorem dX9_law_930 : decode cX9_law 930 = .ok (.aload_n 0, 1) := by decide +kernel
theorem dX9_law_931 : decode cX9_law 931 = .ok (.iload_n 3, 1) := by decide +kernel
theorem dX9_law_932 : decode cX9_law 932 = .ok (.iconst 1, 1) := by decide +kernel
theorem dX9_law_933 : decode cX9_law 933 = .ok (.iadd, 1) := by decide +kernel
theorem dX9_law_934 : decode cX9_law 934 = .ok (.iaload, 1) := by decide +kernel
theorem dX9_law_935 : decode cX9_law 935 = .ok (.invokevirtual 103, 3) := by decide +kernel
theorem dX9_law_938 : decode cX9_law 938 = .ok (.aload_n 2, 1) := by decide +kernel
theorem dX9_law_939 : decode cX9_law 939 = .ok (.aload_n 0, 1) := by decide +kernel
theorem dX9_law_940 : decode cX9_law 940 = .ok (.iload_n 3, 1) := by decide +kernel
theorem dX9_law_941 : decode cX9_law 941 = .ok (.iconst 1, 1) := by decide +kernel
theorem dX9_law_942 : decode cX9_law 942 = .ok (.iadd, 1) := by decide +kernel
theorem dX9_law_943 : decode cX9_law 943 = .ok (.iaload, 1) := by decide +kernel
theorem dX9_law_944 : decode cX9_law 944 = .ok (.invokevirtual 106, 3) := by decide +kernel
theorem dX9_law_947 : decode cX9_law 947 = .ok (.if_icmp .eq 5, 3) := by decide +kernel
theorem dX9_law_950 : decode cX9_law 950 = .ok (.iconst 0, 1) := by decide +kernel
theorem dX9_law_951 : decode cX9_law 951 = .ok (.ireturn, 1) := by decide +kernel
theorem dX9_law_952 : decode cX9_law 952 = .ok (.iinc 3 6, 3) := by decide +kernel
theorem dX9_law_955 : decode cX9_law 955 = .ok (.goto (-937), 3) := by decide +kernel
theorem dX9_law_958 : decode cX9_law 958 = .ok (.iconst 1, 1) := by decide +kernel
theorem dX9_law_959 : decode cX9_law 959 = .ok (.ireturn, 1) := by decide +kernel
