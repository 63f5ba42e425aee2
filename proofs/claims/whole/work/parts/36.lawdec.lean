theorem d_L_0 : decode code 0 = .ok (.new 7, 3) := by decide +kernel
theorem d_L_3 : decode code 3 = .ok (.dup, 1) := by decide +kernel
theorem d_L_4 : decode code 4 = .ok (.invokespecial 9, 3) := by decide +kernel
theorem d_L_7 : decode code 7 = .ok (.astore_n 1, 1) := by decide +kernel
theorem d_L_8 : decode code 8 = .ok (.new 10, 3) := by decide +kernel
theorem d_L_11 : decode code 11 = .ok (.dup, 1) := by decide +kernel
theorem d_L_12 : decode code 12 = .ok (.invokespecial 12, 3) := by decide +kernel
theorem d_L_15 : decode code 15 = .ok (.astore_n 2, 1) := by decide +kernel
theorem d_L_16 : decode code 16 = .ok (.iconst 0, 1) := by decide +kernel
theorem d_L_17 : decode code 17 = .ok (.istore_n 3, 1) := by decide +kernel
theorem d_L_18 : decode code 18 = .ok (.iload_n 3, 1) := by decide +kernel
theorem d_L_19 : decode code 19 = .ok (.aload_n 0, 1) := by decide +kernel
theorem d_L_20 : decode code 20 = .ok (.arraylength, 1) := by decide +kernel
theorem d_L_21 : decode code 21 = .ok (.bipush 6, 2) := by decide +kernel
theorem d_L_23 : decode code 23 = .ok (.isub, 1) := by decide +kernel
theorem d_L_24 : decode code 24 = .ok (.if_icmp .gt 601, 3) := by decide +kernel
theorem d_L_27 : decode code 27 = .ok (.aload_n 0, 1) := by decide +kernel
theorem d_L_28 : decode code 28 = .ok (.iload_n 3, 1) := by decide +kernel
theorem d_L_29 : decode code 29 = .ok (.iaload, 1) := by decide +kernel
theorem d_L_30 : decode code 30 = .ok (.bipush 15, 2) := by decide +kernel
theorem d_L_32 : decode code 32 = .ok (.iand, 1) := by decide +kernel
theorem d_L_33 : decode code 33 = .ok (.tableswitch 586 0 15 #[79, 142, 185, 238, 291, 302, 315, 338, 351, 375, 408, 441, 474, 507, 530, 553], 79) := by decide +kernel
theorem d_L_112 : decode code 112 = .ok (.aload_n 1, 1) := by decide +kernel
theorem d_L_113 : decode code 113 = .ok (.aload_n 0, 1) := by decide +kernel
theorem d_L_114 : decode code 114 = .ok (.iload_n 3, 1) := by decide +kernel
theorem d_L_115 : decode code 115 = .ok (.iconst 1, 1) := by decide +kernel
theorem d_L_116 : decode code 116 = .ok (.iadd, 1) := by decide +kernel
theorem d_L_117 : decode code 117 = .ok (.iaload, 1) := by decide +kernel
theorem d_L_118 : decode code 118 = .ok (.aload_n 0, 1) := by decide +kernel
theorem d_L_119 : decode code 119 = .ok (.iload_n 3, 1) := by decide +kernel
theorem d_L_120 : decode code 120 = .ok (.iconst 2, 1) := by decide +kernel
theorem d_L_121 : decode code 121 = .ok (.iadd, 1) := by decide +kernel
theorem d_L_122 : decode code 122 = .ok (.iaload, 1) := by decide +kernel
theorem d_L_123 : decode code 123 = .ok (.aload_n 0, 1) := by decide +kernel
theorem d_L_124 : decode code 124 = .ok (.iload_n 3, 1) := by decide +kernel
theorem d_L_125 : decode code 125 = .ok (.iconst 3, 1) := by decide +kernel
theorem d_L_126 : decode code 126 = .ok (.iadd, 1) := by decide +kernel
theorem d_L_127 : decode code 127 = .ok (.iaload, 1) := by decide +kernel
theorem d_L_128 : decode code 128 = .ok (.aload_n 0, 1) := by decide +kernel
theorem d_L_129 : decode code 129 = .ok (.iload_n 3, 1) := by decide +kernel
theorem d_L_130 : decode code 130 = .ok (.iconst 4, 1) := by decide +kernel
theorem d_L_131 : decode code 131 = .ok (.iadd, 1) := by decide +kernel
theorem d_L_132 : decode code 132 = .ok (.iaload, 1) := by decide +kernel
theorem d_L_133 : decode code 133 = .ok (.aload_n 0, 1) := by decide +kernel
theorem d_L_134 : decode code 134 = .ok (.iload_n 3, 1) := by decide +kernel
theorem d_L_135 : decode code 135 = .ok (.iconst 5, 1) := by decide +kernel
theorem d_L_136 : decode code 136 = .ok (.iadd, 1) := by decide +kernel
theorem d_L_137 : decode code 137 = .ok (.iaload, 1) := by decide +kernel
theorem d_L_138 : decode code 138 = .ok (.invokevirtual 13, 3) := by decide +kernel
theorem d_L_141 : decode code 141 = .ok (.aload_n 2, 1) := by decide +kernel
theorem d_L_142 : decode code 142 = .ok (.aload_n 0, 1) := by decide +kernel
theorem d_L_143 : decode code 143 = .ok (.iload_n 3, 1) := by decide +kernel
theorem d_L_144 : decode code 144 = .ok (.iconst 1, 1) := by decide +kernel
theorem d_L_145 : decode code 145 = .ok (.iadd, 1) := by decide +kernel
theorem d_L_146 : decode code 146 = .ok (.iaload, 1) := by decide +kernel
theorem d_L_147 : decode code 147 = .ok (.aload_n 0, 1) := by decide +kernel
theorem d_L_148 : decode code 148 = .ok (.iload_n 3, 1) := by decide +kernel
theorem d_L_149 : decode code 149 = .ok (.iconst 2, 1) := by decide +kernel
theorem d_L_150 : decode code 150 = .ok (.iadd, 1) := by decide +kernel
theorem d_L_151 : decode code 151 = .ok (.iaload, 1) := by decide +kernel
theorem d_L_152 : decode code 152 = .ok (.aload_n 0, 1) := by decide +kernel
theorem d_L_153 : decode code 153 = .ok (.iload_n 3, 1) := by decide +kernel
theorem d_L_154 : decode code 154 = .ok (.iconst 3, 1) := by decide +kernel
theorem d_L_155 : decode code 155 = .ok (.iadd, 1) := by decide +kernel
theorem d_L_156 : decode code 156 = .ok (.iaload, 1) := by decide +kernel
theorem d_L_157 : decode code 157 = .ok (.aload_n 0, 1) := by decide +kernel
theorem d_L_158 : decode code 158 = .ok (.iload_n 3, 1) := by decide +kernel
theorem d_L_159 : decode code 159 = .ok (.iconst 4, 1) := by decide +kernel
theorem d_L_160 : decode code 160 = .ok (.iadd, 1) := by decide +kernel
theorem d_L_161 : decode code 161 = .ok (.iaload, 1) := by decide +kernel
theorem d_L_162 : decode code 162 = .ok (.aload_n 0, 1) := by decide +kernel
theorem d_L_163 : decode code 163 = .ok (.iload_n 3, 1) := by decide +kernel
theorem d_L_164 : decode code 164 = .ok (.iconst 5, 1) := by decide +kernel
theorem d_L_165 : decode code 165 = .ok (.iadd, 1) := by decide +kernel
theorem d_L_166 : decode code 166 = .ok (.iaload, 1) := by decide +kernel
theorem d_L_167 : decode code 167 = .ok (.invokevirtual 17, 3) := by decide +kernel
theorem d_L_170 : decode code 170 = .ok (.if_icmp .eq 449, 3) := by decide +kernel
theorem d_L_173 : decode code 173 = .ok (.iconst 0, 1) := by decide +kernel
theorem d_L_174 : decode code 174 = .ok (.ireturn, 1) := by decide +kernel
theorem d_L_175 : decode code 175 = .ok (.aload_n 1, 1) := by decide +kernel
theorem d_L_176 : decode code 176 = .ok (.aload_n 0, 1) := by decide +kernel
theorem d_L_177 : decode code 177 = .ok (.iload_n 3, 1) := by decide +kernel
theorem d_L_178 : decode code 178 = .ok (.iconst 1, 1) := by decide +kernel
theorem d_L_179 : decode code 179 = .ok (.iadd, 1) := by decide +kernel
theorem d_L_180 : decode code 180 = .ok (.iaload, 1) := by decide +kernel
theorem d_L_181 : decode code 181 = .ok (.aload_n 0, 1) := by decide +kernel
theorem d_L_182 : decode code 182 = .ok (.iload_n 3, 1) := by decide +kernel
theorem d_L_183 : decode code 183 = .ok (.iconst 2, 1) := by decide +kernel
theorem d_L_184 : decode code 184 = .ok (.iadd, 1) := by decide +kernel
theorem d_L_185 : decode code 185 = .ok (.iaload, 1) := by decide +kernel
theorem d_L_186 : decode code 186 = .ok (.aload_n 0, 1) := by decide +kernel
theorem d_L_187 : decode code 187 = .ok (.iload_n 3, 1) := by decide +kernel
theorem d_L_188 : decode code 188 = .ok (.iconst 3, 1) := by decide +kernel
theorem d_L_189 : decode code 189 = .ok (.iadd, 1) := by decide +kernel
theorem d_L_190 : decode code 190 = .ok (.iaload, 1) := by decide +kernel
theorem d_L_191 : decode code 191 = .ok (.invokevirtual 18, 3) := by decide +kernel
theorem d_L_194 : decode code 194 = .ok (.aload_n 2, 1) := by decide +kernel
theorem d_L_195 : decode code 195 = .ok (.aload_n 0, 1) := by decide +kernel
theorem d_L_196 : decode code 196 = .ok (.iload_n 3, 1) := by decide +kernel
theorem d_L_197 : decode code 197 = .ok (.iconst 1, 1) := by decide +kernel
theorem d_L_198 : decode code 198 = .ok (.iadd, 1) := by decide +kernel
theorem d_L_199 : decode code 199 = .ok (.iaload, 1) := by decide +kernel
theorem d_L_200 : decode code 200 = .ok (.aload_n 0, 1) := by decide +kernel
theorem d_L_201 : decode code 201 = .ok (.iload_n 3, 1) := by decide +kernel
theorem d_L_202 : decode code 202 = .ok (.iconst 2, 1) := by decide +kernel
theorem d_L_203 : decode code 203 = .ok (.iadd, 1) := by decide +kernel
theorem d_L_204 : decode code 204 = .ok (.iaload, 1) := by decide +kernel
theorem d_L_205 : decode code 205 = .ok (.aload_n 0, 1) := by decide +kernel
theorem d_L_206 : decode code 206 = .ok (.iload_n 3, 1) := by decide +kernel
theorem d_L_207 : decode code 207 = .ok (.iconst 3, 1) := by decide +kernel
theorem d_L_208 : decode code 208 = .ok (.iadd, 1) := by decide +kernel
theorem d_L_209 : decode code 209 = .ok (.iaload, 1) := by decide +kernel
theorem d_L_210 : decode code 210 = .ok (.invokevirtual 22, 3) := by decide +kernel
theorem d_L_213 : decode code 213 = .ok (.if_icmp .eq 406, 3) := by decide +kernel
theorem d_L_216 : decode code 216 = .ok (.iconst 0, 1) := by decide +kernel
theorem d_L_217 : decode code 217 = .ok (.ireturn, 1) := by decide +kernel
theorem d_L_218 : decode code 218 = .ok (.aload_n 1, 1) := by decide +kernel
theorem d_L_219 : decode code 219 = .ok (.aload_n 0, 1) := by decide +kernel
theorem d_L_220 : decode code 220 = .ok (.iload_n 3, 1) := by decide +kernel
theorem d_L_221 : decode code 221 = .ok (.iconst 1, 1) := by decide +kernel
theorem d_L_222 : decode code 222 = .ok (.iadd, 1) := by decide +kernel
theorem d_L_223 : decode code 223 = .ok (.iaload, 1) := by decide +kernel
theorem d_L_224 : decode code 224 = .ok (.aload_n 0, 1) := by decide +kernel
theorem d_L_225 : decode code 225 = .ok (.iload_n 3, 1) := by decide +kernel
theorem d_L_226 : decode code 226 = .ok (.iconst 2, 1) := by decide +kernel
theorem d_L_227 : decode code 227 = .ok (.iadd, 1) := by decide +kernel
theorem d_L_228 : decode code 228 = .ok (.iaload, 1) := by decide +kernel
theorem d_L_229 : decode code 229 = .ok (.aload_n 0, 1) := by decide +kernel
theorem d_L_230 : decode code 230 = .ok (.iload_n 3, 1) := by decide +kernel
theorem d_L_231 : decode code 231 = .ok (.iconst 3, 1) := by decide +kernel
theorem d_L_232 : decode code 232 = .ok (.iadd, 1) := by decide +kernel
theorem d_L_233 : decode code 233 = .ok (.iaload, 1) := by decide +kernel
theorem d_L_234 : decode code 234 = .ok (.aload_n 0, 1) := by decide +kernel
theorem d_L_235 : decode code 235 = .ok (.iload_n 3, 1) := by decide +kernel
theorem d_L_236 : decode code 236 = .ok (.iconst 4, 1) := by decide +kernel
theorem d_L_237 : decode code 237 = .ok (.iadd, 1) := by decide +kernel
theorem d_L_238 : decode code 238 = .ok (.iaload, 1) := by decide +kernel
theorem d_L_239 : decode code 239 = .ok (.invokevirtual 23, 3) := by decide +kernel
theorem d_L_242 : decode code 242 = .ok (.aload_n 2, 1) := by decide +kernel
theorem d_L_243 : decode code 243 = .ok (.aload_n 0, 1) := by decide +kernel
theorem d_L_244 : decode code 244 = .ok (.iload_n 3, 1) := by decide +kernel
theorem d_L_245 : decode code 245 = .ok (.iconst 1, 1) := by decide +kernel
theorem d_L_246 : decode code 246 = .ok (.iadd, 1) := by decide +kernel
theorem d_L_247 : decode code 247 = .ok (.iaload, 1) := by decide +kernel
theorem d_L_248 : decode code 248 = .ok (.aload_n 0, 1) := by decide +kernel
theorem d_L_249 : decode code 249 = .ok (.iload_n 3, 1) := by decide +kernel
theorem d_L_250 : decode code 250 = .ok (.iconst 2, 1) := by decide +kernel
theorem d_L_251 : decode code 251 = .ok (.iadd, 1) := by decide +kernel
theorem d_L_252 : decode code 252 = .ok (.iaload, 1) := by decide +kernel
theorem d_L_253 : decode code 253 = .ok (.aload_n 0, 1) := by decide +kernel
theorem d_L_254 : decode code 254 = .ok (.iload_n 3, 1) := by decide +kernel
theorem d_L_255 : decode code 255 = .ok (.iconst 3, 1) := by decide +kernel
theorem d_L_256 : decode code 256 = .ok (.iadd, 1) := by decide +kernel
theorem d_L_257 : decode code 257 = .ok (.iaload, 1) := by decide +kernel
theorem d_L_258 : decode code 258 = .ok (.aload_n 0, 1) := by decide +kernel
theorem d_L_259 : decode code 259 = .ok (.iload_n 3, 1) := by decide +kernel
theorem d_L_260 : decode code 260 = .ok (.iconst 4, 1) := by decide +kernel
theorem d_L_261 : decode code 261 = .ok (.iadd, 1) := by decide +kernel
theorem d_L_262 : decode code 262 = .ok (.iaload, 1) := by decide +kernel
theorem d_L_263 : decode code 263 = .ok (.invokevirtual 27, 3) := by decide +kernel
theorem d_L_266 : decode code 266 = .ok (.if_icmp .eq 353, 3) := by decide +kernel
theorem d_L_269 : decode code 269 = .ok (.iconst 0, 1) := by decide +kernel
theorem d_L_270 : decode code 270 = .ok (.ireturn, 1) := by decide +kernel
theorem d_L_271 : decode code 271 = .ok (.aload_n 1, 1) := by decide +kernel
theorem d_L_272 : decode code 272 = .ok (.aload_n 0, 1) := by decide +kernel
theorem d_L_273 : decode code 273 = .ok (.iload_n 3, 1) := by decide +kernel
theorem d_L_274 : decode code 274 = .ok (.iconst 1, 1) := by decide +kernel
theorem d_L_275 : decode code 275 = .ok (.iadd, 1) := by decide +kernel
theorem d_L_276 : decode code 276 = .ok (.iaload, 1) := by decide +kernel
theorem d_L_277 : decode code 277 = .ok (.aload_n 0, 1) := by decide +kernel
theorem d_L_278 : decode code 278 = .ok (.iload_n 3, 1) := by decide +kernel
theorem d_L_279 : decode code 279 = .ok (.iconst 2, 1) := by decide +kernel
theorem d_L_280 : decode code 280 = .ok (.iadd, 1) := by decide +kernel
theorem d_L_281 : decode code 281 = .ok (.iaload, 1) := by decide +kernel
theorem d_L_282 : decode code 282 = .ok (.aload_n 0, 1) := by decide +kernel
theorem d_L_283 : decode code 283 = .ok (.iload_n 3, 1) := by decide +kernel
theorem d_L_284 : decode code 284 = .ok (.iconst 3, 1) := by decide +kernel
theorem d_L_285 : decode code 285 = .ok (.iadd, 1) := by decide +kernel
theorem d_L_286 : decode code 286 = .ok (.iaload, 1) := by decide +kernel
theorem d_L_287 : decode code 287 = .ok (.aload_n 0, 1) := by decide +kernel
theorem d_L_288 : decode code 288 = .ok (.iload_n 3, 1) := by decide +kernel
theorem d_L_289 : decode code 289 = .ok (.iconst 4, 1) := by decide +kernel
theorem d_L_290 : decode code 290 = .ok (.iadd, 1) := by decide +kernel
theorem d_L_291 : decode code 291 = .ok (.iaload, 1) := by decide +kernel
theorem d_L_292 : decode code 292 = .ok (.invokevirtual 28, 3) := by decide +kernel
theorem d_L_295 : decode code 295 = .ok (.aload_n 2, 1) := by decide +kernel
theorem d_L_296 : decode code 296 = .ok (.aload_n 0, 1) := by decide +kernel
theorem d_L_297 : decode code 297 = .ok (.iload_n 3, 1) := by decide +kernel
theorem d_L_298 : decode code 298 = .ok (.iconst 1, 1) := by decide +kernel
theorem d_L_299 : decode code 299 = .ok (.iadd, 1) := by decide +kernel
theorem d_L_300 : decode code 300 = .ok (.iaload, 1) := by decide +kernel
theorem d_L_301 : decode code 301 = .ok (.aload_n 0, 1) := by decide +kernel
theorem d_L_302 : decode code 302 = .ok (.iload_n 3, 1) := by decide +kernel
theorem d_L_303 : decode code 303 = .ok (.iconst 2, 1) := by decide +kernel
theorem d_L_304 : decode code 304 = .ok (.iadd, 1) := by decide +kernel
theorem d_L_305 : decode code 305 = .ok (.iaload, 1) := by decide +kernel
theorem d_L_306 : decode code 306 = .ok (.aload_n 0, 1) := by decide +kernel
theorem d_L_307 : decode code 307 = .ok (.iload_n 3, 1) := by decide +kernel
theorem d_L_308 : decode code 308 = .ok (.iconst 3, 1) := by decide +kernel
theorem d_L_309 : decode code 309 = .ok (.iadd, 1) := by decide +kernel
theorem d_L_310 : decode code 310 = .ok (.iaload, 1) := by decide +kernel
theorem d_L_311 : decode code 311 = .ok (.aload_n 0, 1) := by decide +kernel
theorem d_L_312 : decode code 312 = .ok (.iload_n 3, 1) := by decide +kernel
theorem d_L_313 : decode code 313 = .ok (.iconst 4, 1) := by decide +kernel
theorem d_L_314 : decode code 314 = .ok (.iadd, 1) := by decide +kernel
theorem d_L_315 : decode code 315 = .ok (.iaload, 1) := by decide +kernel
theorem d_L_316 : decode code 316 = .ok (.invokevirtual 32, 3) := by decide +kernel
theorem d_L_319 : decode code 319 = .ok (.if_icmp .eq 300, 3) := by decide +kernel
theorem d_L_322 : decode code 322 = .ok (.iconst 0, 1) := by decide +kernel
theorem d_L_323 : decode code 323 = .ok (.ireturn, 1) := by decide +kernel
theorem d_L_324 : decode code 324 = .ok (.aload_n 1, 1) := by decide +kernel
theorem d_L_325 : decode code 325 = .ok (.invokevirtual 33, 3) := by decide +kernel
theorem d_L_328 : decode code 328 = .ok (.aload_n 2, 1) := by decide +kernel
theorem d_L_329 : decode code 329 = .ok (.invokevirtual 36, 3) := by decide +kernel
theorem d_L_332 : decode code 332 = .ok (.goto 287, 3) := by decide +kernel
theorem d_L_335 : decode code 335 = .ok (.aload_n 1, 1) := by decide +kernel
theorem d_L_336 : decode code 336 = .ok (.invokevirtual 37, 3) := by decide +kernel
theorem d_L_339 : decode code 339 = .ok (.aload_n 2, 1) := by decide +kernel
theorem d_L_340 : decode code 340 = .ok (.invokevirtual 41, 3) := by decide +kernel
theorem d_L_343 : decode code 343 = .ok (.if_icmp .eq 276, 3) := by decide +kernel
theorem d_L_346 : decode code 346 = .ok (.iconst 0, 1) := by decide +kernel
theorem d_L_347 : decode code 347 = .ok (.ireturn, 1) := by decide +kernel
theorem d_L_348 : decode code 348 = .ok (.aload_n 1, 1) := by decide +kernel
theorem d_L_349 : decode code 349 = .ok (.aload_n 0, 1) := by decide +kernel
theorem d_L_350 : decode code 350 = .ok (.iload_n 3, 1) := by decide +kernel
theorem d_L_351 : decode code 351 = .ok (.iconst 1, 1) := by decide +kernel
theorem d_L_352 : decode code 352 = .ok (.iadd, 1) := by decide +kernel
theorem d_L_353 : decode code 353 = .ok (.iaload, 1) := by decide +kernel
theorem d_L_354 : decode code 354 = .ok (.invokevirtual 42, 3) := by decide +kernel
theorem d_L_357 : decode code 357 = .ok (.aload_n 2, 1) := by decide +kernel
theorem d_L_358 : decode code 358 = .ok (.aload_n 0, 1) := by decide +kernel
theorem d_L_359 : decode code 359 = .ok (.iload_n 3, 1) := by decide +kernel
theorem d_L_360 : decode code 360 = .ok (.iconst 1, 1) := by decide +kernel
theorem d_L_361 : decode code 361 = .ok (.iadd, 1) := by decide +kernel
theorem d_L_362 : decode code 362 = .ok (.iaload, 1) := by decide +kernel
theorem d_L_363 : decode code 363 = .ok (.invokevirtual 46, 3) := by decide +kernel
theorem d_L_366 : decode code 366 = .ok (.if_icmp .eq 253, 3) := by decide +kernel
theorem d_L_369 : decode code 369 = .ok (.iconst 0, 1) := by decide +kernel
theorem d_L_370 : decode code 370 = .ok (.ireturn, 1) := by decide +kernel
theorem d_L_371 : decode code 371 = .ok (.aload_n 1, 1) := by decide +kernel
theorem d_L_372 : decode code 372 = .ok (.invokevirtual 47, 3) := by decide +kernel
theorem d_L_375 : decode code 375 = .ok (.aload_n 2, 1) := by decide +kernel
theorem d_L_376 : decode code 376 = .ok (.invokevirtual 51, 3) := by decide +kernel
theorem d_L_379 : decode code 379 = .ok (.if_icmp .eq 240, 3) := by decide +kernel
theorem d_L_382 : decode code 382 = .ok (.iconst 0, 1) := by decide +kernel
theorem d_L_383 : decode code 383 = .ok (.ireturn, 1) := by decide +kernel
theorem d_L_384 : decode code 384 = .ok (.aload_n 1, 1) := by decide +kernel
theorem d_L_385 : decode code 385 = .ok (.aload_n 0, 1) := by decide +kernel
theorem d_L_386 : decode code 386 = .ok (.iload_n 3, 1) := by decide +kernel
theorem d_L_387 : decode code 387 = .ok (.iconst 1, 1) := by decide +kernel
theorem d_L_388 : decode code 388 = .ok (.iadd, 1) := by decide +kernel
theorem d_L_389 : decode code 389 = .ok (.iaload, 1) := by decide +kernel
theorem d_L_390 : decode code 390 = .ok (.invokevirtual 52, 3) := by decide +kernel
theorem d_L_393 : decode code 393 = .ok (.aload_n 2, 1) := by decide +kernel
theorem d_L_394 : decode code 394 = .ok (.aload_n 0, 1) := by decide +kernel
theorem d_L_395 : decode code 395 = .ok (.iload_n 3, 1) := by decide +kernel
theorem d_L_396 : decode code 396 = .ok (.iconst 1, 1) := by decide +kernel
theorem d_L_397 : decode code 397 = .ok (.iadd, 1) := by decide +kernel
theorem d_L_398 : decode code 398 = .ok (.iaload, 1) := by decide +kernel
theorem d_L_399 : decode code 399 = .ok (.invokevirtual 56, 3) := by decide +kernel
theorem d_L_402 : decode code 402 = .ok (.lcmp, 1) := by decide +kernel
theorem d_L_403 : decode code 403 = .ok (.ifCond .eq 216, 3) := by decide +kernel
theorem d_L_406 : decode code 406 = .ok (.iconst 0, 1) := by decide +kernel
theorem d_L_407 : decode code 407 = .ok (.ireturn, 1) := by decide +kernel
theorem d_L_408 : decode code 408 = .ok (.aload_n 1, 1) := by decide +kernel
theorem d_L_409 : decode code 409 = .ok (.aload_n 0, 1) := by decide +kernel
theorem d_L_410 : decode code 410 = .ok (.iload_n 3, 1) := by decide +kernel
theorem d_L_411 : decode code 411 = .ok (.iconst 1, 1) := by decide +kernel
theorem d_L_412 : decode code 412 = .ok (.iadd, 1) := by decide +kernel
theorem d_L_413 : decode code 413 = .ok (.iaload, 1) := by decide +kernel
theorem d_L_414 : decode code 414 = .ok (.aload_n 0, 1) := by decide +kernel
theorem d_L_415 : decode code 415 = .ok (.iload_n 3, 1) := by decide +kernel
theorem d_L_416 : decode code 416 = .ok (.iconst 2, 1) := by decide +kernel
theorem d_L_417 : decode code 417 = .ok (.iadd, 1) := by decide +kernel
theorem d_L_418 : decode code 418 = .ok (.iaload, 1) := by decide +kernel
theorem d_L_419 : decode code 419 = .ok (.invokevirtual 57, 3) := by decide +kernel
theorem d_L_422 : decode code 422 = .ok (.aload_n 2, 1) := by decide +kernel
theorem d_L_423 : decode code 423 = .ok (.aload_n 0, 1) := by decide +kernel
theorem d_L_424 : decode code 424 = .ok (.iload_n 3, 1) := by decide +kernel
theorem d_L_425 : decode code 425 = .ok (.iconst 1, 1) := by decide +kernel
theorem d_L_426 : decode code 426 = .ok (.iadd, 1) := by decide +kernel
theorem d_L_427 : decode code 427 = .ok (.iaload, 1) := by decide +kernel
theorem d_L_428 : decode code 428 = .ok (.aload_n 0, 1) := by decide +kernel
theorem d_L_429 : decode code 429 = .ok (.iload_n 3, 1) := by decide +kernel
theorem d_L_430 : decode code 430 = .ok (.iconst 2, 1) := by decide +kernel
theorem d_L_431 : decode code 431 = .ok (.iadd, 1) := by decide +kernel
theorem d_L_432 : decode code 432 = .ok (.iaload, 1) := by decide +kernel
theorem d_L_433 : decode code 433 = .ok (.invokevirtual 61, 3) := by decide +kernel
theorem d_L_436 : decode code 436 = .ok (.if_icmp .eq 183, 3) := by decide +kernel
theorem d_L_439 : decode code 439 = .ok (.iconst 0, 1) := by decide +kernel
theorem d_L_440 : decode code 440 = .ok (.ireturn, 1) := by decide +kernel
theorem d_L_441 : decode code 441 = .ok (.aload_n 1, 1) := by decide +kernel
theorem d_L_442 : decode code 442 = .ok (.aload_n 0, 1) := by decide +kernel
theorem d_L_443 : decode code 443 = .ok (.iload_n 3, 1) := by decide +kernel
theorem d_L_444 : decode code 444 = .ok (.iconst 1, 1) := by decide +kernel
theorem d_L_445 : decode code 445 = .ok (.iadd, 1) := by decide +kernel
theorem d_L_446 : decode code 446 = .ok (.iaload, 1) := by decide +kernel
theorem d_L_447 : decode code 447 = .ok (.aload_n 0, 1) := by decide +kernel
theorem d_L_448 : decode code 448 = .ok (.iload_n 3, 1) := by decide +kernel
theorem d_L_449 : decode code 449 = .ok (.iconst 2, 1) := by decide +kernel
theorem d_L_450 : decode code 450 = .ok (.iadd, 1) := by decide +kernel
theorem d_L_451 : decode code 451 = .ok (.iaload, 1) := by decide +kernel
theorem d_L_452 : decode code 452 = .ok (.invokevirtual 62, 3) := by decide +kernel
theorem d_L_455 : decode code 455 = .ok (.aload_n 2, 1) := by decide +kernel
theorem d_L_456 : decode code 456 = .ok (.aload_n 0, 1) := by decide +kernel
theorem d_L_457 : decode code 457 = .ok (.iload_n 3, 1) := by decide +kernel
theorem d_L_458 : decode code 458 = .ok (.iconst 1, 1) := by decide +kernel
theorem d_L_459 : decode code 459 = .ok (.iadd, 1) := by decide +kernel
theorem d_L_460 : decode code 460 = .ok (.iaload, 1) := by decide +kernel
theorem d_L_461 : decode code 461 = .ok (.aload_n 0, 1) := by decide +kernel
theorem d_L_462 : decode code 462 = .ok (.iload_n 3, 1) := by decide +kernel
theorem d_L_463 : decode code 463 = .ok (.iconst 2, 1) := by decide +kernel
theorem d_L_464 : decode code 464 = .ok (.iadd, 1) := by decide +kernel
theorem d_L_465 : decode code 465 = .ok (.iaload, 1) := by decide +kernel
theorem d_L_466 : decode code 466 = .ok (.invokevirtual 65, 3) := by decide +kernel
theorem d_L_469 : decode code 469 = .ok (.if_icmp .eq 150, 3) := by decide +kernel
theorem d_L_472 : decode code 472 = .ok (.iconst 0, 1) := by decide +kernel
theorem d_L_473 : decode code 473 = .ok (.ireturn, 1) := by decide +kernel
theorem d_L_474 : decode code 474 = .ok (.aload_n 1, 1) := by decide +kernel
theorem d_L_475 : decode code 475 = .ok (.aload_n 0, 1) := by decide +kernel
theorem d_L_476 : decode code 476 = .ok (.iload_n 3, 1) := by decide +kernel
theorem d_L_477 : decode code 477 = .ok (.iconst 1, 1) := by decide +kernel
theorem d_L_478 : decode code 478 = .ok (.iadd, 1) := by decide +kernel
theorem d_L_479 : decode code 479 = .ok (.iaload, 1) := by decide +kernel
theorem d_L_480 : decode code 480 = .ok (.aload_n 0, 1) := by decide +kernel
theorem d_L_481 : decode code 481 = .ok (.iload_n 3, 1) := by decide +kernel
theorem d_L_482 : decode code 482 = .ok (.iconst 2, 1) := by decide +kernel
theorem d_L_483 : decode code 483 = .ok (.iadd, 1) := by decide +kernel
theorem d_L_484 : decode code 484 = .ok (.iaload, 1) := by decide +kernel
theorem d_L_485 : decode code 485 = .ok (.invokevirtual 66, 3) := by decide +kernel
theorem d_L_488 : decode code 488 = .ok (.aload_n 2, 1) := by decide +kernel
theorem d_L_489 : decode code 489 = .ok (.aload_n 0, 1) := by decide +kernel
theorem d_L_490 : decode code 490 = .ok (.iload_n 3, 1) := by decide +kernel
theorem d_L_491 : decode code 491 = .ok (.iconst 1, 1) := by decide +kernel
theorem d_L_492 : decode code 492 = .ok (.iadd, 1) := by decide +kernel
theorem d_L_493 : decode code 493 = .ok (.iaload, 1) := by decide +kernel
theorem d_L_494 : decode code 494 = .ok (.aload_n 0, 1) := by decide +kernel
theorem d_L_495 : decode code 495 = .ok (.iload_n 3, 1) := by decide +kernel
theorem d_L_496 : decode code 496 = .ok (.iconst 2, 1) := by decide +kernel
theorem d_L_497 : decode code 497 = .ok (.iadd, 1) := by decide +kernel
theorem d_L_498 : decode code 498 = .ok (.iaload, 1) := by decide +kernel
theorem d_L_499 : decode code 499 = .ok (.invokevirtual 69, 3) := by decide +kernel
theorem d_L_502 : decode code 502 = .ok (.if_icmp .eq 117, 3) := by decide +kernel
theorem d_L_505 : decode code 505 = .ok (.iconst 0, 1) := by decide +kernel
theorem d_L_506 : decode code 506 = .ok (.ireturn, 1) := by decide +kernel
theorem d_L_507 : decode code 507 = .ok (.aload_n 1, 1) := by decide +kernel
theorem d_L_508 : decode code 508 = .ok (.aload_n 0, 1) := by decide +kernel
theorem d_L_509 : decode code 509 = .ok (.iload_n 3, 1) := by decide +kernel
theorem d_L_510 : decode code 510 = .ok (.iconst 1, 1) := by decide +kernel
theorem d_L_511 : decode code 511 = .ok (.iadd, 1) := by decide +kernel
theorem d_L_512 : decode code 512 = .ok (.iaload, 1) := by decide +kernel
theorem d_L_513 : decode code 513 = .ok (.aload_n 0, 1) := by decide +kernel
theorem d_L_514 : decode code 514 = .ok (.iload_n 3, 1) := by decide +kernel
theorem d_L_515 : decode code 515 = .ok (.iconst 2, 1) := by decide +kernel
theorem d_L_516 : decode code 516 = .ok (.iadd, 1) := by decide +kernel
theorem d_L_517 : decode code 517 = .ok (.iaload, 1) := by decide +kernel
theorem d_L_518 : decode code 518 = .ok (.invokevirtual 70, 3) := by decide +kernel
theorem d_L_521 : decode code 521 = .ok (.aload_n 2, 1) := by decide +kernel
theorem d_L_522 : decode code 522 = .ok (.aload_n 0, 1) := by decide +kernel
theorem d_L_523 : decode code 523 = .ok (.iload_n 3, 1) := by decide +kernel
theorem d_L_524 : decode code 524 = .ok (.iconst 1, 1) := by decide +kernel
theorem d_L_525 : decode code 525 = .ok (.iadd, 1) := by decide +kernel
theorem d_L_526 : decode code 526 = .ok (.iaload, 1) := by decide +kernel
theorem d_L_527 : decode code 527 = .ok (.aload_n 0, 1) := by decide +kernel
theorem d_L_528 : decode code 528 = .ok (.iload_n 3, 1) := by decide +kernel
theorem d_L_529 : decode code 529 = .ok (.iconst 2, 1) := by decide +kernel
theorem d_L_530 : decode code 530 = .ok (.iadd, 1) := by decide +kernel
theorem d_L_531 : decode code 531 = .ok (.iaload, 1) := by decide +kernel
theorem d_L_532 : decode code 532 = .ok (.invokevirtual 73, 3) := by decide +kernel
theorem d_L_535 : decode code 535 = .ok (.if_icmp .eq 84, 3) := by decide +kernel
theorem d_L_538 : decode code 538 = .ok (.iconst 0, 1) := by decide +kernel
theorem d_L_539 : decode code 539 = .ok (.ireturn, 1) := by decide +kernel
theorem d_L_540 : decode code 540 = .ok (.aload_n 1, 1) := by decide +kernel
theorem d_L_541 : decode code 541 = .ok (.aload_n 0, 1) := by decide +kernel
theorem d_L_542 : decode code 542 = .ok (.iload_n 3, 1) := by decide +kernel
theorem d_L_543 : decode code 543 = .ok (.iconst 1, 1) := by decide +kernel
theorem d_L_544 : decode code 544 = .ok (.iadd, 1) := by decide +kernel
theorem d_L_545 : decode code 545 = .ok (.iaload, 1) := by decide +kernel
theorem d_L_546 : decode code 546 = .ok (.invokevirtual 74, 3) := by decide +kernel
theorem d_L_549 : decode code 549 = .ok (.aload_n 2, 1) := by decide +kernel
theorem d_L_550 : decode code 550 = .ok (.aload_n 0, 1) := by decide +kernel
theorem d_L_551 : decode code 551 = .ok (.iload_n 3, 1) := by decide +kernel
theorem d_L_552 : decode code 552 = .ok (.iconst 1, 1) := by decide +kernel
theorem d_L_553 : decode code 553 = .ok (.iadd, 1) := by decide +kernel
theorem d_L_554 : decode code 554 = .ok (.iaload, 1) := by decide +kernel
theorem d_L_555 : decode code 555 = .ok (.invokevirtual 77, 3) := by decide +kernel
theorem d_L_558 : decode code 558 = .ok (.if_icmp .eq 61, 3) := by decide +kernel
theorem d_L_561 : decode code 561 = .ok (.iconst 0, 1) := by decide +kernel
theorem d_L_562 : decode code 562 = .ok (.ireturn, 1) := by decide +kernel
theorem d_L_563 : decode code 563 = .ok (.aload_n 1, 1) := by decide +kernel
theorem d_L_564 : decode code 564 = .ok (.aload_n 0, 1) := by decide +kernel
theorem d_L_565 : decode code 565 = .ok (.iload_n 3, 1) := by decide +kernel
theorem d_L_566 : decode code 566 = .ok (.iconst 1, 1) := by decide +kernel
theorem d_L_567 : decode code 567 = .ok (.iadd, 1) := by decide +kernel
theorem d_L_568 : decode code 568 = .ok (.iaload, 1) := by decide +kernel
theorem d_L_569 : decode code 569 = .ok (.invokevirtual 78, 3) := by decide +kernel
theorem d_L_572 : decode code 572 = .ok (.aload_n 2, 1) := by decide +kernel
theorem d_L_573 : decode code 573 = .ok (.aload_n 0, 1) := by decide +kernel
theorem d_L_574 : decode code 574 = .ok (.iload_n 3, 1) := by decide +kernel
theorem d_L_575 : decode code 575 = .ok (.iconst 1, 1) := by decide +kernel
theorem d_L_576 : decode code 576 = .ok (.iadd, 1) := by decide +kernel
theorem d_L_577 : decode code 577 = .ok (.iaload, 1) := by decide +kernel
theorem d_L_578 : decode code 578 = .ok (.invokevirtual 81, 3) := by decide +kernel
theorem d_L_581 : decode code 581 = .ok (.if_icmp .eq 38, 3) := by decide +kernel
theorem d_L_584 : decode code 584 = .ok (.iconst 0, 1) := by decide +kernel
theorem d_L_585 : decode code 585 = .ok (.ireturn, 1) := by decide +kernel
theorem d_L_586 : decode code 586 = .ok (.aload_n 1, 1) := by decide +kernel
theorem d_L_587 : decode code 587 = .ok (.aload_n 0, 1) := by decide +kernel
theorem d_L_588 : decode code 588 = .ok (.iload_n 3, 1) := by decide +kernel
theorem d_L_589 : decode code 589 = .ok (.iconst 1, 1) := by decide +kernel
theorem d_L_590 : decode code 590 = .ok (.iadd, 1) := by decide +kernel
theorem d_L_591 : decode code 591 = .ok (.iaload, 1) := by decide +kernel
theorem d_L_592 : decode code 592 = .ok (.aload_n 0, 1) := by decide +kernel
theorem d_L_593 : decode code 593 = .ok (.iload_n 3, 1) := by decide +kernel
theorem d_L_594 : decode code 594 = .ok (.iconst 2, 1) := by decide +kernel
theorem d_L_595 : decode code 595 = .ok (.iadd, 1) := by decide +kernel
theorem d_L_596 : decode code 596 = .ok (.iaload, 1) := by decide +kernel
theorem d_L_597 : decode code 597 = .ok (.invokevirtual 82, 3) := by decide +kernel
theorem d_L_600 : decode code 600 = .ok (.aload_n 2, 1) := by decide +kernel
theorem d_L_601 : decode code 601 = .ok (.aload_n 0, 1) := by decide +kernel
theorem d_L_602 : decode code 602 = .ok (.iload_n 3, 1) := by decide +kernel
theorem d_L_603 : decode code 603 = .ok (.iconst 1, 1) := by decide +kernel
theorem d_L_604 : decode code 604 = .ok (.iadd, 1) := by decide +kernel
theorem d_L_605 : decode code 605 = .ok (.iaload, 1) := by decide +kernel
theorem d_L_606 : decode code 606 = .ok (.aload_n 0, 1) := by decide +kernel
theorem d_L_607 : decode code 607 = .ok (.iload_n 3, 1) := by decide +kernel
theorem d_L_608 : decode code 608 = .ok (.iconst 2, 1) := by decide +kernel
theorem d_L_609 : decode code 609 = .ok (.iadd, 1) := by decide +kernel
theorem d_L_610 : decode code 610 = .ok (.iaload, 1) := by decide +kernel
theorem d_L_611 : decode code 611 = .ok (.invokevirtual 85, 3) := by decide +kernel
theorem d_L_614 : decode code 614 = .ok (.if_icmp .eq 5, 3) := by decide +kernel
theorem d_L_617 : decode code 617 = .ok (.iconst 0, 1) := by decide +kernel
theorem d_L_618 : decode code 618 = .ok (.ireturn, 1) := by decide +kernel
theorem d_L_619 : decode code 619 = .ok (.iinc 3 6, 3) := by decide +kernel
theorem d_L_622 : decode code 622 = .ok (.goto (-604), 3) := by decide +kernel
theorem d_L_625 : decode code 625 = .ok (.iconst 1, 1) := by decide +kernel
theorem d_L_626 : decode code 626 = .ok (.ireturn, 1) := by decide +kernel
