theorem d_Lw_law_0 : decode code 0 = .ok (.new 7, 3) := by decide +kernel
theorem d_Lw_law_3 : decode code 3 = .ok (.dup, 1) := by decide +kernel
theorem d_Lw_law_4 : decode code 4 = .ok (.invokespecial 9, 3) := by decide +kernel
theorem d_Lw_law_7 : decode code 7 = .ok (.astore_n 1, 1) := by decide +kernel
theorem d_Lw_law_8 : decode code 8 = .ok (.new 10, 3) := by decide +kernel
theorem d_Lw_law_11 : decode code 11 = .ok (.dup, 1) := by decide +kernel
theorem d_Lw_law_12 : decode code 12 = .ok (.invokespecial 12, 3) := by decide +kernel
theorem d_Lw_law_15 : decode code 15 = .ok (.astore_n 2, 1) := by decide +kernel
theorem d_Lw_law_16 : decode code 16 = .ok (.iconst 0, 1) := by decide +kernel
theorem d_Lw_law_17 : decode code 17 = .ok (.istore_n 3, 1) := by decide +kernel
theorem d_Lw_law_18 : decode code 18 = .ok (.iload_n 3, 1) := by decide +kernel
theorem d_Lw_law_19 : decode code 19 = .ok (.aload_n 0, 1) := by decide +kernel
theorem d_Lw_law_20 : decode code 20 = .ok (.arraylength, 1) := by decide +kernel
theorem d_Lw_law_21 : decode code 21 = .ok (.iconst 4, 1) := by decide +kernel
theorem d_Lw_law_22 : decode code 22 = .ok (.isub, 1) := by decide +kernel
theorem d_Lw_law_23 : decode code 23 = .ok (.if_icmp .gt 399, 3) := by decide +kernel
theorem d_Lw_law_26 : decode code 26 = .ok (.aload_n 0, 1) := by decide +kernel
theorem d_Lw_law_27 : decode code 27 = .ok (.iload_n 3, 1) := by decide +kernel
theorem d_Lw_law_28 : decode code 28 = .ok (.iaload, 1) := by decide +kernel
theorem d_Lw_law_29 : decode code 29 = .ok (.bipush 15, 2) := by decide +kernel
theorem d_Lw_law_31 : decode code 31 = .ok (.iand, 1) := by decide +kernel
theorem d_Lw_law_32 : decode code 32 = .ok (.tableswitch 384 0 13 #[72, 135, 148, 161, 174, 187, 210, 233, 256, 279, 302, 315, 338, 371], 72) := by decide +kernel
theorem d_Lw_law_104 : decode code 104 = .ok (.aload_n 1, 1) := by decide +kernel
theorem d_Lw_law_105 : decode code 105 = .ok (.aload_n 0, 1) := by decide +kernel
theorem d_Lw_law_106 : decode code 106 = .ok (.iload_n 3, 1) := by decide +kernel
theorem d_Lw_law_107 : decode code 107 = .ok (.iconst 1, 1) := by decide +kernel
theorem d_Lw_law_108 : decode code 108 = .ok (.iadd, 1) := by decide +kernel
theorem d_Lw_law_109 : decode code 109 = .ok (.iaload, 1) := by decide +kernel
theorem d_Lw_law_110 : decode code 110 = .ok (.i2l, 1) := by decide +kernel
theorem d_Lw_law_111 : decode code 111 = .ok (.bipush 32, 2) := by decide +kernel
theorem d_Lw_law_113 : decode code 113 = .ok (.lshl, 1) := by decide +kernel
theorem d_Lw_law_114 : decode code 114 = .ok (.aload_n 0, 1) := by decide +kernel
theorem d_Lw_law_115 : decode code 115 = .ok (.iload_n 3, 1) := by decide +kernel
theorem d_Lw_law_116 : decode code 116 = .ok (.iconst 2, 1) := by decide +kernel
theorem d_Lw_law_117 : decode code 117 = .ok (.iadd, 1) := by decide +kernel
theorem d_Lw_law_118 : decode code 118 = .ok (.iaload, 1) := by decide +kernel
theorem d_Lw_law_119 : decode code 119 = .ok (.i2l, 1) := by decide +kernel
theorem d_Lw_law_120 : decode code 120 = .ok (.ldc2_w 13, 3) := by decide +kernel
theorem d_Lw_law_123 : decode code 123 = .ok (.land, 1) := by decide +kernel
theorem d_Lw_law_124 : decode code 124 = .ok (.lor, 1) := by decide +kernel
theorem d_Lw_law_125 : decode code 125 = .ok (.aload_n 0, 1) := by decide +kernel
theorem d_Lw_law_126 : decode code 126 = .ok (.iload_n 3, 1) := by decide +kernel
theorem d_Lw_law_127 : decode code 127 = .ok (.iconst 3, 1) := by decide +kernel
theorem d_Lw_law_128 : decode code 128 = .ok (.iadd, 1) := by decide +kernel
theorem d_Lw_law_129 : decode code 129 = .ok (.iaload, 1) := by decide +kernel
theorem d_Lw_law_130 : decode code 130 = .ok (.invokevirtual 15, 3) := by decide +kernel
theorem d_Lw_law_133 : decode code 133 = .ok (.aload_n 2, 1) := by decide +kernel
theorem d_Lw_law_134 : decode code 134 = .ok (.aload_n 0, 1) := by decide +kernel
theorem d_Lw_law_135 : decode code 135 = .ok (.iload_n 3, 1) := by decide +kernel
theorem d_Lw_law_136 : decode code 136 = .ok (.iconst 1, 1) := by decide +kernel
theorem d_Lw_law_137 : decode code 137 = .ok (.iadd, 1) := by decide +kernel
theorem d_Lw_law_138 : decode code 138 = .ok (.iaload, 1) := by decide +kernel
theorem d_Lw_law_139 : decode code 139 = .ok (.i2l, 1) := by decide +kernel
theorem d_Lw_law_140 : decode code 140 = .ok (.bipush 32, 2) := by decide +kernel
theorem d_Lw_law_142 : decode code 142 = .ok (.lshl, 1) := by decide +kernel
theorem d_Lw_law_143 : decode code 143 = .ok (.aload_n 0, 1) := by decide +kernel
theorem d_Lw_law_144 : decode code 144 = .ok (.iload_n 3, 1) := by decide +kernel
theorem d_Lw_law_145 : decode code 145 = .ok (.iconst 2, 1) := by decide +kernel
theorem d_Lw_law_146 : decode code 146 = .ok (.iadd, 1) := by decide +kernel
theorem d_Lw_law_147 : decode code 147 = .ok (.iaload, 1) := by decide +kernel
theorem d_Lw_law_148 : decode code 148 = .ok (.i2l, 1) := by decide +kernel
theorem d_Lw_law_149 : decode code 149 = .ok (.ldc2_w 13, 3) := by decide +kernel
theorem d_Lw_law_152 : decode code 152 = .ok (.land, 1) := by decide +kernel
theorem d_Lw_law_153 : decode code 153 = .ok (.lor, 1) := by decide +kernel
theorem d_Lw_law_154 : decode code 154 = .ok (.aload_n 0, 1) := by decide +kernel
theorem d_Lw_law_155 : decode code 155 = .ok (.iload_n 3, 1) := by decide +kernel
theorem d_Lw_law_156 : decode code 156 = .ok (.iconst 3, 1) := by decide +kernel
theorem d_Lw_law_157 : decode code 157 = .ok (.iadd, 1) := by decide +kernel
theorem d_Lw_law_158 : decode code 158 = .ok (.iaload, 1) := by decide +kernel
theorem d_Lw_law_159 : decode code 159 = .ok (.invokevirtual 19, 3) := by decide +kernel
theorem d_Lw_law_162 : decode code 162 = .ok (.if_icmp .eq 254, 3) := by decide +kernel
theorem d_Lw_law_165 : decode code 165 = .ok (.iconst 0, 1) := by decide +kernel
theorem d_Lw_law_166 : decode code 166 = .ok (.ireturn, 1) := by decide +kernel
theorem d_Lw_law_167 : decode code 167 = .ok (.aload_n 1, 1) := by decide +kernel
theorem d_Lw_law_168 : decode code 168 = .ok (.invokevirtual 20, 3) := by decide +kernel
theorem d_Lw_law_171 : decode code 171 = .ok (.aload_n 2, 1) := by decide +kernel
theorem d_Lw_law_172 : decode code 172 = .ok (.invokevirtual 24, 3) := by decide +kernel
theorem d_Lw_law_175 : decode code 175 = .ok (.if_icmp .eq 241, 3) := by decide +kernel
theorem d_Lw_law_178 : decode code 178 = .ok (.iconst 0, 1) := by decide +kernel
theorem d_Lw_law_179 : decode code 179 = .ok (.ireturn, 1) := by decide +kernel
theorem d_Lw_law_180 : decode code 180 = .ok (.aload_n 1, 1) := by decide +kernel
theorem d_Lw_law_181 : decode code 181 = .ok (.invokevirtual 25, 3) := by decide +kernel
theorem d_Lw_law_184 : decode code 184 = .ok (.aload_n 2, 1) := by decide +kernel
theorem d_Lw_law_185 : decode code 185 = .ok (.invokevirtual 28, 3) := by decide +kernel
theorem d_Lw_law_188 : decode code 188 = .ok (.if_icmp .eq 228, 3) := by decide +kernel
theorem d_Lw_law_191 : decode code 191 = .ok (.iconst 0, 1) := by decide +kernel
theorem d_Lw_law_192 : decode code 192 = .ok (.ireturn, 1) := by decide +kernel
theorem d_Lw_law_193 : decode code 193 = .ok (.aload_n 1, 1) := by decide +kernel
theorem d_Lw_law_194 : decode code 194 = .ok (.invokevirtual 29, 3) := by decide +kernel
theorem d_Lw_law_197 : decode code 197 = .ok (.aload_n 2, 1) := by decide +kernel
theorem d_Lw_law_198 : decode code 198 = .ok (.invokevirtual 32, 3) := by decide +kernel
theorem d_Lw_law_201 : decode code 201 = .ok (.if_icmp .eq 215, 3) := by decide +kernel
theorem d_Lw_law_204 : decode code 204 = .ok (.iconst 0, 1) := by decide +kernel
theorem d_Lw_law_205 : decode code 205 = .ok (.ireturn, 1) := by decide +kernel
theorem d_Lw_law_206 : decode code 206 = .ok (.aload_n 1, 1) := by decide +kernel
theorem d_Lw_law_207 : decode code 207 = .ok (.invokevirtual 33, 3) := by decide +kernel
theorem d_Lw_law_210 : decode code 210 = .ok (.aload_n 2, 1) := by decide +kernel
theorem d_Lw_law_211 : decode code 211 = .ok (.invokevirtual 36, 3) := by decide +kernel
theorem d_Lw_law_214 : decode code 214 = .ok (.if_icmp .eq 202, 3) := by decide +kernel
theorem d_Lw_law_217 : decode code 217 = .ok (.iconst 0, 1) := by decide +kernel
theorem d_Lw_law_218 : decode code 218 = .ok (.ireturn, 1) := by decide +kernel
theorem d_Lw_law_219 : decode code 219 = .ok (.aload_n 1, 1) := by decide +kernel
theorem d_Lw_law_220 : decode code 220 = .ok (.aload_n 0, 1) := by decide +kernel
theorem d_Lw_law_221 : decode code 221 = .ok (.iload_n 3, 1) := by decide +kernel
theorem d_Lw_law_222 : decode code 222 = .ok (.iconst 1, 1) := by decide +kernel
theorem d_Lw_law_223 : decode code 223 = .ok (.iadd, 1) := by decide +kernel
theorem d_Lw_law_224 : decode code 224 = .ok (.iaload, 1) := by decide +kernel
theorem d_Lw_law_225 : decode code 225 = .ok (.invokevirtual 37, 3) := by decide +kernel
theorem d_Lw_law_228 : decode code 228 = .ok (.aload_n 2, 1) := by decide +kernel
theorem d_Lw_law_229 : decode code 229 = .ok (.aload_n 0, 1) := by decide +kernel
theorem d_Lw_law_230 : decode code 230 = .ok (.iload_n 3, 1) := by decide +kernel
theorem d_Lw_law_231 : decode code 231 = .ok (.iconst 1, 1) := by decide +kernel
theorem d_Lw_law_232 : decode code 232 = .ok (.iadd, 1) := by decide +kernel
theorem d_Lw_law_233 : decode code 233 = .ok (.iaload, 1) := by decide +kernel
theorem d_Lw_law_234 : decode code 234 = .ok (.invokevirtual 41, 3) := by decide +kernel
theorem d_Lw_law_237 : decode code 237 = .ok (.if_icmp .eq 179, 3) := by decide +kernel
theorem d_Lw_law_240 : decode code 240 = .ok (.iconst 0, 1) := by decide +kernel
theorem d_Lw_law_241 : decode code 241 = .ok (.ireturn, 1) := by decide +kernel
theorem d_Lw_law_242 : decode code 242 = .ok (.aload_n 1, 1) := by decide +kernel
theorem d_Lw_law_243 : decode code 243 = .ok (.aload_n 0, 1) := by decide +kernel
theorem d_Lw_law_244 : decode code 244 = .ok (.iload_n 3, 1) := by decide +kernel
theorem d_Lw_law_245 : decode code 245 = .ok (.iconst 1, 1) := by decide +kernel
theorem d_Lw_law_246 : decode code 246 = .ok (.iadd, 1) := by decide +kernel
theorem d_Lw_law_247 : decode code 247 = .ok (.iaload, 1) := by decide +kernel
theorem d_Lw_law_248 : decode code 248 = .ok (.invokevirtual 42, 3) := by decide +kernel
theorem d_Lw_law_251 : decode code 251 = .ok (.aload_n 2, 1) := by decide +kernel
theorem d_Lw_law_252 : decode code 252 = .ok (.aload_n 0, 1) := by decide +kernel
theorem d_Lw_law_253 : decode code 253 = .ok (.iload_n 3, 1) := by decide +kernel
theorem d_Lw_law_254 : decode code 254 = .ok (.iconst 1, 1) := by decide +kernel
theorem d_Lw_law_255 : decode code 255 = .ok (.iadd, 1) := by decide +kernel
theorem d_Lw_law_256 : decode code 256 = .ok (.iaload, 1) := by decide +kernel
theorem d_Lw_law_257 : decode code 257 = .ok (.invokevirtual 45, 3) := by decide +kernel
theorem d_Lw_law_260 : decode code 260 = .ok (.if_icmp .eq 156, 3) := by decide +kernel
theorem d_Lw_law_263 : decode code 263 = .ok (.iconst 0, 1) := by decide +kernel
theorem d_Lw_law_264 : decode code 264 = .ok (.ireturn, 1) := by decide +kernel
theorem d_Lw_law_265 : decode code 265 = .ok (.aload_n 1, 1) := by decide +kernel
theorem d_Lw_law_266 : decode code 266 = .ok (.aload_n 0, 1) := by decide +kernel
theorem d_Lw_law_267 : decode code 267 = .ok (.iload_n 3, 1) := by decide +kernel
theorem d_Lw_law_268 : decode code 268 = .ok (.iconst 1, 1) := by decide +kernel
theorem d_Lw_law_269 : decode code 269 = .ok (.iadd, 1) := by decide +kernel
theorem d_Lw_law_270 : decode code 270 = .ok (.iaload, 1) := by decide +kernel
theorem d_Lw_law_271 : decode code 271 = .ok (.invokevirtual 46, 3) := by decide +kernel
theorem d_Lw_law_274 : decode code 274 = .ok (.aload_n 2, 1) := by decide +kernel
theorem d_Lw_law_275 : decode code 275 = .ok (.aload_n 0, 1) := by decide +kernel
theorem d_Lw_law_276 : decode code 276 = .ok (.iload_n 3, 1) := by decide +kernel
theorem d_Lw_law_277 : decode code 277 = .ok (.iconst 1, 1) := by decide +kernel
theorem d_Lw_law_278 : decode code 278 = .ok (.iadd, 1) := by decide +kernel
theorem d_Lw_law_279 : decode code 279 = .ok (.iaload, 1) := by decide +kernel
theorem d_Lw_law_280 : decode code 280 = .ok (.invokevirtual 49, 3) := by decide +kernel
theorem d_Lw_law_283 : decode code 283 = .ok (.if_icmp .eq 133, 3) := by decide +kernel
theorem d_Lw_law_286 : decode code 286 = .ok (.iconst 0, 1) := by decide +kernel
theorem d_Lw_law_287 : decode code 287 = .ok (.ireturn, 1) := by decide +kernel
theorem d_Lw_law_288 : decode code 288 = .ok (.aload_n 1, 1) := by decide +kernel
theorem d_Lw_law_289 : decode code 289 = .ok (.aload_n 0, 1) := by decide +kernel
theorem d_Lw_law_290 : decode code 290 = .ok (.iload_n 3, 1) := by decide +kernel
theorem d_Lw_law_291 : decode code 291 = .ok (.iconst 1, 1) := by decide +kernel
theorem d_Lw_law_292 : decode code 292 = .ok (.iadd, 1) := by decide +kernel
theorem d_Lw_law_293 : decode code 293 = .ok (.iaload, 1) := by decide +kernel
theorem d_Lw_law_294 : decode code 294 = .ok (.invokevirtual 50, 3) := by decide +kernel
theorem d_Lw_law_297 : decode code 297 = .ok (.aload_n 2, 1) := by decide +kernel
theorem d_Lw_law_298 : decode code 298 = .ok (.aload_n 0, 1) := by decide +kernel
theorem d_Lw_law_299 : decode code 299 = .ok (.iload_n 3, 1) := by decide +kernel
theorem d_Lw_law_300 : decode code 300 = .ok (.iconst 1, 1) := by decide +kernel
theorem d_Lw_law_301 : decode code 301 = .ok (.iadd, 1) := by decide +kernel
theorem d_Lw_law_302 : decode code 302 = .ok (.iaload, 1) := by decide +kernel
theorem d_Lw_law_303 : decode code 303 = .ok (.invokevirtual 53, 3) := by decide +kernel
theorem d_Lw_law_306 : decode code 306 = .ok (.if_icmp .eq 110, 3) := by decide +kernel
theorem d_Lw_law_309 : decode code 309 = .ok (.iconst 0, 1) := by decide +kernel
theorem d_Lw_law_310 : decode code 310 = .ok (.ireturn, 1) := by decide +kernel
theorem d_Lw_law_311 : decode code 311 = .ok (.aload_n 1, 1) := by decide +kernel
theorem d_Lw_law_312 : decode code 312 = .ok (.aload_n 0, 1) := by decide +kernel
theorem d_Lw_law_313 : decode code 313 = .ok (.iload_n 3, 1) := by decide +kernel
theorem d_Lw_law_314 : decode code 314 = .ok (.iconst 1, 1) := by decide +kernel
theorem d_Lw_law_315 : decode code 315 = .ok (.iadd, 1) := by decide +kernel
theorem d_Lw_law_316 : decode code 316 = .ok (.iaload, 1) := by decide +kernel
theorem d_Lw_law_317 : decode code 317 = .ok (.invokevirtual 54, 3) := by decide +kernel
theorem d_Lw_law_320 : decode code 320 = .ok (.aload_n 2, 1) := by decide +kernel
theorem d_Lw_law_321 : decode code 321 = .ok (.aload_n 0, 1) := by decide +kernel
theorem d_Lw_law_322 : decode code 322 = .ok (.iload_n 3, 1) := by decide +kernel
theorem d_Lw_law_323 : decode code 323 = .ok (.iconst 1, 1) := by decide +kernel
theorem d_Lw_law_324 : decode code 324 = .ok (.iadd, 1) := by decide +kernel
theorem d_Lw_law_325 : decode code 325 = .ok (.iaload, 1) := by decide +kernel
theorem d_Lw_law_326 : decode code 326 = .ok (.invokevirtual 57, 3) := by decide +kernel
theorem d_Lw_law_329 : decode code 329 = .ok (.if_icmp .eq 87, 3) := by decide +kernel
theorem d_Lw_law_332 : decode code 332 = .ok (.iconst 0, 1) := by decide +kernel
theorem d_Lw_law_333 : decode code 333 = .ok (.ireturn, 1) := by decide +kernel
theorem d_Lw_law_334 : decode code 334 = .ok (.aload_n 1, 1) := by decide +kernel
theorem d_Lw_law_335 : decode code 335 = .ok (.invokevirtual 58, 3) := by decide +kernel
theorem d_Lw_law_338 : decode code 338 = .ok (.aload_n 2, 1) := by decide +kernel
theorem d_Lw_law_339 : decode code 339 = .ok (.invokevirtual 61, 3) := by decide +kernel
theorem d_Lw_law_342 : decode code 342 = .ok (.if_icmp .eq 74, 3) := by decide +kernel
theorem d_Lw_law_345 : decode code 345 = .ok (.iconst 0, 1) := by decide +kernel
theorem d_Lw_law_346 : decode code 346 = .ok (.ireturn, 1) := by decide +kernel
theorem d_Lw_law_347 : decode code 347 = .ok (.aload_n 1, 1) := by decide +kernel
theorem d_Lw_law_348 : decode code 348 = .ok (.aload_n 0, 1) := by decide +kernel
theorem d_Lw_law_349 : decode code 349 = .ok (.iload_n 3, 1) := by decide +kernel
theorem d_Lw_law_350 : decode code 350 = .ok (.iconst 1, 1) := by decide +kernel
theorem d_Lw_law_351 : decode code 351 = .ok (.iadd, 1) := by decide +kernel
theorem d_Lw_law_352 : decode code 352 = .ok (.iaload, 1) := by decide +kernel
theorem d_Lw_law_353 : decode code 353 = .ok (.invokevirtual 62, 3) := by decide +kernel
theorem d_Lw_law_356 : decode code 356 = .ok (.aload_n 2, 1) := by decide +kernel
theorem d_Lw_law_357 : decode code 357 = .ok (.aload_n 0, 1) := by decide +kernel
theorem d_Lw_law_358 : decode code 358 = .ok (.iload_n 3, 1) := by decide +kernel
theorem d_Lw_law_359 : decode code 359 = .ok (.iconst 1, 1) := by decide +kernel
theorem d_Lw_law_360 : decode code 360 = .ok (.iadd, 1) := by decide +kernel
theorem d_Lw_law_361 : decode code 361 = .ok (.iaload, 1) := by decide +kernel
theorem d_Lw_law_362 : decode code 362 = .ok (.invokevirtual 65, 3) := by decide +kernel
theorem d_Lw_law_365 : decode code 365 = .ok (.if_icmp .eq 51, 3) := by decide +kernel
theorem d_Lw_law_368 : decode code 368 = .ok (.iconst 0, 1) := by decide +kernel
theorem d_Lw_law_369 : decode code 369 = .ok (.ireturn, 1) := by decide +kernel
theorem d_Lw_law_370 : decode code 370 = .ok (.aload_n 1, 1) := by decide +kernel
theorem d_Lw_law_371 : decode code 371 = .ok (.aload_n 0, 1) := by decide +kernel
theorem d_Lw_law_372 : decode code 372 = .ok (.iload_n 3, 1) := by decide +kernel
theorem d_Lw_law_373 : decode code 373 = .ok (.iconst 1, 1) := by decide +kernel
theorem d_Lw_law_374 : decode code 374 = .ok (.iadd, 1) := by decide +kernel
theorem d_Lw_law_375 : decode code 375 = .ok (.iaload, 1) := by decide +kernel
theorem d_Lw_law_376 : decode code 376 = .ok (.aload_n 0, 1) := by decide +kernel
theorem d_Lw_law_377 : decode code 377 = .ok (.iload_n 3, 1) := by decide +kernel
theorem d_Lw_law_378 : decode code 378 = .ok (.iconst 2, 1) := by decide +kernel
theorem d_Lw_law_379 : decode code 379 = .ok (.iadd, 1) := by decide +kernel
theorem d_Lw_law_380 : decode code 380 = .ok (.iaload, 1) := by decide +kernel
theorem d_Lw_law_381 : decode code 381 = .ok (.invokevirtual 66, 3) := by decide +kernel
theorem d_Lw_law_384 : decode code 384 = .ok (.aload_n 2, 1) := by decide +kernel
theorem d_Lw_law_385 : decode code 385 = .ok (.aload_n 0, 1) := by decide +kernel
theorem d_Lw_law_386 : decode code 386 = .ok (.iload_n 3, 1) := by decide +kernel
theorem d_Lw_law_387 : decode code 387 = .ok (.iconst 1, 1) := by decide +kernel
theorem d_Lw_law_388 : decode code 388 = .ok (.iadd, 1) := by decide +kernel
theorem d_Lw_law_389 : decode code 389 = .ok (.iaload, 1) := by decide +kernel
theorem d_Lw_law_390 : decode code 390 = .ok (.aload_n 0, 1) := by decide +kernel
theorem d_Lw_law_391 : decode code 391 = .ok (.iload_n 3, 1) := by decide +kernel
theorem d_Lw_law_392 : decode code 392 = .ok (.iconst 2, 1) := by decide +kernel
theorem d_Lw_law_393 : decode code 393 = .ok (.iadd, 1) := by decide +kernel
theorem d_Lw_law_394 : decode code 394 = .ok (.iaload, 1) := by decide +kernel
theorem d_Lw_law_395 : decode code 395 = .ok (.invokevirtual 70, 3) := by decide +kernel
theorem d_Lw_law_398 : decode code 398 = .ok (.if_icmp .eq 18, 3) := by decide +kernel
theorem d_Lw_law_401 : decode code 401 = .ok (.iconst 0, 1) := by decide +kernel
theorem d_Lw_law_402 : decode code 402 = .ok (.ireturn, 1) := by decide +kernel
theorem d_Lw_law_403 : decode code 403 = .ok (.aload_n 1, 1) := by decide +kernel
theorem d_Lw_law_404 : decode code 404 = .ok (.invokevirtual 71, 3) := by decide +kernel
theorem d_Lw_law_407 : decode code 407 = .ok (.aload_n 2, 1) := by decide +kernel
theorem d_Lw_law_408 : decode code 408 = .ok (.invokevirtual 74, 3) := by decide +kernel
theorem d_Lw_law_411 : decode code 411 = .ok (.if_icmp .eq 5, 3) := by decide +kernel
theorem d_Lw_law_414 : decode code 414 = .ok (.iconst 0, 1) := by decide +kernel
theorem d_Lw_law_415 : decode code 415 = .ok (.ireturn, 1) := by decide +kernel
theorem d_Lw_law_416 : decode code 416 = .ok (.iinc 3 4, 3) := by decide +kernel
theorem d_Lw_law_419 : decode code 419 = .ok (.goto (-401), 3) := by decide +kernel
theorem d_Lw_law_422 : decode code 422 = .ok (.iconst 1, 1) := by decide +kernel
theorem d_Lw_law_423 : decode code 423 = .ok (.ireturn, 1) := by decide +kernel
