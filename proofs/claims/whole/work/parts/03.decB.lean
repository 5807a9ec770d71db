theorem dX11_init_0 : decode cX11_init 0 = .ok (.aload_n 0, 1) := by decide +kernel
theorem dX11_init_1 : decode cX11_init 1 = .ok (.invokespecial 1, 3) := by decide +kernel
theorem dX11_init_4 : decode cX11_init 4 = .ok (.aload_n 0, 1) := by decide +kernel
theorem dX11_init_5 : decode cX11_init 5 = .ok (.sipush 900, 3) := by decide +kernel
theorem dX11_init_8 : decode cX11_init 8 = .ok (.newarray .byte, 2) := by decide +kernel
theorem dX11_init_10 : decode cX11_init 10 = .ok (.putfield 7, 3) := by decide +kernel
theorem dX11_init_13 : decode cX11_init 13 = .ok (.aload_n 0, 1) := by decide +kernel
theorem dX11_init_14 : decode cX11_init 14 = .ok (.iconst (-1), 1) := by decide +kernel
theorem dX11_init_15 : decode cX11_init 15 = .ok (.putfield 13, 3) := by decide +kernel
theorem dX11_init_18 : decode cX11_init 18 = .ok (.aload_n 0, 1) := by decide +kernel
theorem dX11_init_19 : decode cX11_init 19 = .ok (.bipush 13, 2) := by decide +kernel
theorem dX11_init_21 : decode cX11_init 21 = .ok (.newarray .long, 2) := by decide +kernel
theorem dX11_init_23 : decode cX11_init 23 = .ok (.dup, 1) := by decide +kernel
theorem dX11_init_24 : decode cX11_init 24 = .ok (.iconst 0, 1) := by decide +kernel
theorem dX11_init_25 : decode cX11_init 25 = .ok (.lconst 0, 1) := by decide +kernel
theorem dX11_init_26 : decode cX11_init 26 = .ok (.lastore, 1) := by decide +kernel
theorem dX11_init_27 : decode cX11_init 27 = .ok (.dup, 1) := by decide +kernel
theorem dX11_init_28 : decode cX11_init 28 = .ok (.iconst 1, 1) := by decide +kernel
theorem dX11_init_29 : decode cX11_init 29 = .ok (.bipush 117, 2) := by decide +kernel
theorem dX11_init_31 : decode cX11_init 31 = .ok (.bipush 110, 2) := by decide +kernel
theorem dX11_init_33 : decode cX11_init 33 = .ok (.bipush 100, 2) := by decide +kernel
theorem dX11_init_35 : decode cX11_init 35 = .ok (.bipush 101, 2) := by decide +kernel
theorem dX11_init_37 : decode cX11_init 37 = .ok (.bipush 114, 2) := by decide +kernel
theorem dX11_init_39 : decode cX11_init 39 = .ok (.invokestatic 17, 3) := by decide +kernel
theorem dX11_init_42 : decode cX11_init 42 = .ok (.lastore, 1) := by decide +kernel
theorem dX11_init_43 : decode cX11_init 43 = .ok (.dup, 1) := by decide +kernel
theorem dX11_init_44 : decode cX11_init 44 = .ok (.iconst 2, 1) := by decide +kernel
theorem dX11_init_45 : decode cX11_init 45 = .ok (.bipush 99, 2) := by decide +kernel
theorem dX11_init_47 : decode cX11_init 47 = .ok (.bipush 111, 2) := by decide +kernel
theorem dX11_init_49 : decode cX11_init 49 = .ok (.bipush 110, 2) := by decide +kernel
theorem dX11_init_51 : decode cX11_init 51 = .ok (.bipush 115, 2) := by decide +kernel
theorem dX11_init_53 : decode cX11_init 53 = .ok (.bipush 116, 2) := by decide +kernel
theorem dX11_init_55 : decode cX11_init 55 = .ok (.invokestatic 17, 3) := by decide +kernel
theorem dX11_init_58 : decode cX11_init 58 = .ok (.lastore, 1) := by decide +kernel
theorem dX11_init_59 : decode cX11_init 59 = .ok (.dup, 1) := by decide +kernel
theorem dX11_init_60 : decode cX11_init 60 = .ok (.iconst 3, 1) := by decide +kernel
theorem dX11_init_61 : decode cX11_init 61 = .ok (.bipush 114, 2) := by decide +kernel
theorem dX11_init_63 : decode cX11_init 63 = .ok (.bipush 117, 2) := by decide +kernel
theorem dX11_init_65 : decode cX11_init 65 = .ok (.bipush 108, 2) := by decide +kernel
theorem dX11_init_67 : decode cX11_init 67 = .ok (.bipush 101, 2) := by decide +kernel
theorem dX11_init_69 : decode cX11_init 69 = .ok (.iconst 0, 1) := by decide +kernel
theorem dX11_init_70 : decode cX11_init 70 = .ok (.invokestatic 17, 3) := by decide +kernel
theorem dX11_init_73 : decode cX11_init 73 = .ok (.lastore, 1) := by decide +kernel
theorem dX11_init_74 : decode cX11_init 74 = .ok (.dup, 1) := by decide +kernel
theorem dX11_init_75 : decode cX11_init 75 = .ok (.iconst 4, 1) := by decide +kernel
theorem dX11_init_76 : decode cX11_init 76 = .ok (.bipush 116, 2) := by decide +kernel
theorem dX11_init_78 : decode cX11_init 78 = .ok (.bipush 97, 2) := by decide +kernel
theorem dX11_init_80 : decode cX11_init 80 = .ok (.bipush 98, 2) := by decide +kernel
theorem dX11_init_82 : decode cX11_init 82 = .ok (.bipush 108, 2) := by decide +kernel
theorem dX11_init_84 : decode cX11_init 84 = .ok (.bipush 101, 2) := by decide +kernel
theorem dX11_init_86 : decode cX11_init 86 = .ok (.invokestatic 17, 3) := by decide +kernel
theorem dX11_init_89 : decode cX11_init 89 = .ok (.lastore, 1) := by decide +kernel
theorem dX11_init_90 : decode cX11_init 90 = .ok (.dup, 1) := by decide +kernel
theorem dX11_init_91 : decode cX11_init 91 = .ok (.iconst 5, 1) := by decide +kernel
theorem dX11_init_92 : decode cX11_init 92 = .ok (.bipush 99, 2) := by decide +kernel
theorem dX11_init_94 : decode cX11_init 94 = .ok (.bipush 104, 2) := by decide +kernel
theorem dX11_init_96 : decode cX11_init 96 = .ok (.bipush 101, 2) := by decide +kernel
theorem dX11_init_98 : decode cX11_init 98 = .ok (.bipush 99, 2) := by decide +kernel
theorem dX11_init_100 : decode cX11_init 100 = .ok (.bipush 107, 2) := by decide +kernel
theorem dX11_init_102 : decode cX11_init 102 = .ok (.invokestatic 17, 3) := by decide +kernel
theorem dX11_init_105 : decode cX11_init 105 = .ok (.lastore, 1) := by decide +kernel
theorem dX11_init_106 : decode cX11_init 106 = .ok (.dup, 1) := by decide +kernel
theorem dX11_init_107 : decode cX11_init 107 = .ok (.bipush 6, 2) := by decide +kernel
theorem dX11_init_109 : decode cX11_init 109 = .ok (.bipush 116, 2) := by decide +kernel
theorem dX11_init_111 : decode cX11_init 111 = .ok (.bipush 114, 2) := by decide +kernel
theorem dX11_init_113 : decode cX11_init 113 = .ok (.bipush 121, 2) := by decide +kernel
theorem dX11_init_115 : decode cX11_init 115 = .ok (.iconst 0, 1) := by decide +kernel
theorem dX11_init_116 : decode cX11_init 116 = .ok (.iconst 0, 1) := by decide +kernel
theorem dX11_init_117 : decode cX11_init 117 = .ok (.invokestatic 17, 3) := by decide +kernel
theorem dX11_init_120 : decode cX11_init 120 = .ok (.lastore, 1) := by decide +kernel
theorem dX11_init_121 : decode cX11_init 121 = .ok (.dup, 1) := by decide +kernel
theorem dX11_init_122 : decode cX11_init 122 = .ok (.bipush 7, 2) := by decide +kernel
theorem dX11_init_124 : decode cX11_init 124 = .ok (.bipush 101, 2) := by decide +kernel
theorem dX11_init_126 : decode cX11_init 126 = .ok (.bipush 108, 2) := by decide +kernel
theorem dX11_init_128 : decode cX11_init 128 = .ok (.bipush 115, 2) := by decide +kernel
theorem dX11_init_130 : decode cX11_init 130 = .ok (.bipush 101, 2) := by decide +kernel
theorem dX11_init_132 : decode cX11_init 132 = .ok (.iconst 0, 1) := by decide +kernel
theorem dX11_init_133 : decode cX11_init 133 = .ok (.invokestatic 17, 3) := by decide +kernel
theorem dX11_init_136 : decode cX11_init 136 = .ok (.lastore, 1) := by decide +kernel
theorem dX11_init_137 : decode cX11_init 137 = .ok (.dup, 1) := by decide +kernel
theorem dX11_init_138 : decode cX11_init 138 = .ok (.bipush 8, 2) := by decide +kernel
theorem dX11_init_140 : decode cX11_init 140 = .ok (.bipush 97, 2) := by decide +kernel
theorem dX11_init_142 : decode cX11_init 142 = .ok (.bipush 116, 2) := by decide +kernel
theorem dX11_init_144 : decode cX11_init 144 = .ok (.iconst 0, 1) := by decide +kernel
theorem dX11_init_145 : decode cX11_init 145 = .ok (.iconst 0, 1) := by decide +kernel
theorem dX11_init_146 : decode cX11_init 146 = .ok (.iconst 0, 1) := by decide +kernel
theorem dX11_init_147 : decode cX11_init 147 = .ok (.invokestatic 17, 3) := by decide +kernel
theorem dX11_init_150 : decode cX11_init 150 = .ok (.lastore, 1) := by decide +kernel
theorem dX11_init_151 : decode cX11_init 151 = .ok (.dup, 1) := by decide +kernel
theorem dX11_init_152 : decode cX11_init 152 = .ok (.bipush 9, 2) := by decide +kernel
theorem dX11_init_154 : decode cX11_init 154 = .ok (.bipush 116, 2) := by decide +kernel
theorem dX11_init_156 : decode cX11_init 156 = .ok (.bipush 111, 2) := by decide +kernel
theorem dX11_init_158 : decode cX11_init 158 = .ok (.bipush 110, 2) := by decide +kernel
theorem dX11_init_160 : decode cX11_init 160 = .ok (.bipush 115, 2) := by decide +kernel
theorem dX11_init_162 : decode cX11_init 162 = .ok (.iconst 0, 1) := by decide +kernel
theorem dX11_init_163 : decode cX11_init 163 = .ok (.invokestatic 17, 3) := by decide +kernel
theorem dX11_init_166 : decode cX11_init 166 = .ok (.lastore, 1) := by decide +kernel
theorem dX11_init_167 : decode cX11_init 167 = .ok (.dup, 1) := by decide +kernel
theorem dX11_init_168 : decode cX11_init 168 = .ok (.bipush 10, 2) := by decide +kernel
theorem dX11_init_170 : decode cX11_init 170 = .ok (.bipush 99, 2) := by decide +kernel
theorem dX11_init_172 : decode cX11_init 172 = .ok (.bipush 97, 2) := by decide +kernel
theorem dX11_init_174 : decode cX11_init 174 = .ok (.bipush 114, 2) := by decide +kernel
theorem dX11_init_176 : decode cX11_init 176 = .ok (.bipush 103, 2) := by decide +kernel
theorem dX11_init_178 : decode cX11_init 178 = .ok (.bipush 111, 2) := by decide +kernel
theorem dX11_init_180 : decode cX11_init 180 = .ok (.invokestatic 17, 3) := by decide +kernel
theorem dX11_init_183 : decode cX11_init 183 = .ok (.lastore, 1) := by decide +kernel
theorem dX11_init_184 : decode cX11_init 184 = .ok (.dup, 1) := by decide +kernel
theorem dX11_init_185 : decode cX11_init 185 = .ok (.bipush 11, 2) := by decide +kernel
theorem dX11_init_187 : decode cX11_init 187 = .ok (.bipush 108, 2) := by decide +kernel
theorem dX11_init_189 : decode cX11_init 189 = .ok (.bipush 111, 2) := by decide +kernel
theorem dX11_init_191 : decode cX11_init 191 = .ok (.bipush 99, 2) := by decide +kernel
theorem dX11_init_193 : decode cX11_init 193 = .ok (.bipush 107, 2) := by decide +kernel
theorem dX11_init_195 : decode cX11_init 195 = .ok (.iconst 0, 1) := by decide +kernel
theorem dX11_init_196 : decode cX11_init 196 = .ok (.invokestatic 17, 3) := by decide +kernel
theorem dX11_init_199 : decode cX11_init 199 = .ok (.lastore, 1) := by decide +kernel
theorem dX11_init_200 : decode cX11_init 200 = .ok (.dup, 1) := by decide +kernel
theorem dX11_init_201 : decode cX11_init 201 = .ok (.bipush 12, 2) := by decide +kernel
theorem dX11_init_203 : decode cX11_init 203 = .ok (.bipush 100, 2) := by decide +kernel
theorem dX11_init_205 : decode cX11_init 205 = .ok (.bipush 97, 2) := by decide +kernel
theorem dX11_init_207 : decode cX11_init 207 = .ok (.bipush 121, 2) := by decide +kernel
theorem dX11_init_209 : decode cX11_init 209 = .ok (.iconst 0, 1) := by decide +kernel
theorem dX11_init_210 : decode cX11_init 210 = .ok (.iconst 0, 1) := by decide +kernel
theorem dX11_init_211 : decode cX11_init 211 = .ok (.invokestatic 17, 3) := by decide +kernel
theorem dX11_init_214 : decode cX11_init 214 = .ok (.lastore, 1) := by decide +kernel
theorem dX11_init_215 : decode cX11_init 215 = .ok (.putfield 21, 3) := by decide +kernel
theorem dX11_init_218 : decode cX11_init 218 = .ok (.aload_n 0, 1) := by decide +kernel
theorem dX11_init_219 : decode cX11_init 219 = .ok (.bipush 8, 2) := by decide +kernel
theorem dX11_init_221 : decode cX11_init 221 = .ok (.newarray .long, 2) := by decide +kernel
theorem dX11_init_223 : decode cX11_init 223 = .ok (.putfield 25, 3) := by decide +kernel
theorem dX11_init_226 : decode cX11_init 226 = .ok (.aload_n 0, 1) := by decide +kernel
theorem dX11_init_227 : decode cX11_init 227 = .ok (.bipush 8, 2) := by decide +kernel
theorem dX11_init_229 : decode cX11_init 229 = .ok (.newarray .int, 2) := by decide +kernel
theorem dX11_init_231 : decode cX11_init 231 = .ok (.putfield 28, 3) := by decide +kernel
theorem dX11_init_234 : decode cX11_init 234 = .ok (.aload_n 0, 1) := by decide +kernel
theorem dX11_init_235 : decode cX11_init 235 = .ok (.bipush 6, 2) := by decide +kernel
theorem dX11_init_237 : decode cX11_init 237 = .ok (.newarray .long, 2) := by decide +kernel
theorem dX11_init_239 : decode cX11_init 239 = .ok (.putfield 32, 3) := by decide +kernel
theorem dX11_init_242 : decode cX11_init 242 = .ok (.aload_n 0, 1) := by decide +kernel
theorem dX11_init_243 : decode cX11_init 243 = .ok (.bipush 6, 2) := by decide +kernel
theorem dX11_init_245 : decode cX11_init 245 = .ok (.newarray .int, 2) := by decide +kernel
theorem dX11_init_247 : decode cX11_init 247 = .ok (.putfield 35, 3) := by decide +kernel
theorem dX11_init_250 : decode cX11_init 250 = .ok (.aload_n 0, 1) := by decide +kernel
theorem dX11_init_251 : decode cX11_init 251 = .ok (.sipush 400, 3) := by decide +kernel
theorem dX11_init_254 : decode cX11_init 254 = .ok (.newarray .int, 2) := by decide +kernel
theorem dX11_init_256 : decode cX11_init 256 = .ok (.putfield 38, 3) := by decide +kernel
theorem dX11_init_259 : decode cX11_init 259 = .ok (.aload_n 0, 1) := by decide +kernel
theorem dX11_init_260 : decode cX11_init 260 = .ok (.sipush 400, 3) := by decide +kernel
theorem dX11_init_263 : decode cX11_init 263 = .ok (.newarray .int, 2) := by decide +kernel
theorem dX11_init_265 : decode cX11_init 265 = .ok (.putfield 41, 3) := by decide +kernel
theorem dX11_init_268 : decode cX11_init 268 = .ok (.aload_n 0, 1) := by decide +kernel
theorem dX11_init_269 : decode cX11_init 269 = .ok (.sipush 400, 3) := by decide +kernel
theorem dX11_init_272 : decode cX11_init 272 = .ok (.newarray .int, 2) := by decide +kernel
theorem dX11_init_274 : decode cX11_init 274 = .ok (.putfield 44, 3) := by decide +kernel
theorem dX11_init_277 : decode cX11_init 277 = .ok (.aload_n 0, 1) := by decide +kernel
theorem dX11_init_278 : decode cX11_init 278 = .ok (.sipush 2000, 3) := by decide +kernel
theorem dX11_init_281 : decode cX11_init 281 = .ok (.newarray .int, 2) := by decide +kernel
theorem dX11_init_283 : decode cX11_init 283 = .ok (.putfield 47, 3) := by decide +kernel
theorem dX11_init_286 : decode cX11_init 286 = .ok (.aload_n 0, 1) := by decide +kernel
theorem dX11_init_287 : decode cX11_init 287 = .ok (.sipush 2000, 3) := by decide +kernel
theorem dX11_init_290 : decode cX11_init 290 = .ok (.newarray .long, 2) := by decide +kernel
theorem dX11_init_292 : decode cX11_init 292 = .ok (.putfield 50, 3) := by decide +kernel
theorem dX11_init_295 : decode cX11_init 295 = .ok (.aload_n 0, 1) := by decide +kernel
theorem dX11_init_296 : decode cX11_init 296 = .ok (.sipush 2000, 3) := by decide +kernel
theorem dX11_init_299 : decode cX11_init 299 = .ok (.newarray .int, 2) := by decide +kernel
theorem dX11_init_301 : decode cX11_init 301 = .ok (.putfield 53, 3) := by decide +kernel
theorem dX11_init_304 : decode cX11_init 304 = .ok (.aload_n 0, 1) := by decide +kernel
theorem dX11_init_305 : decode cX11_init 305 = .ok (.bipush 60, 2) := by decide +kernel
theorem dX11_init_307 : decode cX11_init 307 = .ok (.newarray .boolean, 2) := by decide +kernel
theorem dX11_init_309 : decode cX11_init 309 = .ok (.putfield 56, 3) := by decide +kernel
theorem dX11_init_312 : decode cX11_init 312 = .ok (.aload_n 0, 1) := by decide +kernel
theorem dX11_init_313 : decode cX11_init 313 = .ok (.bipush 60, 2) := by decide +kernel
theorem dX11_init_315 : decode cX11_init 315 = .ok (.newarray .int, 2) := by decide +kernel
theorem dX11_init_317 : decode cX11_init 317 = .ok (.putfield 60, 3) := by decide +kernel
theorem dX11_init_320 : decode cX11_init 320 = .ok (.aload_n 0, 1) := by decide +kernel
theorem dX11_init_321 : decode cX11_init 321 = .ok (.bipush 60, 2) := by decide +kernel
theorem dX11_init_323 : decode cX11_init 323 = .ok (.newarray .int, 2) := by decide +kernel
theorem dX11_init_325 : decode cX11_init 325 = .ok (.putfield 63, 3) := by decide +kernel
theorem dX11_init_328 : decode cX11_init 328 = .ok (.aload_n 0, 1) := by decide +kernel
theorem dX11_init_329 : decode cX11_init 329 = .ok (.bipush 60, 2) := by decide +kernel
theorem dX11_init_331 : decode cX11_init 331 = .ok (.newarray .int, 2) := by decide +kernel
theorem dX11_init_333 : decode cX11_init 333 = .ok (.putfield 66, 3) := by decide +kernel
theorem dX11_init_336 : decode cX11_init 336 = .ok (.aload_n 0, 1) := by decide +kernel
theorem dX11_init_337 : decode cX11_init 337 = .ok (.sipush 480, 3) := by decide +kernel
theorem dX11_init_340 : decode cX11_init 340 = .ok (.newarray .long, 2) := by decide +kernel
theorem dX11_init_342 : decode cX11_init 342 = .ok (.putfield 69, 3) := by decide +kernel
theorem dX11_init_345 : decode cX11_init 345 = .ok (.aload_n 0, 1) := by decide +kernel
theorem dX11_init_346 : decode cX11_init 346 = .ok (.sipush 480, 3) := by decide +kernel
theorem dX11_init_349 : decode cX11_init 349 = .ok (.newarray .int, 2) := by decide +kernel
theorem dX11_init_351 : decode cX11_init 351 = .ok (.putfield 72, 3) := by decide +kernel
theorem dX11_init_354 : decode cX11_init 354 = .ok (.aload_n 0, 1) := by decide +kernel
theorem dX11_init_355 : decode cX11_init 355 = .ok (.bipush 60, 2) := by decide +kernel
theorem dX11_init_357 : decode cX11_init 357 = .ok (.newarray .int, 2) := by decide +kernel
theorem dX11_init_359 : decode cX11_init 359 = .ok (.putfield 75, 3) := by decide +kernel
theorem dX11_init_362 : decode cX11_init 362 = .ok (.aload_n 0, 1) := by decide +kernel
theorem dX11_init_363 : decode cX11_init 363 = .ok (.sipush 360, 3) := by decide +kernel
theorem dX11_init_366 : decode cX11_init 366 = .ok (.newarray .long, 2) := by decide +kernel
theorem dX11_init_368 : decode cX11_init 368 = .ok (.putfield 78, 3) := by decide +kernel
theorem dX11_init_371 : decode cX11_init 371 = .ok (.aload_n 0, 1) := by decide +kernel
theorem dX11_init_372 : decode cX11_init 372 = .ok (.sipush 360, 3) := by decide +kernel
theorem dX11_init_375 : decode cX11_init 375 = .ok (.newarray .int, 2) := by decide +kernel
theorem dX11_init_377 : decode cX11_init 377 = .ok (.putfield 81, 3) := by decide +kernel
theorem dX11_init_380 : decode cX11_init 380 = .ok (.aload_n 0, 1) := by decide +kernel
theorem dX11_init_381 : decode cX11_init 381 = .ok (.bipush 60, 2) := by decide +kernel
theorem dX11_init_383 : decode cX11_init 383 = .ok (.newarray .int, 2) := by decide +kernel
theorem dX11_init_385 : decode cX11_init 385 = .ok (.putfield 84, 3) := by decide +kernel
theorem dX11_init_388 : decode cX11_init 388 = .ok (.aload_n 0, 1) := by decide +kernel
theorem dX11_init_389 : decode cX11_init 389 = .ok (.sipush 7200, 3) := by decide +kernel
theorem dX11_init_392 : decode cX11_init 392 = .ok (.newarray .int, 2) := by decide +kernel
theorem dX11_init_394 : decode cX11_init 394 = .ok (.putfield 87, 3) := by decide +kernel
theorem dX11_init_397 : decode cX11_init 397 = .ok (.aload_n 0, 1) := by decide +kernel
theorem dX11_init_398 : decode cX11_init 398 = .ok (.sipush 7200, 3) := by decide +kernel
theorem dX11_init_401 : decode cX11_init 401 = .ok (.newarray .int, 2) := by decide +kernel
theorem dX11_init_403 : decode cX11_init 403 = .ok (.putfield 90, 3) := by decide +kernel
theorem dX11_init_406 : decode cX11_init 406 = .ok (.aload_n 0, 1) := by decide +kernel
theorem dX11_init_407 : decode cX11_init 407 = .ok (.sipush 7200, 3) := by decide +kernel
theorem dX11_init_410 : decode cX11_init 410 = .ok (.newarray .int, 2) := by decide +kernel
theorem dX11_init_412 : decode cX11_init 412 = .ok (.putfield 93, 3) := by decide +kernel
theorem dX11_init_415 : decode cX11_init 415 = .ok (.aload_n 0, 1) := by decide +kernel
theorem dX11_init_416 : decode cX11_init 416 = .ok (.bipush 60, 2) := by decide +kernel
theorem dX11_init_418 : decode cX11_init 418 = .ok (.newarray .int, 2) := by decide +kernel
theorem dX11_init_420 : decode cX11_init 420 = .ok (.putfield 96, 3) := by decide +kernel
theorem dX11_init_423 : decode cX11_init 423 = .ok (.aload_n 0, 1) := by decide +kernel
theorem dX11_init_424 : decode cX11_init 424 = .ok (.ldc 99, 2) := by decide +kernel
theorem dX11_init_426 : decode cX11_init 426 = .ok (.newarray .int, 2) := by decide +kernel
theorem dX11_init_428 : decode cX11_init 428 = .ok (.putfield 100, 3) := by decide +kernel
theorem dX11_init_431 : decode cX11_init 431 = .ok (.aload_n 0, 1) := by decide +kernel
theorem dX11_init_432 : decode cX11_init 432 = .ok (.ldc 99, 2) := by decide +kernel
theorem dX11_init_434 : decode cX11_init 434 = .ok (.newarray .long, 2) := by decide +kernel
theorem dX11_init_436 : decode cX11_init 436 = .ok (.putfield 103, 3) := by decide +kernel
theorem dX11_init_439 : decode cX11_init 439 = .ok (.aload_n 0, 1) := by decide +kernel
theorem dX11_init_440 : decode cX11_init 440 = .ok (.ldc 99, 2) := by decide +kernel
theorem dX11_init_442 : decode cX11_init 442 = .ok (.newarray .int, 2) := by decide +kernel
theorem dX11_init_444 : decode cX11_init 444 = .ok (.putfield 106, 3) := by decide +kernel
theorem dX11_init_447 : decode cX11_init 447 = .ok (.aload_n 0, 1) := by decide +kernel
theorem dX11_init_448 : decode cX11_init 448 = .ok (.bipush 30, 2) := by decide +kernel
theorem dX11_init_450 : decode cX11_init 450 = .ok (.newarray .boolean, 2) := by decide +kernel
theorem dX11_init_452 : decode cX11_init 452 = .ok (.putfield 109, 3) := by decide +kernel
theorem dX11_init_455 : decode cX11_init 455 = .ok (.aload_n 0, 1) := by decide +kernel
theorem dX11_init_456 : decode cX11_init 456 = .ok (.bipush 30, 2) := by decide +kernel
theorem dX11_init_458 : decode cX11_init 458 = .ok (.newarray .int, 2) := by decide +kernel
theorem dX11_init_460 : decode cX11_init 460 = .ok (.putfield 112, 3) := by decide +kernel
theorem dX11_init_463 : decode cX11_init 463 = .ok (.aload_n 0, 1) := by decide +kernel
theorem dX11_init_464 : decode cX11_init 464 = .ok (.bipush 30, 2) := by decide +kernel
theorem dX11_init_466 : decode cX11_init 466 = .ok (.newarray .int, 2) := by decide +kernel
theorem dX11_init_468 : decode cX11_init 468 = .ok (.putfield 115, 3) := by decide +kernel
theorem dX11_init_471 : decode cX11_init 471 = .ok (.aload_n 0, 1) := by decide +kernel
theorem dX11_init_472 : decode cX11_init 472 = .ok (.bipush 30, 2) := by decide +kernel
theorem dX11_init_474 : decode cX11_init 474 = .ok (.newarray .int, 2) := by decide +kernel
theorem dX11_init_476 : decode cX11_init 476 = .ok (.putfield 118, 3) := by decide +kernel
theorem dX11_init_479 : decode cX11_init 479 = .ok (.aload_n 0, 1) := by decide +kernel
theorem dX11_init_480 : decode cX11_init 480 = .ok (.bipush 30, 2) := by decide +kernel
theorem dX11_init_482 : decode cX11_init 482 = .ok (.newarray .int, 2) := by decide +kernel
theorem dX11_init_484 : decode cX11_init 484 = .ok (.putfield 121, 3) := by decide +kernel
theorem dX11_init_487 : decode cX11_init 487 = .ok (.aload_n 0, 1) := by decide +kernel
theorem dX11_init_488 : decode cX11_init 488 = .ok (.sipush 2160, 3) := by decide +kernel
theorem dX11_init_491 : decode cX11_init 491 = .ok (.newarray .long, 2) := by decide +kernel
theorem dX11_init_493 : decode cX11_init 493 = .ok (.putfield 124, 3) := by decide +kernel
theorem dX11_init_496 : decode cX11_init 496 = .ok (.aload_n 0, 1) := by decide +kernel
theorem dX11_init_497 : decode cX11_init 497 = .ok (.sipush 240, 3) := by decide +kernel
theorem dX11_init_500 : decode cX11_init 500 = .ok (.newarray .boolean, 2) := by decide +kernel
theorem dX11_init_502 : decode cX11_init 502 = .ok (.putfield 127, 3) := by decide +kernel
theorem dX11_init_505 : decode cX11_init 505 = .ok (.aload_n 0, 1) := by decide +kernel
theorem dX11_init_506 : decode cX11_init 506 = .ok (.sipush 240, 3) := by decide +kernel
theorem dX11_init_509 : decode cX11_init 509 = .ok (.newarray .long, 2) := by decide +kernel
theorem dX11_init_511 : decode cX11_init 511 = .ok (.putfield 130, 3) := by decide +kernel
theorem dX11_init_514 : decode cX11_init 514 = .ok (.aload_n 0, 1) := by decide +kernel
theorem dX11_init_515 : decode cX11_init 515 = .ok (.sipush 4000, 3) := by decide +kernel
theorem dX11_init_518 : decode cX11_init 518 = .ok (.newarray .long, 2) := by decide +kernel
theorem dX11_init_520 : decode cX11_init 520 = .ok (.putfield 133, 3) := by decide +kernel
theorem dX11_init_523 : decode cX11_init 523 = .ok (.aload_n 0, 1) := by decide +kernel
theorem dX11_init_524 : decode cX11_init 524 = .ok (.iconst (-1), 1) := by decide +kernel
theorem dX11_init_525 : decode cX11_init 525 = .ok (.putfield 136, 3) := by decide +kernel
theorem dX11_init_528 : decode cX11_init 528 = .ok (.aload_n 0, 1) := by decide +kernel
theorem dX11_init_529 : decode cX11_init 529 = .ok (.sipush 300, 3) := by decide +kernel
theorem dX11_init_532 : decode cX11_init 532 = .ok (.newarray .int, 2) := by decide +kernel
theorem dX11_init_534 : decode cX11_init 534 = .ok (.putfield 139, 3) := by decide +kernel
theorem dX11_init_537 : decode cX11_init 537 = .ok (.aload_n 0, 1) := by decide +kernel
theorem dX11_init_538 : decode cX11_init 538 = .ok (.bipush 90, 2) := by decide +kernel
theorem dX11_init_540 : decode cX11_init 540 = .ok (.newarray .int, 2) := by decide +kernel
theorem dX11_init_542 : decode cX11_init 542 = .ok (.putfield 142, 3) := by decide +kernel
theorem dX11_init_545 : decode cX11_init 545 = .ok (.aload_n 0, 1) := by decide +kernel
theorem dX11_init_546 : decode cX11_init 546 = .ok (.bipush 20, 2) := by decide +kernel
theorem dX11_init_548 : decode cX11_init 548 = .ok (.newarray .int, 2) := by decide +kernel
theorem dX11_init_550 : decode cX11_init 550 = .ok (.putfield 145, 3) := by decide +kernel
theorem dX11_init_553 : decode cX11_init 553 = .ok (.aload_n 0, 1) := by decide +kernel
theorem dX11_init_554 : decode cX11_init 554 = .ok (.bipush 20, 2) := by decide +kernel
theorem dX11_init_556 : decode cX11_init 556 = .ok (.newarray .int, 2) := by decide +kernel
theorem dX11_init_558 : decode cX11_init 558 = .ok (.putfield 148, 3) := by decide +kernel
theorem dX11_init_561 : decode cX11_init 561 = .ok (.aload_n 0, 1) := by decide +kernel
theorem dX11_init_562 : decode cX11_init 562 = .ok (.bipush 20, 2) := by decide +kernel
theorem dX11_init_564 : decode cX11_init 564 = .ok (.newarray .int, 2) := by decide +kernel
theorem dX11_init_566 : decode cX11_init 566 = .ok (.putfield 151, 3) := by decide +kernel
theorem dX11_init_569 : decode cX11_init 569 = .ok (.aload_n 0, 1) := by decide +kernel
theorem dX11_init_570 : decode cX11_init 570 = .ok (.sipush 160, 3) := by decide +kernel
theorem dX11_init_573 : decode cX11_init 573 = .ok (.newarray .int, 2) := by decide +kernel
theorem dX11_init_575 : decode cX11_init 575 = .ok (.putfield 154, 3) := by decide +kernel
theorem dX11_init_578 : decode cX11_init 578 = .ok (.aload_n 0, 1) := by decide +kernel
theorem dX11_init_579 : decode cX11_init 579 = .ok (.sipush 160, 3) := by decide +kernel
theorem dX11_init_582 : decode cX11_init 582 = .ok (.newarray .int, 2) := by decide +kernel
theorem dX11_init_584 : decode cX11_init 584 = .ok (.putfield 157, 3) := by decide +kernel
theorem dX11_init_587 : decode cX11_init 587 = .ok (.aload_n 0, 1) := by decide +kernel
theorem dX11_init_588 : decode cX11_init 588 = .ok (.sipush 160, 3) := by decide +kernel
theorem dX11_init_591 : decode cX11_init 591 = .ok (.newarray .int, 2) := by decide +kernel
theorem dX11_init_593 : decode cX11_init 593 = .ok (.putfield 160, 3) := by decide +kernel
theorem dX11_init_596 : decode cX11_init 596 = .ok (.aload_n 0, 1) := by decide +kernel
theorem dX11_init_597 : decode cX11_init 597 = .ok (.bipush 20, 2) := by decide +kernel
theorem dX11_init_599 : decode cX11_init 599 = .ok (.newarray .int, 2) := by decide +kernel
theorem dX11_init_601 : decode cX11_init 601 = .ok (.putfield 163, 3) := by decide +kernel
theorem dX11_init_604 : decode cX11_init 604 = .ok (.aload_n 0, 1) := by decide +kernel
theorem dX11_init_605 : decode cX11_init 605 = .ok (.bipush 20, 2) := by decide +kernel
theorem dX11_init_607 : decode cX11_init 607 = .ok (.newarray .long, 2) := by decide +kernel
theorem dX11_init_609 : decode cX11_init 609 = .ok (.putfield 166, 3) := by decide +kernel
theorem dX11_init_612 : decode cX11_init 612 = .ok (.aload_n 0, 1) := by decide +kernel
theorem dX11_init_613 : decode cX11_init 613 = .ok (.sipush 160, 3) := by decide +kernel
theorem dX11_init_616 : decode cX11_init 616 = .ok (.newarray .long, 2) := by decide +kernel
theorem dX11_init_618 : decode cX11_init 618 = .ok (.putfield 169, 3) := by decide +kernel
theorem dX11_init_621 : decode cX11_init 621 = .ok (.return_, 1) := by decide +kernel
theorem dX11_feed_0 : decode cX11_feed 0 = .ok (.aload_n 0, 1) := by decide +kernel
theorem dX11_feed_1 : decode cX11_feed 1 = .ok (.getfield 172, 3) := by decide +kernel
theorem dX11_feed_4 : decode cX11_feed 4 = .ok (.bipush 20, 2) := by decide +kernel
theorem dX11_feed_6 : decode cX11_feed 6 = .ok (.iadd, 1) := by decide +kernel
theorem dX11_feed_7 : decode cX11_feed 7 = .ok (.sipush 900, 3) := by decide +kernel
theorem dX11_feed_10 : decode cX11_feed 10 = .ok (.if_icmp .le 5, 3) := by decide +kernel
theorem dX11_feed_13 : decode cX11_feed 13 = .ok (.iconst (-1), 1) := by decide +kernel
theorem dX11_feed_14 : decode cX11_feed 14 = .ok (.ireturn, 1) := by decide +kernel
theorem dX11_feed_15 : decode cX11_feed 15 = .ok (.iconst 0, 1) := by decide +kernel
theorem dX11_feed_16 : decode cX11_feed 16 = .ok (.istore 6, 2) := by decide +kernel
theorem dX11_feed_18 : decode cX11_feed 18 = .ok (.iload 6, 2) := by decide +kernel
theorem dX11_feed_20 : decode cX11_feed 20 = .ok (.bipush 20, 2) := by decide +kernel
theorem dX11_feed_22 : decode cX11_feed 22 = .ok (.if_icmp .ge 90, 3) := by decide +kernel
theorem dX11_feed_25 : decode cX11_feed 25 = .ok (.iload 6, 2) := by decide +kernel
theorem dX11_feed_27 : decode cX11_feed 27 = .ok (.iconst 4, 1) := by decide +kernel
theorem dX11_feed_28 : decode cX11_feed 28 = .ok (.if_icmp .ge 7, 3) := by decide +kernel
theorem dX11_feed_31 : decode cX11_feed 31 = .ok (.iload_n 1, 1) := by decide +kernel
theorem dX11_feed_32 : decode cX11_feed 32 = .ok (.goto 39, 3) := by decide +kernel
theorem dX11_feed_35 : decode cX11_feed 35 = .ok (.iload 6, 2) := by decide +kernel
theorem dX11_feed_37 : decode cX11_feed 37 = .ok (.bipush 8, 2) := by decide +kernel
theorem dX11_feed_39 : decode cX11_feed 39 = .ok (.if_icmp .ge 7, 3) := by decide +kernel
theorem dX11_feed_42 : decode cX11_feed 42 = .ok (.iload_n 2, 1) := by decide +kernel
theorem dX11_feed_43 : decode cX11_feed 43 = .ok (.goto 28, 3) := by decide +kernel
theorem dX11_feed_46 : decode cX11_feed 46 = .ok (.iload 6, 2) := by decide +kernel
theorem dX11_feed_48 : decode cX11_feed 48 = .ok (.bipush 12, 2) := by decide +kernel
theorem dX11_feed_50 : decode cX11_feed 50 = .ok (.if_icmp .ge 7, 3) := by decide +kernel
theorem dX11_feed_53 : decode cX11_feed 53 = .ok (.iload_n 3, 1) := by decide +kernel
theorem dX11_feed_54 : decode cX11_feed 54 = .ok (.goto 17, 3) := by decide +kernel
theorem dX11_feed_57 : decode cX11_feed 57 = .ok (.iload 6, 2) := by decide +kernel
theorem dX11_feed_59 : decode cX11_feed 59 = .ok (.bipush 16, 2) := by decide +kernel
theorem dX11_feed_61 : decode cX11_feed 61 = .ok (.if_icmp .ge 8, 3) := by decide +kernel
theorem dX11_feed_64 : decode cX11_feed 64 = .ok (.iload 4, 2) := by decide +kernel
theorem dX11_feed_66 : decode cX11_feed 66 = .ok (.goto 5, 3) := by decide +kernel
theorem dX11_feed_69 : decode cX11_feed 69 = .ok (.iload 5, 2) := by decide +kernel
theorem dX11_feed_71 : decode cX11_feed 71 = .ok (.istore 7, 2) := by decide +kernel
theorem dX11_feed_73 : decode cX11_feed 73 = .ok (.aload_n 0, 1) := by decide +kernel
theorem dX11_feed_74 : decode cX11_feed 74 = .ok (.getfield 7, 3) := by decide +kernel
theorem dX11_feed_77 : decode cX11_feed 77 = .ok (.aload_n 0, 1) := by decide +kernel
theorem dX11_feed_78 : decode cX11_feed 78 = .ok (.getfield 172, 3) := by decide +kernel
theorem dX11_feed_81 : decode cX11_feed 81 = .ok (.iload 7, 2) := by decide +kernel
theorem dX11_feed_83 : decode cX11_feed 83 = .ok (.bipush 24, 2) := by decide +kernel
theorem dX11_feed_85 : decode cX11_feed 85 = .ok (.bipush 8, 2) := by decide +kernel
theorem dX11_feed_87 : decode cX11_feed 87 = .ok (.iload 6, 2) := by decide +kernel
theorem dX11_feed_89 : decode cX11_feed 89 = .ok (.iconst 4, 1) := by decide +kernel
theorem dX11_feed_90 : decode cX11_feed 90 = .ok (.irem, 1) := by decide +kernel
theorem dX11_feed_91 : decode cX11_feed 91 = .ok (.imul, 1) := by decide +kernel
theorem dX11_feed_92 : decode cX11_feed 92 = .ok (.isub, 1) := by decide +kernel
theorem dX11_feed_93 : decode cX11_feed 93 = .ok (.ishr, 1) := by decide +kernel
theorem dX11_feed_94 : decode cX11_feed 94 = .ok (.i2b, 1) := by decide +kernel
theorem dX11_feed_95 : decode cX11_feed 95 = .ok (.bastore, 1) := by decide +kernel
theorem dX11_feed_96 : decode cX11_feed 96 = .ok (.aload_n 0, 1) := by decide +kernel
theorem dX11_feed_97 : decode cX11_feed 97 = .ok (.dup, 1) := by decide +kernel
theorem dX11_feed_98 : decode cX11_feed 98 = .ok (.getfield 172, 3) := by decide +kernel
theorem dX11_feed_101 : decode cX11_feed 101 = .ok (.iconst 1, 1) := by decide +kernel
theorem dX11_feed_102 : decode cX11_feed 102 = .ok (.iadd, 1) := by decide +kernel
theorem dX11_feed_103 : decode cX11_feed 103 = .ok (.putfield 172, 3) := by decide +kernel
theorem dX11_feed_106 : decode cX11_feed 106 = .ok (.iinc 6 1, 3) := by decide +kernel
theorem dX11_feed_109 : decode cX11_feed 109 = .ok (.goto (-91), 3) := by decide +kernel
theorem dX11_feed_112 : decode cX11_feed 112 = .ok (.aload_n 0, 1) := by decide +kernel
theorem dX11_feed_113 : decode cX11_feed 113 = .ok (.getfield 172, 3) := by decide +kernel
theorem dX11_feed_116 : decode cX11_feed 116 = .ok (.ireturn, 1) := by decide +kernel
theorem dX11_end_0 : decode cX11_end 0 = .ok (.iload_n 1, 1) := by decide +kernel
theorem dX11_end_1 : decode cX11_end 1 = .ok (.ifCond .lt 11, 3) := by decide +kernel
theorem dX11_end_4 : decode cX11_end 4 = .ok (.iload_n 1, 1) := by decide +kernel
theorem dX11_end_5 : decode cX11_end 5 = .ok (.aload_n 0, 1) := by decide +kernel
theorem dX11_end_6 : decode cX11_end 6 = .ok (.getfield 172, 3) := by decide +kernel
theorem dX11_end_9 : decode cX11_end 9 = .ok (.if_icmp .le 5, 3) := by decide +kernel
theorem dX11_end_12 : decode cX11_end 12 = .ok (.iconst (-1), 1) := by decide +kernel
theorem dX11_end_13 : decode cX11_end 13 = .ok (.ireturn, 1) := by decide +kernel
theorem dX11_end_14 : decode cX11_end 14 = .ok (.aload_n 0, 1) := by decide +kernel
theorem dX11_end_15 : decode cX11_end 15 = .ok (.iload_n 1, 1) := by decide +kernel
theorem dX11_end_16 : decode cX11_end 16 = .ok (.putfield 172, 3) := by decide +kernel
theorem dX11_end_19 : decode cX11_end 19 = .ok (.iload_n 1, 1) := by decide +kernel
theorem dX11_end_20 : decode cX11_end 20 = .ok (.ireturn, 1) := by decide +kernel
theorem dX11_byteAt_0 : decode cX11_byteAt 0 = .ok (.iload_n 1, 1) := by decide +kernel
theorem dX11_byteAt_1 : decode cX11_byteAt 1 = .ok (.aload_n 0, 1) := by decide +kernel
theorem dX11_byteAt_2 : decode cX11_byteAt 2 = .ok (.getfield 175, 3) := by decide +kernel
theorem dX11_byteAt_5 : decode cX11_byteAt 5 = .ok (.if_icmp .ge 16, 3) := by decide +kernel
theorem dX11_byteAt_8 : decode cX11_byteAt 8 = .ok (.aload_n 0, 1) := by decide +kernel
theorem dX11_byteAt_9 : decode cX11_byteAt 9 = .ok (.getfield 7, 3) := by decide +kernel
theorem dX11_byteAt_12 : decode cX11_byteAt 12 = .ok (.iload_n 1, 1) := by decide +kernel
theorem dX11_byteAt_13 : decode cX11_byteAt 13 = .ok (.baload, 1) := by decide +kernel
theorem dX11_byteAt_14 : decode cX11_byteAt 14 = .ok (.sipush 255, 3) := by decide +kernel
theorem dX11_byteAt_17 : decode cX11_byteAt 17 = .ok (.iand, 1) := by decide +kernel
theorem dX11_byteAt_18 : decode cX11_byteAt 18 = .ok (.goto 4, 3) := by decide +kernel
theorem dX11_byteAt_21 : decode cX11_byteAt 21 = .ok (.iconst (-1), 1) := by decide +kernel
theorem dX11_byteAt_22 : decode cX11_byteAt 22 = .ok (.ireturn, 1) := by decide +kernel
theorem dX11_isLetter_0 : decode cX11_isLetter 0 = .ok (.iload_n 0, 1) := by decide +kernel
theorem dX11_isLetter_1 : decode cX11_isLetter 1 = .ok (.bipush 97, 2) := by decide +kernel
theorem dX11_isLetter_3 : decode cX11_isLetter 3 = .ok (.if_icmp .lt 13, 3) := by decide +kernel
theorem dX11_isLetter_6 : decode cX11_isLetter 6 = .ok (.iload_n 0, 1) := by decide +kernel
theorem dX11_isLetter_7 : decode cX11_isLetter 7 = .ok (.bipush 122, 2) := by decide +kernel
theorem dX11_isLetter_9 : decode cX11_isLetter 9 = .ok (.if_icmp .gt 7, 3) := by decide +kernel
theorem dX11_isLetter_12 : decode cX11_isLetter 12 = .ok (.iconst 1, 1) := by decide +kernel
theorem dX11_isLetter_13 : decode cX11_isLetter 13 = .ok (.goto 4, 3) := by decide +kernel
theorem dX11_isLetter_16 : decode cX11_isLetter 16 = .ok (.iconst 0, 1) := by decide +kernel
theorem dX11_isLetter_17 : decode cX11_isLetter 17 = .ok (.ireturn, 1) := by decide +kernel
theorem dX11_isDigit_0 : decode cX11_isDigit 0 = .ok (.iload_n 0, 1) := by decide +kernel
theorem dX11_isDigit_1 : decode cX11_isDigit 1 = .ok (.bipush 48, 2) := by decide +kernel
theorem dX11_isDigit_3 : decode cX11_isDigit 3 = .ok (.if_icmp .lt 13, 3) := by decide +kernel
theorem dX11_isDigit_6 : decode cX11_isDigit 6 = .ok (.iload_n 0, 1) := by decide +kernel
theorem dX11_isDigit_7 : decode cX11_isDigit 7 = .ok (.bipush 57, 2) := by decide +kernel
theorem dX11_isDigit_9 : decode cX11_isDigit 9 = .ok (.if_icmp .gt 7, 3) := by decide +kernel
theorem dX11_isDigit_12 : decode cX11_isDigit 12 = .ok (.iconst 1, 1) := by decide +kernel
theorem dX11_isDigit_13 : decode cX11_isDigit 13 = .ok (.goto 4, 3) := by decide +kernel
theorem dX11_isDigit_16 : decode cX11_isDigit 16 = .ok (.iconst 0, 1) := by decide +kernel
theorem dX11_isDigit_17 : decode cX11_isDigit 17 = .ok (.ireturn, 1) := by decide +kernel
theorem dX11_named_0 : decode cX11_named 0 = .ok (.iload_n 0, 1) := by decide +kernel
theorem dX11_named_1 : decode cX11_named 1 = .ok (.i2l, 1) := by decide +kernel
theorem dX11_named_2 : decode cX11_named 2 = .ok (.ldc2_w 178, 3) := by decide +kernel
theorem dX11_named_5 : decode cX11_named 5 = .ok (.lsub, 1) := by decide +kernel
theorem dX11_named_6 : decode cX11_named 6 = .ok (.lstore 5, 2) := by decide +kernel
theorem dX11_named_8 : decode cX11_named 8 = .ok (.iload_n 1, 1) := by decide +kernel
theorem dX11_named_9 : decode cX11_named 9 = .ok (.ifCond .le 18, 3) := by decide +kernel
theorem dX11_named_12 : decode cX11_named 12 = .ok (.ldc2_w 180, 3) := by decide +kernel
theorem dX11_named_15 : decode cX11_named 15 = .ok (.lload 5, 2) := by decide +kernel
theorem dX11_named_17 : decode cX11_named 17 = .ok (.lmul, 1) := by decide +kernel
theorem dX11_named_18 : decode cX11_named 18 = .ok (.iload_n 1, 1) := by decide +kernel
theorem dX11_named_19 : decode cX11_named 19 = .ok (.i2l, 1) := by decide +kernel
theorem dX11_named_20 : decode cX11_named 20 = .ok (.ladd, 1) := by decide +kernel
theorem dX11_named_21 : decode cX11_named 21 = .ok (.ldc2_w 178, 3) := by decide +kernel
theorem dX11_named_24 : decode cX11_named 24 = .ok (.lsub, 1) := by decide +kernel
theorem dX11_named_25 : decode cX11_named 25 = .ok (.lstore 5, 2) := by decide +kernel
theorem dX11_named_27 : decode cX11_named 27 = .ok (.iload_n 2, 1) := by decide +kernel
theorem dX11_named_28 : decode cX11_named 28 = .ok (.ifCond .le 18, 3) := by decide +kernel
theorem dX11_named_31 : decode cX11_named 31 = .ok (.ldc2_w 180, 3) := by decide +kernel
theorem dX11_named_34 : decode cX11_named 34 = .ok (.lload 5, 2) := by decide +kernel
theorem dX11_named_36 : decode cX11_named 36 = .ok (.lmul, 1) := by decide +kernel
theorem dX11_named_37 : decode cX11_named 37 = .ok (.iload_n 2, 1) := by decide +kernel
theorem dX11_named_38 : decode cX11_named 38 = .ok (.i2l, 1) := by decide +kernel
theorem dX11_named_39 : decode cX11_named 39 = .ok (.ladd, 1) := by decide +kernel
theorem dX11_named_40 : decode cX11_named 40 = .ok (.ldc2_w 178, 3) := by decide +kernel
theorem dX11_named_43 : decode cX11_named 43 = .ok (.lsub, 1) := by decide +kernel
theorem dX11_named_44 : decode cX11_named 44 = .ok (.lstore 5, 2) := by decide +kernel
theorem dX11_named_46 : decode cX11_named 46 = .ok (.iload_n 3, 1) := by decide +kernel
theorem dX11_named_47 : decode cX11_named 47 = .ok (.ifCond .le 18, 3) := by decide +kernel
theorem dX11_named_50 : decode cX11_named 50 = .ok (.ldc2_w 180, 3) := by decide +kernel
theorem dX11_named_53 : decode cX11_named 53 = .ok (.lload 5, 2) := by decide +kernel
theorem dX11_named_55 : decode cX11_named 55 = .ok (.lmul, 1) := by decide +kernel
theorem dX11_named_56 : decode cX11_named 56 = .ok (.iload_n 3, 1) := by decide +kernel
theorem dX11_named_57 : decode cX11_named 57 = .ok (.i2l, 1) := by decide +kernel
theorem dX11_named_58 : decode cX11_named 58 = .ok (.ladd, 1) := by decide +kernel
theorem dX11_named_59 : decode cX11_named 59 = .ok (.ldc2_w 178, 3) := by decide +kernel
theorem dX11_named_62 : decode cX11_named 62 = .ok (.lsub, 1) := by decide +kernel
theorem dX11_named_63 : decode cX11_named 63 = .ok (.lstore 5, 2) := by decide +kernel
theorem dX11_named_65 : decode cX11_named 65 = .ok (.iload 4, 2) := by decide +kernel
theorem dX11_named_67 : decode cX11_named 67 = .ok (.ifCond .le 19, 3) := by decide +kernel
theorem dX11_named_70 : decode cX11_named 70 = .ok (.ldc2_w 180, 3) := by decide +kernel
theorem dX11_named_73 : decode cX11_named 73 = .ok (.lload 5, 2) := by decide +kernel
theorem dX11_named_75 : decode cX11_named 75 = .ok (.lmul, 1) := by decide +kernel
theorem dX11_named_76 : decode cX11_named 76 = .ok (.iload 4, 2) := by decide +kernel
theorem dX11_named_78 : decode cX11_named 78 = .ok (.i2l, 1) := by decide +kernel
theorem dX11_named_79 : decode cX11_named 79 = .ok (.ladd, 1) := by decide +kernel
theorem dX11_named_80 : decode cX11_named 80 = .ok (.ldc2_w 178, 3) := by decide +kernel
theorem dX11_named_83 : decode cX11_named 83 = .ok (.lsub, 1) := by decide +kernel
theorem dX11_named_84 : decode cX11_named 84 = .ok (.lstore 5, 2) := by decide +kernel
theorem dX11_named_86 : decode cX11_named 86 = .ok (.lload 5, 2) := by decide +kernel
theorem dX11_named_88 : decode cX11_named 88 = .ok (.lreturn, 1) := by decide +kernel
theorem dX11_isSignByte_0 : decode cX11_isSignByte 0 = .ok (.iload_n 0, 1) := by decide +kernel
theorem dX11_isSignByte_1 : decode cX11_isSignByte 1 = .ok (.lookupswitch 157 #[(37, 155), (40, 155), (41, 155), (42, 155), (43, 155), (45, 155), (46, 155), (47, 155), (58, 155), (59, 155), (60, 155), (61, 155), (62, 155), (63, 155), (91, 155), (93, 155), (123, 155), (125, 155)], 155) := by decide +kernel
theorem dX11_isSignByte_156 : decode cX11_isSignByte 156 = .ok (.iconst 1, 1) := by decide +kernel
theorem dX11_isSignByte_157 : decode cX11_isSignByte 157 = .ok (.ireturn, 1) := by decide +kernel
theorem dX11_isSignByte_158 : decode cX11_isSignByte 158 = .ok (.iconst 0, 1) := by decide +kernel
theorem dX11_isSignByte_159 : decode cX11_isSignByte 159 = .ok (.ireturn, 1) := by decide +kernel
theorem dX11_advance_0 : decode cX11_advance 0 = .ok (.aload_n 0, 1) := by decide +kernel
theorem dX11_advance_1 : decode cX11_advance 1 = .ok (.aload_n 0, 1) := by decide +kernel
theorem dX11_advance_2 : decode cX11_advance 2 = .ok (.getfield 182, 3) := by decide +kernel
theorem dX11_advance_5 : decode cX11_advance 5 = .ok (.invokevirtual 185, 3) := by decide +kernel
theorem dX11_advance_8 : decode cX11_advance 8 = .ok (.bipush 10, 2) := by decide +kernel
theorem dX11_advance_10 : decode cX11_advance 10 = .ok (.if_icmp .eq 16, 3) := by decide +kernel
theorem dX11_advance_13 : decode cX11_advance 13 = .ok (.aload_n 0, 1) := by decide +kernel
theorem dX11_advance_14 : decode cX11_advance 14 = .ok (.aload_n 0, 1) := by decide +kernel
theorem dX11_advance_15 : decode cX11_advance 15 = .ok (.getfield 182, 3) := by decide +kernel
theorem dX11_advance_18 : decode cX11_advance 18 = .ok (.invokevirtual 185, 3) := by decide +kernel
theorem dX11_advance_21 : decode cX11_advance 21 = .ok (.bipush 32, 2) := by decide +kernel
theorem dX11_advance_23 : decode cX11_advance 23 = .ok (.if_icmp .ne 16, 3) := by decide +kernel
theorem dX11_advance_26 : decode cX11_advance 26 = .ok (.aload_n 0, 1) := by decide +kernel
theorem dX11_advance_27 : decode cX11_advance 27 = .ok (.dup, 1) := by decide +kernel
theorem dX11_advance_28 : decode cX11_advance 28 = .ok (.getfield 182, 3) := by decide +kernel
theorem dX11_advance_31 : decode cX11_advance 31 = .ok (.iconst 1, 1) := by decide +kernel
theorem dX11_advance_32 : decode cX11_advance 32 = .ok (.iadd, 1) := by decide +kernel
theorem dX11_advance_33 : decode cX11_advance 33 = .ok (.putfield 182, 3) := by decide +kernel
theorem dX11_advance_36 : decode cX11_advance 36 = .ok (.goto (-36), 3) := by decide +kernel
theorem dX11_advance_39 : decode cX11_advance 39 = .ok (.aload_n 0, 1) := by decide +kernel
theorem dX11_advance_40 : decode cX11_advance 40 = .ok (.aload_n 0, 1) := by decide +kernel
theorem dX11_advance_41 : decode cX11_advance 41 = .ok (.getfield 182, 3) := by decide +kernel
theorem dX11_advance_44 : decode cX11_advance 44 = .ok (.putfield 189, 3) := by decide +kernel
theorem dX11_advance_47 : decode cX11_advance 47 = .ok (.aload_n 0, 1) := by decide +kernel
theorem dX11_advance_48 : decode cX11_advance 48 = .ok (.aload_n 0, 1) := by decide +kernel
theorem dX11_advance_49 : decode cX11_advance 49 = .ok (.getfield 182, 3) := by decide +kernel
theorem dX11_advance_52 : decode cX11_advance 52 = .ok (.invokevirtual 185, 3) := by decide +kernel
theorem dX11_advance_55 : decode cX11_advance 55 = .ok (.istore_n 1, 1) := by decide +kernel
theorem dX11_advance_56 : decode cX11_advance 56 = .ok (.aload_n 0, 1) := by decide +kernel
theorem dX11_advance_57 : decode cX11_advance 57 = .ok (.iconst 0, 1) := by decide +kernel
theorem dX11_advance_58 : decode cX11_advance 58 = .ok (.putfield 192, 3) := by decide +kernel
theorem dX11_advance_61 : decode cX11_advance 61 = .ok (.iload_n 1, 1) := by decide +kernel
theorem dX11_advance_62 : decode cX11_advance 62 = .ok (.ifCond .ge 11, 3) := by decide +kernel
theorem dX11_advance_65 : decode cX11_advance 65 = .ok (.aload_n 0, 1) := by decide +kernel
theorem dX11_advance_66 : decode cX11_advance 66 = .ok (.iconst 4, 1) := by decide +kernel
theorem dX11_advance_67 : decode cX11_advance 67 = .ok (.putfield 195, 3) := by decide +kernel
theorem dX11_advance_70 : decode cX11_advance 70 = .ok (.goto 288, 3) := by decide +kernel
theorem dX11_advance_73 : decode cX11_advance 73 = .ok (.iload_n 1, 1) := by decide +kernel
theorem dX11_advance_74 : decode cX11_advance 74 = .ok (.invokestatic 198, 3) := by decide +kernel
theorem dX11_advance_77 : decode cX11_advance 77 = .ok (.ifCond .eq 153, 3) := by decide +kernel
theorem dX11_advance_80 : decode cX11_advance 80 = .ok (.aload_n 0, 1) := by decide +kernel
theorem dX11_advance_81 : decode cX11_advance 81 = .ok (.lconst 0, 1) := by decide +kernel
theorem dX11_advance_82 : decode cX11_advance 82 = .ok (.putfield 202, 3) := by decide +kernel
theorem dX11_advance_85 : decode cX11_advance 85 = .ok (.aload_n 0, 1) := by decide +kernel
theorem dX11_advance_86 : decode cX11_advance 86 = .ok (.aload_n 0, 1) := by decide +kernel
theorem dX11_advance_87 : decode cX11_advance 87 = .ok (.getfield 182, 3) := by decide +kernel
theorem dX11_advance_90 : decode cX11_advance 90 = .ok (.invokevirtual 185, 3) := by decide +kernel
theorem dX11_advance_93 : decode cX11_advance 93 = .ok (.invokestatic 198, 3) := by decide +kernel
theorem dX11_advance_96 : decode cX11_advance 96 = .ok (.ifCond .eq 56, 3) := by decide +kernel
theorem dX11_advance_99 : decode cX11_advance 99 = .ok (.aload_n 0, 1) := by decide +kernel
theorem dX11_advance_100 : decode cX11_advance 100 = .ok (.getfield 182, 3) := by decide +kernel
theorem dX11_advance_103 : decode cX11_advance 103 = .ok (.aload_n 0, 1) := by decide +kernel
theorem dX11_advance_104 : decode cX11_advance 104 = .ok (.getfield 189, 3) := by decide +kernel
theorem dX11_advance_107 : decode cX11_advance 107 = .ok (.isub, 1) := by decide +kernel
theorem dX11_advance_108 : decode cX11_advance 108 = .ok (.bipush 8, 2) := by decide +kernel
theorem dX11_advance_110 : decode cX11_advance 110 = .ok (.if_icmp .ge 29, 3) := by decide +kernel
theorem dX11_advance_113 : decode cX11_advance 113 = .ok (.aload_n 0, 1) := by decide +kernel
theorem dX11_advance_114 : decode cX11_advance 114 = .ok (.ldc2_w 180, 3) := by decide +kernel
theorem dX11_advance_117 : decode cX11_advance 117 = .ok (.aload_n 0, 1) := by decide +kernel
theorem dX11_advance_118 : decode cX11_advance 118 = .ok (.getfield 202, 3) := by decide +kernel
theorem dX11_advance_121 : decode cX11_advance 121 = .ok (.lmul, 1) := by decide +kernel
theorem dX11_advance_122 : decode cX11_advance 122 = .ok (.aload_n 0, 1) := by decide +kernel
theorem dX11_advance_123 : decode cX11_advance 123 = .ok (.aload_n 0, 1) := by decide +kernel
theorem dX11_advance_124 : decode cX11_advance 124 = .ok (.getfield 182, 3) := by decide +kernel
theorem dX11_advance_127 : decode cX11_advance 127 = .ok (.invokevirtual 185, 3) := by decide +kernel
theorem dX11_advance_130 : decode cX11_advance 130 = .ok (.i2l, 1) := by decide +kernel
theorem dX11_advance_131 : decode cX11_advance 131 = .ok (.ladd, 1) := by decide +kernel
theorem dX11_advance_132 : decode cX11_advance 132 = .ok (.ldc2_w 178, 3) := by decide +kernel
theorem dX11_advance_135 : decode cX11_advance 135 = .ok (.lsub, 1) := by decide +kernel
theorem dX11_advance_136 : decode cX11_advance 136 = .ok (.putfield 202, 3) := by decide +kernel
theorem dX11_advance_139 : decode cX11_advance 139 = .ok (.aload_n 0, 1) := by decide +kernel
theorem dX11_advance_140 : decode cX11_advance 140 = .ok (.dup, 1) := by decide +kernel
theorem dX11_advance_141 : decode cX11_advance 141 = .ok (.getfield 182, 3) := by decide +kernel
theorem dX11_advance_144 : decode cX11_advance 144 = .ok (.iconst 1, 1) := by decide +kernel
theorem dX11_advance_145 : decode cX11_advance 145 = .ok (.iadd, 1) := by decide +kernel
theorem dX11_advance_146 : decode cX11_advance 146 = .ok (.putfield 182, 3) := by decide +kernel
theorem dX11_advance_149 : decode cX11_advance 149 = .ok (.goto (-64), 3) := by decide +kernel
theorem dX11_advance_152 : decode cX11_advance 152 = .ok (.aload_n 0, 1) := by decide +kernel
theorem dX11_advance_153 : decode cX11_advance 153 = .ok (.aload_n 0, 1) := by decide +kernel
theorem dX11_advance_154 : decode cX11_advance 154 = .ok (.getfield 182, 3) := by decide +kernel
theorem dX11_advance_157 : decode cX11_advance 157 = .ok (.aload_n 0, 1) := by decide +kernel
theorem dX11_advance_158 : decode cX11_advance 158 = .ok (.getfield 189, 3) := by decide +kernel
theorem dX11_advance_161 : decode cX11_advance 161 = .ok (.isub, 1) := by decide +kernel
theorem dX11_advance_162 : decode cX11_advance 162 = .ok (.bipush 8, 2) := by decide +kernel
theorem dX11_advance_164 : decode cX11_advance 164 = .ok (.if_icmp .le 7, 3) := by decide +kernel
theorem dX11_advance_167 : decode cX11_advance 167 = .ok (.iconst 5, 1) := by decide +kernel
theorem dX11_advance_168 : decode cX11_advance 168 = .ok (.goto 4, 3) := by decide +kernel
theorem dX11_advance_171 : decode cX11_advance 171 = .ok (.iconst 0, 1) := by decide +kernel
theorem dX11_advance_172 : decode cX11_advance 172 = .ok (.putfield 195, 3) := by decide +kernel
theorem dX11_advance_175 : decode cX11_advance 175 = .ok (.iconst 1, 1) := by decide +kernel
theorem dX11_advance_176 : decode cX11_advance 176 = .ok (.istore_n 2, 1) := by decide +kernel
theorem dX11_advance_177 : decode cX11_advance 177 = .ok (.iload_n 2, 1) := by decide +kernel
theorem dX11_advance_178 : decode cX11_advance 178 = .ok (.bipush 13, 2) := by decide +kernel
theorem dX11_advance_180 : decode cX11_advance 180 = .ok (.if_icmp .ge 35, 3) := by decide +kernel
theorem dX11_advance_183 : decode cX11_advance 183 = .ok (.aload_n 0, 1) := by decide +kernel
theorem dX11_advance_184 : decode cX11_advance 184 = .ok (.getfield 195, 3) := by decide +kernel
theorem dX11_advance_187 : decode cX11_advance 187 = .ok (.ifCond .ne 28, 3) := by decide +kernel
theorem dX11_advance_190 : decode cX11_advance 190 = .ok (.aload_n 0, 1) := by decide +kernel
theorem dX11_advance_191 : decode cX11_advance 191 = .ok (.getfield 21, 3) := by decide +kernel
theorem dX11_advance_194 : decode cX11_advance 194 = .ok (.iload_n 2, 1) := by decide +kernel
theorem dX11_advance_195 : decode cX11_advance 195 = .ok (.laload, 1) := by decide +kernel
theorem dX11_advance_196 : decode cX11_advance 196 = .ok (.aload_n 0, 1) := by decide +kernel
theorem dX11_advance_197 : decode cX11_advance 197 = .ok (.getfield 202, 3) := by decide +kernel
theorem dX11_advance_200 : decode cX11_advance 200 = .ok (.lcmp, 1) := by decide +kernel
theorem dX11_advance_201 : decode cX11_advance 201 = .ok (.ifCond .ne 8, 3) := by decide +kernel
theorem dX11_advance_204 : decode cX11_advance 204 = .ok (.aload_n 0, 1) := by decide +kernel
theorem dX11_advance_205 : decode cX11_advance 205 = .ok (.iload_n 2, 1) := by decide +kernel
theorem dX11_advance_206 : decode cX11_advance 206 = .ok (.putfield 192, 3) := by decide +kernel
theorem dX11_advance_209 : decode cX11_advance 209 = .ok (.iinc 2 1, 3) := by decide +kernel
theorem dX11_advance_212 : decode cX11_advance 212 = .ok (.goto (-35), 3) := by decide +kernel
theorem dX11_advance_215 : decode cX11_advance 215 = .ok (.aload_n 0, 1) := by decide +kernel
theorem dX11_advance_216 : decode cX11_advance 216 = .ok (.getfield 192, 3) := by decide +kernel
theorem dX11_advance_219 : decode cX11_advance 219 = .ok (.ifCond .le 139, 3) := by decide +kernel
theorem dX11_advance_222 : decode cX11_advance 222 = .ok (.aload_n 0, 1) := by decide +kernel
theorem dX11_advance_223 : decode cX11_advance 223 = .ok (.iconst 2, 1) := by decide +kernel
theorem dX11_advance_224 : decode cX11_advance 224 = .ok (.putfield 195, 3) := by decide +kernel
theorem dX11_advance_227 : decode cX11_advance 227 = .ok (.goto 131, 3) := by decide +kernel
theorem dX11_advance_230 : decode cX11_advance 230 = .ok (.iload_n 1, 1) := by decide +kernel
theorem dX11_advance_231 : decode cX11_advance 231 = .ok (.invokestatic 206, 3) := by decide +kernel
theorem dX11_advance_234 : decode cX11_advance 234 = .ok (.ifCond .eq 98, 3) := by decide +kernel
theorem dX11_advance_237 : decode cX11_advance 237 = .ok (.aload_n 0, 1) := by decide +kernel
theorem dX11_advance_238 : decode cX11_advance 238 = .ok (.iconst 0, 1) := by decide +kernel
theorem dX11_advance_239 : decode cX11_advance 239 = .ok (.putfield 209, 3) := by decide +kernel
theorem dX11_advance_242 : decode cX11_advance 242 = .ok (.aload_n 0, 1) := by decide +kernel
theorem dX11_advance_243 : decode cX11_advance 243 = .ok (.aload_n 0, 1) := by decide +kernel
theorem dX11_advance_244 : decode cX11_advance 244 = .ok (.getfield 182, 3) := by decide +kernel
theorem dX11_advance_247 : decode cX11_advance 247 = .ok (.invokevirtual 185, 3) := by decide +kernel
theorem dX11_advance_250 : decode cX11_advance 250 = .ok (.invokestatic 206, 3) := by decide +kernel
theorem dX11_advance_253 : decode cX11_advance 253 = .ok (.ifCond .eq 53, 3) := by decide +kernel
theorem dX11_advance_256 : decode cX11_advance 256 = .ok (.aload_n 0, 1) := by decide +kernel
theorem dX11_advance_257 : decode cX11_advance 257 = .ok (.getfield 182, 3) := by decide +kernel
theorem dX11_advance_260 : decode cX11_advance 260 = .ok (.aload_n 0, 1) := by decide +kernel
theorem dX11_advance_261 : decode cX11_advance 261 = .ok (.getfield 189, 3) := by decide +kernel
theorem dX11_advance_264 : decode cX11_advance 264 = .ok (.isub, 1) := by decide +kernel
theorem dX11_advance_265 : decode cX11_advance 265 = .ok (.bipush 9, 2) := by decide +kernel
theorem dX11_advance_267 : decode cX11_advance 267 = .ok (.if_icmp .ge 26, 3) := by decide +kernel
theorem dX11_advance_270 : decode cX11_advance 270 = .ok (.aload_n 0, 1) := by decide +kernel
theorem dX11_advance_271 : decode cX11_advance 271 = .ok (.bipush 10, 2) := by decide +kernel
theorem dX11_advance_273 : decode cX11_advance 273 = .ok (.aload_n 0, 1) := by decide +kernel
theorem dX11_advance_274 : decode cX11_advance 274 = .ok (.getfield 209, 3) := by decide +kernel
theorem dX11_advance_277 : decode cX11_advance 277 = .ok (.imul, 1) := by decide +kernel
theorem dX11_advance_278 : decode cX11_advance 278 = .ok (.aload_n 0, 1) := by decide +kernel
theorem dX11_advance_279 : decode cX11_advance 279 = .ok (.aload_n 0, 1) := by decide +kernel
theorem dX11_advance_280 : decode cX11_advance 280 = .ok (.getfield 182, 3) := by decide +kernel
theorem dX11_advance_283 : decode cX11_advance 283 = .ok (.invokevirtual 185, 3) := by decide +kernel
theorem dX11_advance_286 : decode cX11_advance 286 = .ok (.iadd, 1) := by decide +kernel
theorem dX11_advance_287 : decode cX11_advance 287 = .ok (.bipush 48, 2) := by decide +kernel
theorem dX11_advance_289 : decode cX11_advance 289 = .ok (.isub, 1) := by decide +kernel
theorem dX11_advance_290 : decode cX11_advance 290 = .ok (.putfield 209, 3) := by decide +kernel
theorem dX11_advance_293 : decode cX11_advance 293 = .ok (.aload_n 0, 1) := by decide +kernel
theorem dX11_advance_294 : decode cX11_advance 294 = .ok (.dup, 1) := by decide +kernel
theorem dX11_advance_295 : decode cX11_advance 295 = .ok (.getfield 182, 3) := by decide +kernel
theorem dX11_advance_298 : decode cX11_advance 298 = .ok (.iconst 1, 1) := by decide +kernel
theorem dX11_advance_299 : decode cX11_advance 299 = .ok (.iadd, 1) := by decide +kernel
theorem dX11_advance_300 : decode cX11_advance 300 = .ok (.putfield 182, 3) := by decide +kernel
theorem dX11_advance_303 : decode cX11_advance 303 = .ok (.goto (-61), 3) := by decide +kernel
theorem dX11_advance_306 : decode cX11_advance 306 = .ok (.aload_n 0, 1) := by decide +kernel
theorem dX11_advance_307 : decode cX11_advance 307 = .ok (.aload_n 0, 1) := by decide +kernel
theorem dX11_advance_308 : decode cX11_advance 308 = .ok (.getfield 182, 3) := by decide +kernel
theorem dX11_advance_311 : decode cX11_advance 311 = .ok (.aload_n 0, 1) := by decide +kernel
theorem dX11_advance_312 : decode cX11_advance 312 = .ok (.getfield 189, 3) := by decide +kernel
theorem dX11_advance_315 : decode cX11_advance 315 = .ok (.isub, 1) := by decide +kernel
theorem dX11_advance_316 : decode cX11_advance 316 = .ok (.bipush 9, 2) := by decide +kernel
theorem dX11_advance_318 : decode cX11_advance 318 = .ok (.if_icmp .le 7, 3) := by decide +kernel
theorem dX11_advance_321 : decode cX11_advance 321 = .ok (.iconst 5, 1) := by decide +kernel
theorem dX11_advance_322 : decode cX11_advance 322 = .ok (.goto 4, 3) := by decide +kernel
theorem dX11_advance_325 : decode cX11_advance 325 = .ok (.iconst 1, 1) := by decide +kernel
theorem dX11_advance_326 : decode cX11_advance 326 = .ok (.putfield 195, 3) := by decide +kernel
theorem dX11_advance_329 : decode cX11_advance 329 = .ok (.goto 29, 3) := by decide +kernel
theorem dX11_advance_332 : decode cX11_advance 332 = .ok (.aload_n 0, 1) := by decide +kernel
theorem dX11_advance_333 : decode cX11_advance 333 = .ok (.dup, 1) := by decide +kernel
theorem dX11_advance_334 : decode cX11_advance 334 = .ok (.getfield 182, 3) := by decide +kernel
theorem dX11_advance_337 : decode cX11_advance 337 = .ok (.iconst 1, 1) := by decide +kernel
theorem dX11_advance_338 : decode cX11_advance 338 = .ok (.iadd, 1) := by decide +kernel
theorem dX11_advance_339 : decode cX11_advance 339 = .ok (.putfield 182, 3) := by decide +kernel
theorem dX11_advance_342 : decode cX11_advance 342 = .ok (.aload_n 0, 1) := by decide +kernel
theorem dX11_advance_343 : decode cX11_advance 343 = .ok (.iload_n 1, 1) := by decide +kernel
theorem dX11_advance_344 : decode cX11_advance 344 = .ok (.invokestatic 212, 3) := by decide +kernel
theorem dX11_advance_347 : decode cX11_advance 347 = .ok (.ifCond .eq 7, 3) := by decide +kernel
theorem dX11_advance_350 : decode cX11_advance 350 = .ok (.iconst 3, 1) := by decide +kernel
theorem dX11_advance_351 : decode cX11_advance 351 = .ok (.goto 4, 3) := by decide +kernel
theorem dX11_advance_354 : decode cX11_advance 354 = .ok (.iconst 5, 1) := by decide +kernel
theorem dX11_advance_355 : decode cX11_advance 355 = .ok (.putfield 195, 3) := by decide +kernel
theorem dX11_advance_358 : decode cX11_advance 358 = .ok (.return_, 1) := by decide +kernel
theorem dX11_stops_0 : decode cX11_stops 0 = .ok (.aload_n 0, 1) := by decide +kernel
theorem dX11_stops_1 : decode cX11_stops 1 = .ok (.getfield 215, 3) := by decide +kernel
theorem dX11_stops_4 : decode cX11_stops 4 = .ok (.ifCond .eq 4, 3) := by decide +kernel
theorem dX11_stops_7 : decode cX11_stops 7 = .ok (.return_, 1) := by decide +kernel
theorem dX11_stops_8 : decode cX11_stops 8 = .ok (.aload_n 0, 1) := by decide +kernel
theorem dX11_stops_9 : decode cX11_stops 9 = .ok (.iconst 1, 1) := by decide +kernel
theorem dX11_stops_10 : decode cX11_stops 10 = .ok (.putfield 215, 3) := by decide +kernel
theorem dX11_stops_13 : decode cX11_stops 13 = .ok (.aload_n 0, 1) := by decide +kernel
theorem dX11_stops_14 : decode cX11_stops 14 = .ok (.iconst 1, 1) := by decide +kernel
theorem dX11_stops_15 : decode cX11_stops 15 = .ok (.putfield 219, 3) := by decide +kernel
theorem dX11_stops_18 : decode cX11_stops 18 = .ok (.aload_n 0, 1) := by decide +kernel
theorem dX11_stops_19 : decode cX11_stops 19 = .ok (.aload_n 0, 1) := by decide +kernel
theorem dX11_stops_20 : decode cX11_stops 20 = .ok (.getfield 189, 3) := by decide +kernel
theorem dX11_stops_23 : decode cX11_stops 23 = .ok (.putfield 13, 3) := by decide +kernel
theorem dX11_stops_26 : decode cX11_stops 26 = .ok (.return_, 1) := by decide +kernel
theorem dX11_tells_0 : decode cX11_tells 0 = .ok (.aload_n 0, 1) := by decide +kernel
theorem dX11_tells_1 : decode cX11_tells 1 = .ok (.getfield 215, 3) := by decide +kernel
theorem dX11_tells_4 : decode cX11_tells 4 = .ok (.ifCond .ne 34, 3) := by decide +kernel
theorem dX11_tells_7 : decode cX11_tells 7 = .ok (.aload_n 0, 1) := by decide +kernel
theorem dX11_tells_8 : decode cX11_tells 8 = .ok (.getfield 219, 3) := by decide +kernel
theorem dX11_tells_11 : decode cX11_tells 11 = .ok (.ifCond .eq 28, 3) := by decide +kernel
theorem dX11_tells_14 : decode cX11_tells 14 = .ok (.iload_n 2, 1) := by decide +kernel
theorem dX11_tells_15 : decode cX11_tells 15 = .ok (.aload_n 0, 1) := by decide +kernel
theorem dX11_tells_16 : decode cX11_tells 16 = .ok (.getfield 13, 3) := by decide +kernel
theorem dX11_tells_19 : decode cX11_tells 19 = .ok (.if_icmp .gt 19, 3) := by decide +kernel
theorem dX11_tells_22 : decode cX11_tells 22 = .ok (.iload_n 2, 1) := by decide +kernel
theorem dX11_tells_23 : decode cX11_tells 23 = .ok (.aload_n 0, 1) := by decide +kernel
theorem dX11_tells_24 : decode cX11_tells 24 = .ok (.getfield 13, 3) := by decide +kernel
theorem dX11_tells_27 : decode cX11_tells 27 = .ok (.if_icmp .ne 12, 3) := by decide +kernel
theorem dX11_tells_30 : decode cX11_tells 30 = .ok (.iload_n 1, 1) := by decide +kernel
theorem dX11_tells_31 : decode cX11_tells 31 = .ok (.aload_n 0, 1) := by decide +kernel
theorem dX11_tells_32 : decode cX11_tells 32 = .ok (.getfield 219, 3) := by decide +kernel
theorem dX11_tells_35 : decode cX11_tells 35 = .ok (.if_icmp .lt 4, 3) := by decide +kernel
theorem dX11_tells_38 : decode cX11_tells 38 = .ok (.return_, 1) := by decide +kernel
theorem dX11_tells_39 : decode cX11_tells 39 = .ok (.aload_n 0, 1) := by decide +kernel
theorem dX11_tells_40 : decode cX11_tells 40 = .ok (.iload_n 1, 1) := by decide +kernel
theorem dX11_tells_41 : decode cX11_tells 41 = .ok (.putfield 219, 3) := by decide +kernel
theorem dX11_tells_44 : decode cX11_tells 44 = .ok (.aload_n 0, 1) := by decide +kernel
theorem dX11_tells_45 : decode cX11_tells 45 = .ok (.iload_n 2, 1) := by decide +kernel
theorem dX11_tells_46 : decode cX11_tells 46 = .ok (.putfield 13, 3) := by decide +kernel
theorem dX11_tells_49 : decode cX11_tells 49 = .ok (.return_, 1) := by decide +kernel
theorem dX11_isSign_0 : decode cX11_isSign 0 = .ok (.aload_n 0, 1) := by decide +kernel
theorem dX11_isSign_1 : decode cX11_isSign 1 = .ok (.getfield 195, 3) := by decide +kernel
theorem dX11_isSign_4 : decode cX11_isSign 4 = .ok (.iconst 3, 1) := by decide +kernel
theorem dX11_isSign_5 : decode cX11_isSign 5 = .ok (.if_icmp .ne 20, 3) := by decide +kernel
theorem dX11_isSign_8 : decode cX11_isSign 8 = .ok (.aload_n 0, 1) := by decide +kernel
theorem dX11_isSign_9 : decode cX11_isSign 9 = .ok (.getfield 7, 3) := by decide +kernel
theorem dX11_isSign_12 : decode cX11_isSign 12 = .ok (.aload_n 0, 1) := by decide +kernel
theorem dX11_isSign_13 : decode cX11_isSign 13 = .ok (.getfield 189, 3) := by decide +kernel
theorem dX11_isSign_16 : decode cX11_isSign 16 = .ok (.baload, 1) := by decide +kernel
theorem dX11_isSign_17 : decode cX11_isSign 17 = .ok (.iload_n 1, 1) := by decide +kernel
theorem dX11_isSign_18 : decode cX11_isSign 18 = .ok (.if_icmp .ne 7, 3) := by decide +kernel
theorem dX11_isSign_21 : decode cX11_isSign 21 = .ok (.iconst 1, 1) := by decide +kernel
theorem dX11_isSign_22 : decode cX11_isSign 22 = .ok (.goto 4, 3) := by decide +kernel
theorem dX11_isSign_25 : decode cX11_isSign 25 = .ok (.iconst 0, 1) := by decide +kernel
theorem dX11_isSign_26 : decode cX11_isSign 26 = .ok (.ireturn, 1) := by decide +kernel
theorem dX11_takes_0 : decode cX11_takes 0 = .ok (.aload_n 0, 1) := by decide +kernel
theorem dX11_takes_1 : decode cX11_takes 1 = .ok (.getfield 215, 3) := by decide +kernel
theorem dX11_takes_4 : decode cX11_takes 4 = .ok (.ifCond .ne 11, 3) := by decide +kernel
theorem dX11_takes_7 : decode cX11_takes 7 = .ok (.aload_n 0, 1) := by decide +kernel
theorem dX11_takes_8 : decode cX11_takes 8 = .ok (.iload_n 1, 1) := by decide +kernel
theorem dX11_takes_9 : decode cX11_takes 9 = .ok (.invokevirtual 222, 3) := by decide +kernel
theorem dX11_takes_12 : decode cX11_takes 12 = .ok (.ifCond .ne 5, 3) := by decide +kernel
theorem dX11_takes_15 : decode cX11_takes 15 = .ok (.iconst 0, 1) := by decide +kernel
theorem dX11_takes_16 : decode cX11_takes 16 = .ok (.ireturn, 1) := by decide +kernel
theorem dX11_takes_17 : decode cX11_takes 17 = .ok (.aload_n 0, 1) := by decide +kernel
theorem dX11_takes_18 : decode cX11_takes 18 = .ok (.invokevirtual 225, 3) := by decide +kernel
theorem dX11_takes_21 : decode cX11_takes 21 = .ok (.iconst 1, 1) := by decide +kernel
theorem dX11_takes_22 : decode cX11_takes 22 = .ok (.ireturn, 1) := by decide +kernel
theorem dX11_must_0 : decode cX11_must 0 = .ok (.aload_n 0, 1) := by decide +kernel
theorem dX11_must_1 : decode cX11_must 1 = .ok (.getfield 215, 3) := by decide +kernel
theorem dX11_must_4 : decode cX11_must 4 = .ok (.ifCond .eq 4, 3) := by decide +kernel
theorem dX11_must_7 : decode cX11_must 7 = .ok (.return_, 1) := by decide +kernel
theorem dX11_must_8 : decode cX11_must 8 = .ok (.aload_n 0, 1) := by decide +kernel
theorem dX11_must_9 : decode cX11_must 9 = .ok (.iload_n 1, 1) := by decide +kernel
theorem dX11_must_10 : decode cX11_must 10 = .ok (.invokevirtual 222, 3) := by decide +kernel
theorem dX11_must_13 : decode cX11_must 13 = .ok (.ifCond .eq 10, 3) := by decide +kernel
theorem dX11_must_16 : decode cX11_must 16 = .ok (.aload_n 0, 1) := by decide +kernel
theorem dX11_must_17 : decode cX11_must 17 = .ok (.invokevirtual 225, 3) := by decide +kernel
theorem dX11_must_20 : decode cX11_must 20 = .ok (.goto 7, 3) := by decide +kernel
theorem dX11_must_23 : decode cX11_must 23 = .ok (.aload_n 0, 1) := by decide +kernel
theorem dX11_must_24 : decode cX11_must 24 = .ok (.invokevirtual 228, 3) := by decide +kernel
theorem dX11_must_27 : decode cX11_must 27 = .ok (.return_, 1) := by decide +kernel
theorem dX11_isWord_0 : decode cX11_isWord 0 = .ok (.aload_n 0, 1) := by decide +kernel
theorem dX11_isWord_1 : decode cX11_isWord 1 = .ok (.getfield 215, 3) := by decide +kernel
theorem dX11_isWord_4 : decode cX11_isWord 4 = .ok (.ifCond .ne 23, 3) := by decide +kernel
theorem dX11_isWord_7 : decode cX11_isWord 7 = .ok (.aload_n 0, 1) := by decide +kernel
theorem dX11_isWord_8 : decode cX11_isWord 8 = .ok (.getfield 195, 3) := by decide +kernel
theorem dX11_isWord_11 : decode cX11_isWord 11 = .ok (.iconst 2, 1) := by decide +kernel
theorem dX11_isWord_12 : decode cX11_isWord 12 = .ok (.if_icmp .ne 15, 3) := by decide +kernel
theorem dX11_isWord_15 : decode cX11_isWord 15 = .ok (.aload_n 0, 1) := by decide +kernel
theorem dX11_isWord_16 : decode cX11_isWord 16 = .ok (.getfield 192, 3) := by decide +kernel
theorem dX11_isWord_19 : decode cX11_isWord 19 = .ok (.iload_n 1, 1) := by decide +kernel
theorem dX11_isWord_20 : decode cX11_isWord 20 = .ok (.if_icmp .ne 7, 3) := by decide +kernel
theorem dX11_isWord_23 : decode cX11_isWord 23 = .ok (.iconst 1, 1) := by decide +kernel
theorem dX11_isWord_24 : decode cX11_isWord 24 = .ok (.goto 4, 3) := by decide +kernel
theorem dX11_isWord_27 : decode cX11_isWord 27 = .ok (.iconst 0, 1) := by decide +kernel
theorem dX11_isWord_28 : decode cX11_isWord 28 = .ok (.ireturn, 1) := by decide +kernel
theorem dX11_emit_0 : decode cX11_emit 0 = .ok (.aload_n 0, 1) := by decide +kernel
theorem dX11_emit_1 : decode cX11_emit 1 = .ok (.getfield 47, 3) := by decide +kernel
theorem dX11_emit_4 : decode cX11_emit 4 = .ok (.aload_n 0, 1) := by decide +kernel
theorem dX11_emit_5 : decode cX11_emit 5 = .ok (.getfield 231, 3) := by decide +kernel
theorem dX11_emit_8 : decode cX11_emit 8 = .ok (.iload_n 1, 1) := by decide +kernel
theorem dX11_emit_9 : decode cX11_emit 9 = .ok (.iastore, 1) := by decide +kernel
theorem dX11_emit_10 : decode cX11_emit 10 = .ok (.aload_n 0, 1) := by decide +kernel
theorem dX11_emit_11 : decode cX11_emit 11 = .ok (.getfield 50, 3) := by decide +kernel
theorem dX11_emit_14 : decode cX11_emit 14 = .ok (.aload_n 0, 1) := by decide +kernel
theorem dX11_emit_15 : decode cX11_emit 15 = .ok (.getfield 231, 3) := by decide +kernel
theorem dX11_emit_18 : decode cX11_emit 18 = .ok (.lload_n 2, 1) := by decide +kernel
theorem dX11_emit_19 : decode cX11_emit 19 = .ok (.lastore, 1) := by decide +kernel
theorem dX11_emit_20 : decode cX11_emit 20 = .ok (.aload_n 0, 1) := by decide +kernel
theorem dX11_emit_21 : decode cX11_emit 21 = .ok (.getfield 53, 3) := by decide +kernel
theorem dX11_emit_24 : decode cX11_emit 24 = .ok (.aload_n 0, 1) := by decide +kernel
theorem dX11_emit_25 : decode cX11_emit 25 = .ok (.getfield 231, 3) := by decide +kernel
theorem dX11_emit_28 : decode cX11_emit 28 = .ok (.iload 4, 2) := by decide +kernel
theorem dX11_emit_30 : decode cX11_emit 30 = .ok (.iastore, 1) := by decide +kernel
theorem dX11_emit_31 : decode cX11_emit 31 = .ok (.aload_n 0, 1) := by decide +kernel
theorem dX11_emit_32 : decode cX11_emit 32 = .ok (.dup, 1) := by decide +kernel
theorem dX11_emit_33 : decode cX11_emit 33 = .ok (.getfield 231, 3) := by decide +kernel
theorem dX11_emit_36 : decode cX11_emit 36 = .ok (.iconst 1, 1) := by decide +kernel
theorem dX11_emit_37 : decode cX11_emit 37 = .ok (.iadd, 1) := by decide +kernel
theorem dX11_emit_38 : decode cX11_emit 38 = .ok (.putfield 231, 3) := by decide +kernel
theorem dX11_emit_41 : decode cX11_emit 41 = .ok (.return_, 1) := by decide +kernel
theorem dX11_yearOf_0 : decode cX11_yearOf 0 = .ok (.iload_n 1, 1) := by decide +kernel
theorem dX11_yearOf_1 : decode cX11_yearOf 1 = .ok (.sipush 1700, 3) := by decide +kernel
theorem dX11_yearOf_4 : decode cX11_yearOf 4 = .ok (.if_icmp .lt 22, 3) := by decide +kernel
theorem dX11_yearOf_7 : decode cX11_yearOf 7 = .ok (.iload_n 1, 1) := by decide +kernel
theorem dX11_yearOf_8 : decode cX11_yearOf 8 = .ok (.sipush 1730, 3) := by decide +kernel
theorem dX11_yearOf_11 : decode cX11_yearOf 11 = .ok (.if_icmp .ge 15, 3) := by decide +kernel
theorem dX11_yearOf_14 : decode cX11_yearOf 14 = .ok (.iload_n 1, 1) := by decide +kernel
theorem dX11_yearOf_15 : decode cX11_yearOf 15 = .ok (.sipush 1700, 3) := by decide +kernel
theorem dX11_yearOf_18 : decode cX11_yearOf 18 = .ok (.isub, 1) := by decide +kernel
theorem dX11_yearOf_19 : decode cX11_yearOf 19 = .ok (.aload_n 0, 1) := by decide +kernel
theorem dX11_yearOf_20 : decode cX11_yearOf 20 = .ok (.getfield 234, 3) := by decide +kernel
theorem dX11_yearOf_23 : decode cX11_yearOf 23 = .ok (.if_icmp .ne 11, 3) := by decide +kernel
theorem dX11_yearOf_26 : decode cX11_yearOf 26 = .ok (.aload_n 0, 1) := by decide +kernel
theorem dX11_yearOf_27 : decode cX11_yearOf 27 = .ok (.iconst 3, 1) := by decide +kernel
theorem dX11_yearOf_28 : decode cX11_yearOf 28 = .ok (.iload_n 2, 1) := by decide +kernel
theorem dX11_yearOf_29 : decode cX11_yearOf 29 = .ok (.invokevirtual 237, 3) := by decide +kernel
theorem dX11_yearOf_32 : decode cX11_yearOf 32 = .ok (.iconst (-1), 1) := by decide +kernel
theorem dX11_yearOf_33 : decode cX11_yearOf 33 = .ok (.ireturn, 1) := by decide +kernel
theorem dX11_yearOf_34 : decode cX11_yearOf 34 = .ok (.aload_n 0, 1) := by decide +kernel
theorem dX11_yearOf_35 : decode cX11_yearOf 35 = .ok (.dup, 1) := by decide +kernel
theorem dX11_yearOf_36 : decode cX11_yearOf 36 = .ok (.getfield 241, 3) := by decide +kernel
theorem dX11_yearOf_39 : decode cX11_yearOf 39 = .ok (.iconst 1, 1) := by decide +kernel
theorem dX11_yearOf_40 : decode cX11_yearOf 40 = .ok (.iload_n 1, 1) := by decide +kernel
theorem dX11_yearOf_41 : decode cX11_yearOf 41 = .ok (.sipush 1700, 3) := by decide +kernel
theorem dX11_yearOf_44 : decode cX11_yearOf 44 = .ok (.isub, 1) := by decide +kernel
theorem dX11_yearOf_45 : decode cX11_yearOf 45 = .ok (.ishl, 1) := by decide +kernel
theorem dX11_yearOf_46 : decode cX11_yearOf 46 = .ok (.ior, 1) := by decide +kernel
theorem dX11_yearOf_47 : decode cX11_yearOf 47 = .ok (.putfield 241, 3) := by decide +kernel
theorem dX11_yearOf_50 : decode cX11_yearOf 50 = .ok (.iload_n 1, 1) := by decide +kernel
theorem dX11_yearOf_51 : decode cX11_yearOf 51 = .ok (.sipush 1700, 3) := by decide +kernel
theorem dX11_yearOf_54 : decode cX11_yearOf 54 = .ok (.isub, 1) := by decide +kernel
theorem dX11_yearOf_55 : decode cX11_yearOf 55 = .ok (.ireturn, 1) := by decide +kernel
theorem dX11_takesName_0 : decode cX11_takesName 0 = .ok (.aload_n 0, 1) := by decide +kernel
theorem dX11_takesName_1 : decode cX11_takesName 1 = .ok (.getfield 215, 3) := by decide +kernel
theorem dX11_takesName_4 : decode cX11_takesName 4 = .ok (.ifCond .ne 10, 3) := by decide +kernel
theorem dX11_takesName_7 : decode cX11_takesName 7 = .ok (.aload_n 0, 1) := by decide +kernel
theorem dX11_takesName_8 : decode cX11_takesName 8 = .ok (.getfield 195, 3) := by decide +kernel
theorem dX11_takesName_11 : decode cX11_takesName 11 = .ok (.ifCond .eq 9, 3) := by decide +kernel
theorem dX11_takesName_14 : decode cX11_takesName 14 = .ok (.aload_n 0, 1) := by decide +kernel
theorem dX11_takesName_15 : decode cX11_takesName 15 = .ok (.invokevirtual 228, 3) := by decide +kernel
theorem dX11_takesName_18 : decode cX11_takesName 18 = .ok (.lconst 0, 1) := by decide +kernel
theorem dX11_takesName_19 : decode cX11_takesName 19 = .ok (.lreturn, 1) := by decide +kernel
theorem dX11_takesName_20 : decode cX11_takesName 20 = .ok (.aload_n 0, 1) := by decide +kernel
theorem dX11_takesName_21 : decode cX11_takesName 21 = .ok (.getfield 202, 3) := by decide +kernel
theorem dX11_takesName_24 : decode cX11_takesName 24 = .ok (.lstore_n 1, 1) := by decide +kernel
theorem dX11_takesName_25 : decode cX11_takesName 25 = .ok (.aload_n 0, 1) := by decide +kernel
theorem dX11_takesName_26 : decode cX11_takesName 26 = .ok (.invokevirtual 225, 3) := by decide +kernel
theorem dX11_takesName_29 : decode cX11_takesName 29 = .ok (.lload_n 1, 1) := by decide +kernel
theorem dX11_takesName_30 : decode cX11_takesName 30 = .ok (.lreturn, 1) := by decide +kernel
theorem dX11_takesNumber_0 : decode cX11_takesNumber 0 = .ok (.aload_n 0, 1) := by decide +kernel
theorem dX11_takesNumber_1 : decode cX11_takesNumber 1 = .ok (.getfield 215, 3) := by decide +kernel
theorem dX11_takesNumber_4 : decode cX11_takesNumber 4 = .ok (.ifCond .ne 11, 3) := by decide +kernel
theorem dX11_takesNumber_7 : decode cX11_takesNumber 7 = .ok (.aload_n 0, 1) := by decide +kernel
theorem dX11_takesNumber_8 : decode cX11_takesNumber 8 = .ok (.getfield 195, 3) := by decide +kernel
theorem dX11_takesNumber_11 : decode cX11_takesNumber 11 = .ok (.iconst 1, 1) := by decide +kernel
theorem dX11_takesNumber_12 : decode cX11_takesNumber 12 = .ok (.if_icmp .eq 9, 3) := by decide +kernel
theorem dX11_takesNumber_15 : decode cX11_takesNumber 15 = .ok (.aload_n 0, 1) := by decide +kernel
theorem dX11_takesNumber_16 : decode cX11_takesNumber 16 = .ok (.invokevirtual 228, 3) := by decide +kernel
theorem dX11_takesNumber_19 : decode cX11_takesNumber 19 = .ok (.iconst 0, 1) := by decide +kernel
theorem dX11_takesNumber_20 : decode cX11_takesNumber 20 = .ok (.ireturn, 1) := by decide +kernel
theorem dX11_takesNumber_21 : decode cX11_takesNumber 21 = .ok (.aload_n 0, 1) := by decide +kernel
theorem dX11_takesNumber_22 : decode cX11_takesNumber 22 = .ok (.getfield 209, 3) := by decide +kernel
theorem dX11_takesNumber_25 : decode cX11_takesNumber 25 = .ok (.istore_n 1, 1) := by decide +kernel
theorem dX11_takesNumber_26 : decode cX11_takesNumber 26 = .ok (.aload_n 0, 1) := by decide +kernel
theorem dX11_takesNumber_27 : decode cX11_takesNumber 27 = .ok (.invokevirtual 225, 3) := by decide +kernel
theorem dX11_takesNumber_30 : decode cX11_takesNumber 30 = .ok (.iload_n 1, 1) := by decide +kernel
theorem dX11_takesNumber_31 : decode cX11_takesNumber 31 = .ok (.ireturn, 1) := by decide +kernel
theorem dX11_plainPart_0 : decode cX11_plainPart 0 = .ok (.aload_n 0, 1) := by decide +kernel
theorem dX11_plainPart_1 : decode cX11_plainPart 1 = .ok (.bipush 45, 2) := by decide +kernel
theorem dX11_plainPart_3 : decode cX11_plainPart 3 = .ok (.invokevirtual 244, 3) := by decide +kernel
theorem dX11_plainPart_6 : decode cX11_plainPart 6 = .ok (.istore_n 1, 1) := by decide +kernel
theorem dX11_plainPart_7 : decode cX11_plainPart 7 = .ok (.aload_n 0, 1) := by decide +kernel
theorem dX11_plainPart_8 : decode cX11_plainPart 8 = .ok (.getfield 215, 3) := by decide +kernel
theorem dX11_plainPart_11 : decode cX11_plainPart 11 = .ok (.ifCond .eq 4, 3) := by decide +kernel
theorem dX11_plainPart_14 : decode cX11_plainPart 14 = .ok (.return_, 1) := by decide +kernel
theorem dX11_plainPart_15 : decode cX11_plainPart 15 = .ok (.aload_n 0, 1) := by decide +kernel
theorem dX11_plainPart_16 : decode cX11_plainPart 16 = .ok (.getfield 195, 3) := by decide +kernel
theorem dX11_plainPart_19 : decode cX11_plainPart 19 = .ok (.ifCond .ne 21, 3) := by decide +kernel
theorem dX11_plainPart_22 : decode cX11_plainPart 22 = .ok (.aload_n 0, 1) := by decide +kernel
theorem dX11_plainPart_23 : decode cX11_plainPart 23 = .ok (.bipush 6, 2) := by decide +kernel
theorem dX11_plainPart_25 : decode cX11_plainPart 25 = .ok (.aload_n 0, 1) := by decide +kernel
theorem dX11_plainPart_26 : decode cX11_plainPart 26 = .ok (.getfield 202, 3) := by decide +kernel
theorem dX11_plainPart_29 : decode cX11_plainPart 29 = .ok (.iconst (-1), 1) := by decide +kernel
theorem dX11_plainPart_30 : decode cX11_plainPart 30 = .ok (.invokevirtual 247, 3) := by decide +kernel
theorem dX11_plainPart_33 : decode cX11_plainPart 33 = .ok (.aload_n 0, 1) := by decide +kernel
theorem dX11_plainPart_34 : decode cX11_plainPart 34 = .ok (.invokevirtual 225, 3) := by decide +kernel
theorem dX11_plainPart_37 : decode cX11_plainPart 37 = .ok (.goto 68, 3) := by decide +kernel
theorem dX11_plainPart_40 : decode cX11_plainPart 40 = .ok (.aload_n 0, 1) := by decide +kernel
theorem dX11_plainPart_41 : decode cX11_plainPart 41 = .ok (.getfield 195, 3) := by decide +kernel
theorem dX11_plainPart_44 : decode cX11_plainPart 44 = .ok (.iconst 1, 1) := by decide +kernel
theorem dX11_plainPart_45 : decode cX11_plainPart 45 = .ok (.if_icmp .ne 56, 3) := by decide +kernel
theorem dX11_plainPart_48 : decode cX11_plainPart 48 = .ok (.aload_n 0, 1) := by decide +kernel
theorem dX11_plainPart_49 : decode cX11_plainPart 49 = .ok (.getfield 189, 3) := by decide +kernel
theorem dX11_plainPart_52 : decode cX11_plainPart 52 = .ok (.istore_n 2, 1) := by decide +kernel
theorem dX11_plainPart_53 : decode cX11_plainPart 53 = .ok (.aload_n 0, 1) := by decide +kernel
theorem dX11_plainPart_54 : decode cX11_plainPart 54 = .ok (.getfield 209, 3) := by decide +kernel
theorem dX11_plainPart_57 : decode cX11_plainPart 57 = .ok (.istore_n 3, 1) := by decide +kernel
theorem dX11_plainPart_58 : decode cX11_plainPart 58 = .ok (.aload_n 0, 1) := by decide +kernel
theorem dX11_plainPart_59 : decode cX11_plainPart 59 = .ok (.invokevirtual 225, 3) := by decide +kernel
theorem dX11_plainPart_62 : decode cX11_plainPart 62 = .ok (.aload_n 0, 1) := by decide +kernel
theorem dX11_plainPart_63 : decode cX11_plainPart 63 = .ok (.bipush 46, 2) := by decide +kernel
theorem dX11_plainPart_65 : decode cX11_plainPart 65 = .ok (.invokevirtual 244, 3) := by decide +kernel
theorem dX11_plainPart_68 : decode cX11_plainPart 68 = .ok (.ifCond .eq 22, 3) := by decide +kernel
theorem dX11_plainPart_71 : decode cX11_plainPart 71 = .ok (.aload_n 0, 1) := by decide +kernel
theorem dX11_plainPart_72 : decode cX11_plainPart 72 = .ok (.bipush 6, 2) := by decide +kernel
theorem dX11_plainPart_74 : decode cX11_plainPart 74 = .ok (.aload_n 0, 1) := by decide +kernel
theorem dX11_plainPart_75 : decode cX11_plainPart 75 = .ok (.invokevirtual 251, 3) := by decide +kernel
theorem dX11_plainPart_78 : decode cX11_plainPart 78 = .ok (.aload_n 0, 1) := by decide +kernel
theorem dX11_plainPart_79 : decode cX11_plainPart 79 = .ok (.iload_n 3, 1) := by decide +kernel
theorem dX11_plainPart_80 : decode cX11_plainPart 80 = .ok (.iload_n 2, 1) := by decide +kernel
theorem dX11_plainPart_81 : decode cX11_plainPart 81 = .ok (.invokevirtual 255, 3) := by decide +kernel
theorem dX11_plainPart_84 : decode cX11_plainPart 84 = .ok (.invokevirtual 247, 3) := by decide +kernel
theorem dX11_plainPart_87 : decode cX11_plainPart 87 = .ok (.goto 11, 3) := by decide +kernel
theorem dX11_plainPart_90 : decode cX11_plainPart 90 = .ok (.aload_n 0, 1) := by decide +kernel
theorem dX11_plainPart_91 : decode cX11_plainPart 91 = .ok (.iconst 0, 1) := by decide +kernel
theorem dX11_plainPart_92 : decode cX11_plainPart 92 = .ok (.iload_n 3, 1) := by decide +kernel
theorem dX11_plainPart_93 : decode cX11_plainPart 93 = .ok (.i2l, 1) := by decide +kernel
theorem dX11_plainPart_94 : decode cX11_plainPart 94 = .ok (.iconst (-1), 1) := by decide +kernel
theorem dX11_plainPart_95 : decode cX11_plainPart 95 = .ok (.invokevirtual 247, 3) := by decide +kernel
theorem dX11_plainPart_98 : decode cX11_plainPart 98 = .ok (.goto 7, 3) := by decide +kernel
theorem dX11_plainPart_101 : decode cX11_plainPart 101 = .ok (.aload_n 0, 1) := by decide +kernel
theorem dX11_plainPart_102 : decode cX11_plainPart 102 = .ok (.invokevirtual 228, 3) := by decide +kernel
theorem dX11_plainPart_105 : decode cX11_plainPart 105 = .ok (.iload_n 1, 1) := by decide +kernel
theorem dX11_plainPart_106 : decode cX11_plainPart 106 = .ok (.ifCond .eq 11, 3) := by decide +kernel
theorem dX11_plainPart_109 : decode cX11_plainPart 109 = .ok (.aload_n 0, 1) := by decide +kernel
theorem dX11_plainPart_110 : decode cX11_plainPart 110 = .ok (.bipush 8, 2) := by decide +kernel
theorem dX11_plainPart_112 : decode cX11_plainPart 112 = .ok (.lconst 0, 1) := by decide +kernel
theorem dX11_plainPart_113 : decode cX11_plainPart 113 = .ok (.iconst (-1), 1) := by decide +kernel
theorem dX11_plainPart_114 : decode cX11_plainPart 114 = .ok (.invokevirtual 247, 3) := by decide +kernel
theorem dX11_plainPart_117 : decode cX11_plainPart 117 = .ok (.return_, 1) := by decide +kernel
theorem dX11_plainProduct_0 : decode cX11_plainProduct 0 = .ok (.aload_n 0, 1) := by decide +kernel
theorem dX11_plainProduct_1 : decode cX11_plainProduct 1 = .ok (.invokevirtual 259, 3) := by decide +kernel
theorem dX11_plainProduct_4 : decode cX11_plainProduct 4 = .ok (.aload_n 0, 1) := by decide +kernel
theorem dX11_plainProduct_5 : decode cX11_plainProduct 5 = .ok (.bipush 42, 2) := by decide +kernel
theorem dX11_plainProduct_7 : decode cX11_plainProduct 7 = .ok (.invokevirtual 244, 3) := by decide +kernel
theorem dX11_plainProduct_10 : decode cX11_plainProduct 10 = .ok (.ifCond .eq 18, 3) := by decide +kernel
theorem dX11_plainProduct_13 : decode cX11_plainProduct 13 = .ok (.aload_n 0, 1) := by decide +kernel
theorem dX11_plainProduct_14 : decode cX11_plainProduct 14 = .ok (.invokevirtual 259, 3) := by decide +kernel
theorem dX11_plainProduct_17 : decode cX11_plainProduct 17 = .ok (.aload_n 0, 1) := by decide +kernel
theorem dX11_plainProduct_18 : decode cX11_plainProduct 18 = .ok (.bipush 42, 2) := by decide +kernel
theorem dX11_plainProduct_20 : decode cX11_plainProduct 20 = .ok (.lconst 0, 1) := by decide +kernel
theorem dX11_plainProduct_21 : decode cX11_plainProduct 21 = .ok (.iconst (-1), 1) := by decide +kernel
theorem dX11_plainProduct_22 : decode cX11_plainProduct 22 = .ok (.invokevirtual 247, 3) := by decide +kernel
theorem dX11_plainProduct_25 : decode cX11_plainProduct 25 = .ok (.goto (-21), 3) := by decide +kernel
theorem dX11_plainProduct_28 : decode cX11_plainProduct 28 = .ok (.return_, 1) := by decide +kernel
theorem dX11_plainSum_0 : decode cX11_plainSum 0 = .ok (.aload_n 0, 1) := by decide +kernel
theorem dX11_plainSum_1 : decode cX11_plainSum 1 = .ok (.invokevirtual 262, 3) := by decide +kernel
theorem dX11_plainSum_4 : decode cX11_plainSum 4 = .ok (.aload_n 0, 1) := by decide +kernel
theorem dX11_plainSum_5 : decode cX11_plainSum 5 = .ok (.getfield 215, 3) := by decide +kernel
theorem dX11_plainSum_8 : decode cX11_plainSum 8 = .ok (.ifCond .ne 49, 3) := by decide +kernel
theorem dX11_plainSum_11 : decode cX11_plainSum 11 = .ok (.aload_n 0, 1) := by decide +kernel
theorem dX11_plainSum_12 : decode cX11_plainSum 12 = .ok (.bipush 43, 2) := by decide +kernel
theorem dX11_plainSum_14 : decode cX11_plainSum 14 = .ok (.invokevirtual 222, 3) := by decide +kernel
theorem dX11_plainSum_17 : decode cX11_plainSum 17 = .ok (.ifCond .ne 12, 3) := by decide +kernel
theorem dX11_plainSum_20 : decode cX11_plainSum 20 = .ok (.aload_n 0, 1) := by decide +kernel
theorem dX11_plainSum_21 : decode cX11_plainSum 21 = .ok (.bipush 45, 2) := by decide +kernel
theorem dX11_plainSum_23 : decode cX11_plainSum 23 = .ok (.invokevirtual 222, 3) := by decide +kernel
theorem dX11_plainSum_26 : decode cX11_plainSum 26 = .ok (.ifCond .eq 31, 3) := by decide +kernel
theorem dX11_plainSum_29 : decode cX11_plainSum 29 = .ok (.aload_n 0, 1) := by decide +kernel
theorem dX11_plainSum_30 : decode cX11_plainSum 30 = .ok (.getfield 7, 3) := by decide +kernel
theorem dX11_plainSum_33 : decode cX11_plainSum 33 = .ok (.aload_n 0, 1) := by decide +kernel
theorem dX11_plainSum_34 : decode cX11_plainSum 34 = .ok (.getfield 189, 3) := by decide +kernel
theorem dX11_plainSum_37 : decode cX11_plainSum 37 = .ok (.baload, 1) := by decide +kernel
theorem dX11_plainSum_38 : decode cX11_plainSum 38 = .ok (.istore_n 1, 1) := by decide +kernel
theorem dX11_plainSum_39 : decode cX11_plainSum 39 = .ok (.aload_n 0, 1) := by decide +kernel
theorem dX11_plainSum_40 : decode cX11_plainSum 40 = .ok (.invokevirtual 225, 3) := by decide +kernel
theorem dX11_plainSum_43 : decode cX11_plainSum 43 = .ok (.aload_n 0, 1) := by decide +kernel
theorem dX11_plainSum_44 : decode cX11_plainSum 44 = .ok (.invokevirtual 262, 3) := by decide +kernel
theorem dX11_plainSum_47 : decode cX11_plainSum 47 = .ok (.aload_n 0, 1) := by decide +kernel
theorem dX11_plainSum_48 : decode cX11_plainSum 48 = .ok (.iload_n 1, 1) := by decide +kernel
theorem dX11_plainSum_49 : decode cX11_plainSum 49 = .ok (.lconst 0, 1) := by decide +kernel
theorem dX11_plainSum_50 : decode cX11_plainSum 50 = .ok (.iconst (-1), 1) := by decide +kernel
theorem dX11_plainSum_51 : decode cX11_plainSum 51 = .ok (.invokevirtual 247, 3) := by decide +kernel
theorem dX11_plainSum_54 : decode cX11_plainSum 54 = .ok (.goto (-50), 3) := by decide +kernel
theorem dX11_plainSum_57 : decode cX11_plainSum 57 = .ok (.aload_n 0, 1) := by decide +kernel
theorem dX11_plainSum_58 : decode cX11_plainSum 58 = .ok (.bipush 11, 2) := by decide +kernel
theorem dX11_plainSum_60 : decode cX11_plainSum 60 = .ok (.lconst 0, 1) := by decide +kernel
theorem dX11_plainSum_61 : decode cX11_plainSum 61 = .ok (.iconst (-1), 1) := by decide +kernel
theorem dX11_plainSum_62 : decode cX11_plainSum 62 = .ok (.invokevirtual 247, 3) := by decide +kernel
theorem dX11_plainSum_65 : decode cX11_plainSum 65 = .ok (.return_, 1) := by decide +kernel
theorem dX11_formula_0 : decode cX11_formula 0 = .ok (.aload_n 0, 1) := by decide +kernel
theorem dX11_formula_1 : decode cX11_formula 1 = .ok (.getfield 215, 3) := by decide +kernel
theorem dX11_formula_4 : decode cX11_formula 4 = .ok (.ifCond .eq 4, 3) := by decide +kernel
theorem dX11_formula_7 : decode cX11_formula 7 = .ok (.return_, 1) := by decide +kernel
theorem dX11_formula_8 : decode cX11_formula 8 = .ok (.aload_n 0, 1) := by decide +kernel
theorem dX11_formula_9 : decode cX11_formula 9 = .ok (.getfield 265, 3) := by decide +kernel
theorem dX11_formula_12 : decode cX11_formula 12 = .ok (.bipush 12, 2) := by decide +kernel
theorem dX11_formula_14 : decode cX11_formula 14 = .ok (.if_icmp .ne 8, 3) := by decide +kernel
theorem dX11_formula_17 : decode cX11_formula 17 = .ok (.aload_n 0, 1) := by decide +kernel
theorem dX11_formula_18 : decode cX11_formula 18 = .ok (.invokevirtual 228, 3) := by decide +kernel
theorem dX11_formula_21 : decode cX11_formula 21 = .ok (.return_, 1) := by decide +kernel
theorem dX11_formula_22 : decode cX11_formula 22 = .ok (.aload_n 0, 1) := by decide +kernel
theorem dX11_formula_23 : decode cX11_formula 23 = .ok (.dup, 1) := by decide +kernel
theorem dX11_formula_24 : decode cX11_formula 24 = .ok (.getfield 265, 3) := by decide +kernel
theorem dX11_formula_27 : decode cX11_formula 27 = .ok (.iconst 1, 1) := by decide +kernel
theorem dX11_formula_28 : decode cX11_formula 28 = .ok (.iadd, 1) := by decide +kernel
theorem dX11_formula_29 : decode cX11_formula 29 = .ok (.putfield 265, 3) := by decide +kernel
theorem dX11_formula_32 : decode cX11_formula 32 = .ok (.aload_n 0, 1) := by decide +kernel
theorem dX11_formula_33 : decode cX11_formula 33 = .ok (.invokevirtual 268, 3) := by decide +kernel
theorem dX11_formula_36 : decode cX11_formula 36 = .ok (.aload_n 0, 1) := by decide +kernel
theorem dX11_formula_37 : decode cX11_formula 37 = .ok (.bipush 63, 2) := by decide +kernel
theorem dX11_formula_39 : decode cX11_formula 39 = .ok (.invokevirtual 244, 3) := by decide +kernel
theorem dX11_formula_42 : decode cX11_formula 42 = .ok (.ifCond .eq 65, 3) := by decide +kernel
theorem dX11_formula_45 : decode cX11_formula 45 = .ok (.aload_n 0, 1) := by decide +kernel
theorem dX11_formula_46 : decode cX11_formula 46 = .ok (.getfield 231, 3) := by decide +kernel
theorem dX11_formula_49 : decode cX11_formula 49 = .ok (.istore_n 1, 1) := by decide +kernel
theorem dX11_formula_50 : decode cX11_formula 50 = .ok (.aload_n 0, 1) := by decide +kernel
theorem dX11_formula_51 : decode cX11_formula 51 = .ok (.bipush 9, 2) := by decide +kernel
theorem dX11_formula_53 : decode cX11_formula 53 = .ok (.lconst 0, 1) := by decide +kernel
theorem dX11_formula_54 : decode cX11_formula 54 = .ok (.iconst (-1), 1) := by decide +kernel
theorem dX11_formula_55 : decode cX11_formula 55 = .ok (.invokevirtual 247, 3) := by decide +kernel
theorem dX11_formula_58 : decode cX11_formula 58 = .ok (.aload_n 0, 1) := by decide +kernel
theorem dX11_formula_59 : decode cX11_formula 59 = .ok (.invokevirtual 271, 3) := by decide +kernel
theorem dX11_formula_62 : decode cX11_formula 62 = .ok (.aload_n 0, 1) := by decide +kernel
theorem dX11_formula_63 : decode cX11_formula 63 = .ok (.bipush 58, 2) := by decide +kernel
theorem dX11_formula_65 : decode cX11_formula 65 = .ok (.invokevirtual 274, 3) := by decide +kernel
theorem dX11_formula_68 : decode cX11_formula 68 = .ok (.aload_n 0, 1) := by decide +kernel
theorem dX11_formula_69 : decode cX11_formula 69 = .ok (.getfield 231, 3) := by decide +kernel
theorem dX11_formula_72 : decode cX11_formula 72 = .ok (.istore_n 2, 1) := by decide +kernel
theorem dX11_formula_73 : decode cX11_formula 73 = .ok (.aload_n 0, 1) := by decide +kernel
theorem dX11_formula_74 : decode cX11_formula 74 = .ok (.bipush 10, 2) := by decide +kernel
theorem dX11_formula_76 : decode cX11_formula 76 = .ok (.lconst 0, 1) := by decide +kernel
theorem dX11_formula_77 : decode cX11_formula 77 = .ok (.iconst (-1), 1) := by decide +kernel
theorem dX11_formula_78 : decode cX11_formula 78 = .ok (.invokevirtual 247, 3) := by decide +kernel
theorem dX11_formula_81 : decode cX11_formula 81 = .ok (.aload_n 0, 1) := by decide +kernel
theorem dX11_formula_82 : decode cX11_formula 82 = .ok (.getfield 50, 3) := by decide +kernel
theorem dX11_formula_85 : decode cX11_formula 85 = .ok (.iload_n 1, 1) := by decide +kernel
theorem dX11_formula_86 : decode cX11_formula 86 = .ok (.aload_n 0, 1) := by decide +kernel
theorem dX11_formula_87 : decode cX11_formula 87 = .ok (.getfield 231, 3) := by decide +kernel
theorem dX11_formula_90 : decode cX11_formula 90 = .ok (.i2l, 1) := by decide +kernel
theorem dX11_formula_91 : decode cX11_formula 91 = .ok (.lastore, 1) := by decide +kernel
theorem dX11_formula_92 : decode cX11_formula 92 = .ok (.aload_n 0, 1) := by decide +kernel
theorem dX11_formula_93 : decode cX11_formula 93 = .ok (.invokevirtual 271, 3) := by decide +kernel
theorem dX11_formula_96 : decode cX11_formula 96 = .ok (.aload_n 0, 1) := by decide +kernel
theorem dX11_formula_97 : decode cX11_formula 97 = .ok (.getfield 50, 3) := by decide +kernel
theorem dX11_formula_100 : decode cX11_formula 100 = .ok (.iload_n 2, 1) := by decide +kernel
theorem dX11_formula_101 : decode cX11_formula 101 = .ok (.aload_n 0, 1) := by decide +kernel
theorem dX11_formula_102 : decode cX11_formula 102 = .ok (.getfield 231, 3) := by decide +kernel
theorem dX11_formula_105 : decode cX11_formula 105 = .ok (.i2l, 1) := by decide +kernel
theorem dX11_formula_106 : decode cX11_formula 106 = .ok (.lastore, 1) := by decide +kernel
theorem dX11_formula_107 : decode cX11_formula 107 = .ok (.aload_n 0, 1) := by decide +kernel
theorem dX11_formula_108 : decode cX11_formula 108 = .ok (.dup, 1) := by decide +kernel
theorem dX11_formula_109 : decode cX11_formula 109 = .ok (.getfield 265, 3) := by decide +kernel
theorem dX11_formula_112 : decode cX11_formula 112 = .ok (.iconst 1, 1) := by decide +kernel
theorem dX11_formula_113 : decode cX11_formula 113 = .ok (.isub, 1) := by decide +kernel
theorem dX11_formula_114 : decode cX11_formula 114 = .ok (.putfield 265, 3) := by decide +kernel
theorem dX11_formula_117 : decode cX11_formula 117 = .ok (.return_, 1) := by decide +kernel
theorem dX11_compared_0 : decode cX11_compared 0 = .ok (.aload_n 0, 1) := by decide +kernel
theorem dX11_compared_1 : decode cX11_compared 1 = .ok (.invokevirtual 278, 3) := by decide +kernel
theorem dX11_compared_4 : decode cX11_compared 4 = .ok (.aload_n 0, 1) := by decide +kernel
theorem dX11_compared_5 : decode cX11_compared 5 = .ok (.getfield 215, 3) := by decide +kernel
theorem dX11_compared_8 : decode cX11_compared 8 = .ok (.ifCond .ne 30, 3) := by decide +kernel
theorem dX11_compared_11 : decode cX11_compared 11 = .ok (.aload_n 0, 1) := by decide +kernel
theorem dX11_compared_12 : decode cX11_compared 12 = .ok (.bipush 61, 2) := by decide +kernel
theorem dX11_compared_14 : decode cX11_compared 14 = .ok (.invokevirtual 222, 3) := by decide +kernel
theorem dX11_compared_17 : decode cX11_compared 17 = .ok (.ifCond .ne 22, 3) := by decide +kernel
theorem dX11_compared_20 : decode cX11_compared 20 = .ok (.aload_n 0, 1) := by decide +kernel
theorem dX11_compared_21 : decode cX11_compared 21 = .ok (.bipush 60, 2) := by decide +kernel
theorem dX11_compared_23 : decode cX11_compared 23 = .ok (.invokevirtual 222, 3) := by decide +kernel
theorem dX11_compared_26 : decode cX11_compared 26 = .ok (.ifCond .ne 13, 3) := by decide +kernel
theorem dX11_compared_29 : decode cX11_compared 29 = .ok (.aload_n 0, 1) := by decide +kernel
theorem dX11_compared_30 : decode cX11_compared 30 = .ok (.bipush 62, 2) := by decide +kernel
theorem dX11_compared_32 : decode cX11_compared 32 = .ok (.invokevirtual 222, 3) := by decide +kernel
theorem dX11_compared_35 : decode cX11_compared 35 = .ok (.ifCond .ne 4, 3) := by decide +kernel
theorem dX11_compared_38 : decode cX11_compared 38 = .ok (.return_, 1) := by decide +kernel
theorem dX11_compared_39 : decode cX11_compared 39 = .ok (.aload_n 0, 1) := by decide +kernel
theorem dX11_compared_40 : decode cX11_compared 40 = .ok (.getfield 7, 3) := by decide +kernel
theorem dX11_compared_43 : decode cX11_compared 43 = .ok (.aload_n 0, 1) := by decide +kernel
theorem dX11_compared_44 : decode cX11_compared 44 = .ok (.getfield 189, 3) := by decide +kernel
theorem dX11_compared_47 : decode cX11_compared 47 = .ok (.baload, 1) := by decide +kernel
theorem dX11_compared_48 : decode cX11_compared 48 = .ok (.istore_n 1, 1) := by decide +kernel
theorem dX11_compared_49 : decode cX11_compared 49 = .ok (.aload_n 0, 1) := by decide +kernel
theorem dX11_compared_50 : decode cX11_compared 50 = .ok (.invokevirtual 225, 3) := by decide +kernel
theorem dX11_compared_53 : decode cX11_compared 53 = .ok (.aload_n 0, 1) := by decide +kernel
theorem dX11_compared_54 : decode cX11_compared 54 = .ok (.invokevirtual 278, 3) := by decide +kernel
theorem dX11_compared_57 : decode cX11_compared 57 = .ok (.aload_n 0, 1) := by decide +kernel
theorem dX11_compared_58 : decode cX11_compared 58 = .ok (.iload_n 1, 1) := by decide +kernel
theorem dX11_compared_59 : decode cX11_compared 59 = .ok (.lconst 0, 1) := by decide +kernel
theorem dX11_compared_60 : decode cX11_compared 60 = .ok (.iconst (-1), 1) := by decide +kernel
theorem dX11_compared_61 : decode cX11_compared 61 = .ok (.invokevirtual 247, 3) := by decide +kernel
theorem dX11_compared_64 : decode cX11_compared 64 = .ok (.return_, 1) := by decide +kernel
theorem dX11_sum_0 : decode cX11_sum 0 = .ok (.aload_n 0, 1) := by decide +kernel
theorem dX11_sum_1 : decode cX11_sum 1 = .ok (.invokevirtual 281, 3) := by decide +kernel
theorem dX11_sum_4 : decode cX11_sum 4 = .ok (.aload_n 0, 1) := by decide +kernel
theorem dX11_sum_5 : decode cX11_sum 5 = .ok (.getfield 215, 3) := by decide +kernel
theorem dX11_sum_8 : decode cX11_sum 8 = .ok (.ifCond .ne 49, 3) := by decide +kernel
theorem dX11_sum_11 : decode cX11_sum 11 = .ok (.aload_n 0, 1) := by decide +kernel
theorem dX11_sum_12 : decode cX11_sum 12 = .ok (.bipush 43, 2) := by decide +kernel
theorem dX11_sum_14 : decode cX11_sum 14 = .ok (.invokevirtual 222, 3) := by decide +kernel
theorem dX11_sum_17 : decode cX11_sum 17 = .ok (.ifCond .ne 12, 3) := by decide +kernel
theorem dX11_sum_20 : decode cX11_sum 20 = .ok (.aload_n 0, 1) := by decide +kernel
theorem dX11_sum_21 : decode cX11_sum 21 = .ok (.bipush 45, 2) := by decide +kernel
theorem dX11_sum_23 : decode cX11_sum 23 = .ok (.invokevirtual 222, 3) := by decide +kernel
theorem dX11_sum_26 : decode cX11_sum 26 = .ok (.ifCond .eq 31, 3) := by decide +kernel
theorem dX11_sum_29 : decode cX11_sum 29 = .ok (.aload_n 0, 1) := by decide +kernel
theorem dX11_sum_30 : decode cX11_sum 30 = .ok (.getfield 7, 3) := by decide +kernel
theorem dX11_sum_33 : decode cX11_sum 33 = .ok (.aload_n 0, 1) := by decide +kernel
theorem dX11_sum_34 : decode cX11_sum 34 = .ok (.getfield 189, 3) := by decide +kernel
theorem dX11_sum_37 : decode cX11_sum 37 = .ok (.baload, 1) := by decide +kernel
theorem dX11_sum_38 : decode cX11_sum 38 = .ok (.istore_n 1, 1) := by decide +kernel
theorem dX11_sum_39 : decode cX11_sum 39 = .ok (.aload_n 0, 1) := by decide +kernel
theorem dX11_sum_40 : decode cX11_sum 40 = .ok (.invokevirtual 225, 3) := by decide +kernel
theorem dX11_sum_43 : decode cX11_sum 43 = .ok (.aload_n 0, 1) := by decide +kernel
theorem dX11_sum_44 : decode cX11_sum 44 = .ok (.invokevirtual 281, 3) := by decide +kernel
theorem dX11_sum_47 : decode cX11_sum 47 = .ok (.aload_n 0, 1) := by decide +kernel
theorem dX11_sum_48 : decode cX11_sum 48 = .ok (.iload_n 1, 1) := by decide +kernel
theorem dX11_sum_49 : decode cX11_sum 49 = .ok (.lconst 0, 1) := by decide +kernel
theorem dX11_sum_50 : decode cX11_sum 50 = .ok (.iconst (-1), 1) := by decide +kernel
theorem dX11_sum_51 : decode cX11_sum 51 = .ok (.invokevirtual 247, 3) := by decide +kernel
theorem dX11_sum_54 : decode cX11_sum 54 = .ok (.goto (-50), 3) := by decide +kernel
theorem dX11_sum_57 : decode cX11_sum 57 = .ok (.return_, 1) := by decide +kernel
theorem dX11_product_0 : decode cX11_product 0 = .ok (.aload_n 0, 1) := by decide +kernel
theorem dX11_product_1 : decode cX11_product 1 = .ok (.invokevirtual 284, 3) := by decide +kernel
theorem dX11_product_4 : decode cX11_product 4 = .ok (.aload_n 0, 1) := by decide +kernel
theorem dX11_product_5 : decode cX11_product 5 = .ok (.getfield 215, 3) := by decide +kernel
theorem dX11_product_8 : decode cX11_product 8 = .ok (.ifCond .ne 58, 3) := by decide +kernel
theorem dX11_product_11 : decode cX11_product 11 = .ok (.aload_n 0, 1) := by decide +kernel
theorem dX11_product_12 : decode cX11_product 12 = .ok (.bipush 42, 2) := by decide +kernel
theorem dX11_product_14 : decode cX11_product 14 = .ok (.invokevirtual 222, 3) := by decide +kernel
theorem dX11_product_17 : decode cX11_product 17 = .ok (.ifCond .ne 21, 3) := by decide +kernel
theorem dX11_product_20 : decode cX11_product 20 = .ok (.aload_n 0, 1) := by decide +kernel
theorem dX11_product_21 : decode cX11_product 21 = .ok (.bipush 47, 2) := by decide +kernel
theorem dX11_product_23 : decode cX11_product 23 = .ok (.invokevirtual 222, 3) := by decide +kernel
theorem dX11_product_26 : decode cX11_product 26 = .ok (.ifCond .ne 12, 3) := by decide +kernel
theorem dX11_product_29 : decode cX11_product 29 = .ok (.aload_n 0, 1) := by decide +kernel
theorem dX11_product_30 : decode cX11_product 30 = .ok (.bipush 37, 2) := by decide +kernel
theorem dX11_product_32 : decode cX11_product 32 = .ok (.invokevirtual 222, 3) := by decide +kernel
theorem dX11_product_35 : decode cX11_product 35 = .ok (.ifCond .eq 31, 3) := by decide +kernel
theorem dX11_product_38 : decode cX11_product 38 = .ok (.aload_n 0, 1) := by decide +kernel
theorem dX11_product_39 : decode cX11_product 39 = .ok (.getfield 7, 3) := by decide +kernel
theorem dX11_product_42 : decode cX11_product 42 = .ok (.aload_n 0, 1) := by decide +kernel
theorem dX11_product_43 : decode cX11_product 43 = .ok (.getfield 189, 3) := by decide +kernel
theorem dX11_product_46 : decode cX11_product 46 = .ok (.baload, 1) := by decide +kernel
theorem dX11_product_47 : decode cX11_product 47 = .ok (.istore_n 1, 1) := by decide +kernel
theorem dX11_product_48 : decode cX11_product 48 = .ok (.aload_n 0, 1) := by decide +kernel
theorem dX11_product_49 : decode cX11_product 49 = .ok (.invokevirtual 225, 3) := by decide +kernel
theorem dX11_product_52 : decode cX11_product 52 = .ok (.aload_n 0, 1) := by decide +kernel
theorem dX11_product_53 : decode cX11_product 53 = .ok (.invokevirtual 284, 3) := by decide +kernel
theorem dX11_product_56 : decode cX11_product 56 = .ok (.aload_n 0, 1) := by decide +kernel
theorem dX11_product_57 : decode cX11_product 57 = .ok (.iload_n 1, 1) := by decide +kernel
theorem dX11_product_58 : decode cX11_product 58 = .ok (.lconst 0, 1) := by decide +kernel
theorem dX11_product_59 : decode cX11_product 59 = .ok (.iconst (-1), 1) := by decide +kernel
theorem dX11_product_60 : decode cX11_product 60 = .ok (.invokevirtual 247, 3) := by decide +kernel
theorem dX11_product_63 : decode cX11_product 63 = .ok (.goto (-59), 3) := by decide +kernel
theorem dX11_product_66 : decode cX11_product 66 = .ok (.return_, 1) := by decide +kernel
theorem dX11_signed_0 : decode cX11_signed 0 = .ok (.aload_n 0, 1) := by decide +kernel
theorem dX11_signed_1 : decode cX11_signed 1 = .ok (.bipush 45, 2) := by decide +kernel
theorem dX11_signed_3 : decode cX11_signed 3 = .ok (.invokevirtual 244, 3) := by decide +kernel
theorem dX11_signed_6 : decode cX11_signed 6 = .ok (.istore_n 1, 1) := by decide +kernel
theorem dX11_signed_7 : decode cX11_signed 7 = .ok (.aload_n 0, 1) := by decide +kernel
theorem dX11_signed_8 : decode cX11_signed 8 = .ok (.invokevirtual 287, 3) := by decide +kernel
theorem dX11_signed_11 : decode cX11_signed 11 = .ok (.iload_n 1, 1) := by decide +kernel
theorem dX11_signed_12 : decode cX11_signed 12 = .ok (.ifCond .eq 11, 3) := by decide +kernel
theorem dX11_signed_15 : decode cX11_signed 15 = .ok (.aload_n 0, 1) := by decide +kernel
theorem dX11_signed_16 : decode cX11_signed 16 = .ok (.bipush 8, 2) := by decide +kernel
theorem dX11_signed_18 : decode cX11_signed 18 = .ok (.lconst 0, 1) := by decide +kernel
theorem dX11_signed_19 : decode cX11_signed 19 = .ok (.iconst (-1), 1) := by decide +kernel
theorem dX11_signed_20 : decode cX11_signed 20 = .ok (.invokevirtual 247, 3) := by decide +kernel
theorem dX11_signed_23 : decode cX11_signed 23 = .ok (.return_, 1) := by decide +kernel
theorem dX11_called_0 : decode cX11_called 0 = .ok (.aload_n 0, 1) := by decide +kernel
theorem dX11_called_1 : decode cX11_called 1 = .ok (.bipush 91, 2) := by decide +kernel
theorem dX11_called_3 : decode cX11_called 3 = .ok (.invokevirtual 244, 3) := by decide +kernel
theorem dX11_called_6 : decode cX11_called 6 = .ok (.ifCond .eq 24, 3) := by decide +kernel
theorem dX11_called_9 : decode cX11_called 9 = .ok (.aload_n 0, 1) := by decide +kernel
theorem dX11_called_10 : decode cX11_called 10 = .ok (.invokevirtual 271, 3) := by decide +kernel
theorem dX11_called_13 : decode cX11_called 13 = .ok (.aload_n 0, 1) := by decide +kernel
theorem dX11_called_14 : decode cX11_called 14 = .ok (.bipush 93, 2) := by decide +kernel
theorem dX11_called_16 : decode cX11_called 16 = .ok (.invokevirtual 274, 3) := by decide +kernel
theorem dX11_called_19 : decode cX11_called 19 = .ok (.aload_n 0, 1) := by decide +kernel
theorem dX11_called_20 : decode cX11_called 20 = .ok (.bipush 7, 2) := by decide +kernel
theorem dX11_called_22 : decode cX11_called 22 = .ok (.lload_n 1, 1) := by decide +kernel
theorem dX11_called_23 : decode cX11_called 23 = .ok (.iload_n 3, 1) := by decide +kernel
theorem dX11_called_24 : decode cX11_called 24 = .ok (.invokevirtual 247, 3) := by decide +kernel
theorem dX11_called_27 : decode cX11_called 27 = .ok (.goto 11, 3) := by decide +kernel
theorem dX11_called_30 : decode cX11_called 30 = .ok (.aload_n 0, 1) := by decide +kernel
theorem dX11_called_31 : decode cX11_called 31 = .ok (.bipush 6, 2) := by decide +kernel
theorem dX11_called_33 : decode cX11_called 33 = .ok (.lload_n 1, 1) := by decide +kernel
theorem dX11_called_34 : decode cX11_called 34 = .ok (.iload_n 3, 1) := by decide +kernel
theorem dX11_called_35 : decode cX11_called 35 = .ok (.invokevirtual 247, 3) := by decide +kernel
theorem dX11_called_38 : decode cX11_called 38 = .ok (.return_, 1) := by decide +kernel
theorem dX11_atom_0 : decode cX11_atom 0 = .ok (.aload_n 0, 1) := by decide +kernel
theorem dX11_atom_1 : decode cX11_atom 1 = .ok (.getfield 215, 3) := by decide +kernel
theorem dX11_atom_4 : decode cX11_atom 4 = .ok (.ifCond .eq 4, 3) := by decide +kernel
theorem dX11_atom_7 : decode cX11_atom 7 = .ok (.return_, 1) := by decide +kernel
theorem dX11_atom_8 : decode cX11_atom 8 = .ok (.aload_n 0, 1) := by decide +kernel
theorem dX11_atom_9 : decode cX11_atom 9 = .ok (.getfield 189, 3) := by decide +kernel
theorem dX11_atom_12 : decode cX11_atom 12 = .ok (.istore_n 1, 1) := by decide +kernel
theorem dX11_atom_13 : decode cX11_atom 13 = .ok (.aload_n 0, 1) := by decide +kernel
theorem dX11_atom_14 : decode cX11_atom 14 = .ok (.getfield 195, 3) := by decide +kernel
theorem dX11_atom_17 : decode cX11_atom 17 = .ok (.ifCond .ne 15, 3) := by decide +kernel
theorem dX11_atom_20 : decode cX11_atom 20 = .ok (.aload_n 0, 1) := by decide +kernel
theorem dX11_atom_21 : decode cX11_atom 21 = .ok (.aload_n 0, 1) := by decide +kernel
theorem dX11_atom_22 : decode cX11_atom 22 = .ok (.invokevirtual 251, 3) := by decide +kernel
theorem dX11_atom_25 : decode cX11_atom 25 = .ok (.iconst (-1), 1) := by decide +kernel
theorem dX11_atom_26 : decode cX11_atom 26 = .ok (.invokevirtual 290, 3) := by decide +kernel
theorem dX11_atom_29 : decode cX11_atom 29 = .ok (.goto 162, 3) := by decide +kernel
theorem dX11_atom_32 : decode cX11_atom 32 = .ok (.aload_n 0, 1) := by decide +kernel
theorem dX11_atom_33 : decode cX11_atom 33 = .ok (.getfield 195, 3) := by decide +kernel
theorem dX11_atom_36 : decode cX11_atom 36 = .ok (.iconst 1, 1) := by decide +kernel
theorem dX11_atom_37 : decode cX11_atom 37 = .ok (.if_icmp .ne 47, 3) := by decide +kernel
theorem dX11_atom_40 : decode cX11_atom 40 = .ok (.aload_n 0, 1) := by decide +kernel
theorem dX11_atom_41 : decode cX11_atom 41 = .ok (.invokevirtual 294, 3) := by decide +kernel
theorem dX11_atom_44 : decode cX11_atom 44 = .ok (.istore_n 2, 1) := by decide +kernel
theorem dX11_atom_45 : decode cX11_atom 45 = .ok (.aload_n 0, 1) := by decide +kernel
theorem dX11_atom_46 : decode cX11_atom 46 = .ok (.bipush 46, 2) := by decide +kernel
theorem dX11_atom_48 : decode cX11_atom 48 = .ok (.invokevirtual 244, 3) := by decide +kernel
theorem dX11_atom_51 : decode cX11_atom 51 = .ok (.ifCond .eq 22, 3) := by decide +kernel
theorem dX11_atom_54 : decode cX11_atom 54 = .ok (.aload_n 0, 1) := by decide +kernel
theorem dX11_atom_55 : decode cX11_atom 55 = .ok (.iload_n 2, 1) := by decide +kernel
theorem dX11_atom_56 : decode cX11_atom 56 = .ok (.iload_n 1, 1) := by decide +kernel
theorem dX11_atom_57 : decode cX11_atom 57 = .ok (.invokevirtual 255, 3) := by decide +kernel
theorem dX11_atom_60 : decode cX11_atom 60 = .ok (.istore_n 3, 1) := by decide +kernel
theorem dX11_atom_61 : decode cX11_atom 61 = .ok (.aload_n 0, 1) := by decide +kernel
theorem dX11_atom_62 : decode cX11_atom 62 = .ok (.aload_n 0, 1) := by decide +kernel
theorem dX11_atom_63 : decode cX11_atom 63 = .ok (.invokevirtual 251, 3) := by decide +kernel
theorem dX11_atom_66 : decode cX11_atom 66 = .ok (.iload_n 3, 1) := by decide +kernel
theorem dX11_atom_67 : decode cX11_atom 67 = .ok (.invokevirtual 290, 3) := by decide +kernel
theorem dX11_atom_70 : decode cX11_atom 70 = .ok (.goto 11, 3) := by decide +kernel
theorem dX11_atom_73 : decode cX11_atom 73 = .ok (.aload_n 0, 1) := by decide +kernel
theorem dX11_atom_74 : decode cX11_atom 74 = .ok (.iconst 0, 1) := by decide +kernel
theorem dX11_atom_75 : decode cX11_atom 75 = .ok (.iload_n 2, 1) := by decide +kernel
theorem dX11_atom_76 : decode cX11_atom 76 = .ok (.i2l, 1) := by decide +kernel
theorem dX11_atom_77 : decode cX11_atom 77 = .ok (.iconst (-1), 1) := by decide +kernel
theorem dX11_atom_78 : decode cX11_atom 78 = .ok (.invokevirtual 247, 3) := by decide +kernel
theorem dX11_atom_81 : decode cX11_atom 81 = .ok (.goto 110, 3) := by decide +kernel
theorem dX11_atom_84 : decode cX11_atom 84 = .ok (.aload_n 0, 1) := by decide +kernel
theorem dX11_atom_85 : decode cX11_atom 85 = .ok (.getfield 195, 3) := by decide +kernel
theorem dX11_atom_88 : decode cX11_atom 88 = .ok (.iconst 2, 1) := by decide +kernel
theorem dX11_atom_89 : decode cX11_atom 89 = .ok (.if_icmp .ne 76, 3) := by decide +kernel
theorem dX11_atom_92 : decode cX11_atom 92 = .ok (.aload_n 0, 1) := by decide +kernel
theorem dX11_atom_93 : decode cX11_atom 93 = .ok (.getfield 192, 3) := by decide +kernel
theorem dX11_atom_96 : decode cX11_atom 96 = .ok (.bipush 8, 2) := by decide +kernel
theorem dX11_atom_98 : decode cX11_atom 98 = .ok (.if_icmp .lt 67, 3) := by decide +kernel
theorem dX11_atom_101 : decode cX11_atom 101 = .ok (.aload_n 0, 1) := by decide +kernel
theorem dX11_atom_102 : decode cX11_atom 102 = .ok (.getfield 192, 3) := by decide +kernel
theorem dX11_atom_105 : decode cX11_atom 105 = .ok (.bipush 12, 2) := by decide +kernel
theorem dX11_atom_107 : decode cX11_atom 107 = .ok (.if_icmp .gt 58, 3) := by decide +kernel
theorem dX11_atom_110 : decode cX11_atom 110 = .ok (.aload_n 0, 1) := by decide +kernel
theorem dX11_atom_111 : decode cX11_atom 111 = .ok (.getfield 192, 3) := by decide +kernel
theorem dX11_atom_114 : decode cX11_atom 114 = .ok (.bipush 8, 2) := by decide +kernel
theorem dX11_atom_116 : decode cX11_atom 116 = .ok (.if_icmp .ne 13, 3) := by decide +kernel
theorem dX11_atom_119 : decode cX11_atom 119 = .ok (.aload_n 0, 1) := by decide +kernel
theorem dX11_atom_120 : decode cX11_atom 120 = .ok (.getfield 298, 3) := by decide +kernel
theorem dX11_atom_123 : decode cX11_atom 123 = .ok (.ifCond .ne 20, 3) := by decide +kernel
theorem dX11_atom_126 : decode cX11_atom 126 = .ok (.goto 10, 3) := by decide +kernel
theorem dX11_atom_129 : decode cX11_atom 129 = .ok (.aload_n 0, 1) := by decide +kernel
theorem dX11_atom_130 : decode cX11_atom 130 = .ok (.getfield 301, 3) := by decide +kernel
theorem dX11_atom_133 : decode cX11_atom 133 = .ok (.ifCond .ne 10, 3) := by decide +kernel
theorem dX11_atom_136 : decode cX11_atom 136 = .ok (.aload_n 0, 1) := by decide +kernel
theorem dX11_atom_137 : decode cX11_atom 137 = .ok (.bipush 6, 2) := by decide +kernel
theorem dX11_atom_139 : decode cX11_atom 139 = .ok (.iload_n 1, 1) := by decide +kernel
theorem dX11_atom_140 : decode cX11_atom 140 = .ok (.invokevirtual 237, 3) := by decide +kernel
theorem dX11_atom_143 : decode cX11_atom 143 = .ok (.aload_n 0, 1) := by decide +kernel
theorem dX11_atom_144 : decode cX11_atom 144 = .ok (.iconst 1, 1) := by decide +kernel
theorem dX11_atom_145 : decode cX11_atom 145 = .ok (.aload_n 0, 1) := by decide +kernel
theorem dX11_atom_146 : decode cX11_atom 146 = .ok (.getfield 192, 3) := by decide +kernel
theorem dX11_atom_149 : decode cX11_atom 149 = .ok (.iadd, 1) := by decide +kernel
theorem dX11_atom_150 : decode cX11_atom 150 = .ok (.bipush 8, 2) := by decide +kernel
theorem dX11_atom_152 : decode cX11_atom 152 = .ok (.isub, 1) := by decide +kernel
theorem dX11_atom_153 : decode cX11_atom 153 = .ok (.lconst 0, 1) := by decide +kernel
theorem dX11_atom_154 : decode cX11_atom 154 = .ok (.iconst (-1), 1) := by decide +kernel
theorem dX11_atom_155 : decode cX11_atom 155 = .ok (.invokevirtual 247, 3) := by decide +kernel
theorem dX11_atom_158 : decode cX11_atom 158 = .ok (.aload_n 0, 1) := by decide +kernel
theorem dX11_atom_159 : decode cX11_atom 159 = .ok (.invokevirtual 225, 3) := by decide +kernel
theorem dX11_atom_162 : decode cX11_atom 162 = .ok (.goto 29, 3) := by decide +kernel
theorem dX11_atom_165 : decode cX11_atom 165 = .ok (.aload_n 0, 1) := by decide +kernel
theorem dX11_atom_166 : decode cX11_atom 166 = .ok (.bipush 40, 2) := by decide +kernel
theorem dX11_atom_168 : decode cX11_atom 168 = .ok (.invokevirtual 244, 3) := by decide +kernel
theorem dX11_atom_171 : decode cX11_atom 171 = .ok (.ifCond .eq 16, 3) := by decide +kernel
theorem dX11_atom_174 : decode cX11_atom 174 = .ok (.aload_n 0, 1) := by decide +kernel
theorem dX11_atom_175 : decode cX11_atom 175 = .ok (.invokevirtual 271, 3) := by decide +kernel
theorem dX11_atom_178 : decode cX11_atom 178 = .ok (.aload_n 0, 1) := by decide +kernel
theorem dX11_atom_179 : decode cX11_atom 179 = .ok (.bipush 41, 2) := by decide +kernel
theorem dX11_atom_181 : decode cX11_atom 181 = .ok (.invokevirtual 274, 3) := by decide +kernel
theorem dX11_atom_184 : decode cX11_atom 184 = .ok (.goto 7, 3) := by decide +kernel
theorem dX11_atom_187 : decode cX11_atom 187 = .ok (.aload_n 0, 1) := by decide +kernel
theorem dX11_atom_188 : decode cX11_atom 188 = .ok (.invokevirtual 228, 3) := by decide +kernel
theorem dX11_atom_191 : decode cX11_atom 191 = .ok (.return_, 1) := by decide +kernel
theorem dX11_whole_0 : decode cX11_whole 0 = .ok (.aload_n 0, 1) := by decide +kernel
theorem dX11_whole_1 : decode cX11_whole 1 = .ok (.iconst 0, 1) := by decide +kernel
theorem dX11_whole_2 : decode cX11_whole 2 = .ok (.putfield 265, 3) := by decide +kernel
theorem dX11_whole_5 : decode cX11_whole 5 = .ok (.aload_n 0, 1) := by decide +kernel
theorem dX11_whole_6 : decode cX11_whole 6 = .ok (.invokevirtual 271, 3) := by decide +kernel
theorem dX11_whole_9 : decode cX11_whole 9 = .ok (.aload_n 0, 1) := by decide +kernel
theorem dX11_whole_10 : decode cX11_whole 10 = .ok (.bipush 11, 2) := by decide +kernel
theorem dX11_whole_12 : decode cX11_whole 12 = .ok (.lconst 0, 1) := by decide +kernel
theorem dX11_whole_13 : decode cX11_whole 13 = .ok (.iconst (-1), 1) := by decide +kernel
theorem dX11_whole_14 : decode cX11_whole 14 = .ok (.invokevirtual 247, 3) := by decide +kernel
theorem dX11_whole_17 : decode cX11_whole 17 = .ok (.return_, 1) := by decide +kernel
theorem dX11_mark_0 : decode cX11_mark 0 = .ok (.aload_n 0, 1) := by decide +kernel
theorem dX11_mark_1 : decode cX11_mark 1 = .ok (.getfield 38, 3) := by decide +kernel
theorem dX11_mark_4 : decode cX11_mark 4 = .ok (.aload_n 0, 1) := by decide +kernel
theorem dX11_mark_5 : decode cX11_mark 5 = .ok (.getfield 304, 3) := by decide +kernel
theorem dX11_mark_8 : decode cX11_mark 8 = .ok (.iload_n 1, 1) := by decide +kernel
theorem dX11_mark_9 : decode cX11_mark 9 = .ok (.iastore, 1) := by decide +kernel
theorem dX11_mark_10 : decode cX11_mark 10 = .ok (.aload_n 0, 1) := by decide +kernel
theorem dX11_mark_11 : decode cX11_mark 11 = .ok (.getfield 41, 3) := by decide +kernel
theorem dX11_mark_14 : decode cX11_mark 14 = .ok (.aload_n 0, 1) := by decide +kernel
theorem dX11_mark_15 : decode cX11_mark 15 = .ok (.getfield 304, 3) := by decide +kernel
theorem dX11_mark_18 : decode cX11_mark 18 = .ok (.iload_n 2, 1) := by decide +kernel
theorem dX11_mark_19 : decode cX11_mark 19 = .ok (.iastore, 1) := by decide +kernel
theorem dX11_mark_20 : decode cX11_mark 20 = .ok (.aload_n 0, 1) := by decide +kernel
theorem dX11_mark_21 : decode cX11_mark 21 = .ok (.getfield 44, 3) := by decide +kernel
theorem dX11_mark_24 : decode cX11_mark 24 = .ok (.aload_n 0, 1) := by decide +kernel
theorem dX11_mark_25 : decode cX11_mark 25 = .ok (.getfield 304, 3) := by decide +kernel
theorem dX11_mark_28 : decode cX11_mark 28 = .ok (.iload_n 3, 1) := by decide +kernel
theorem dX11_mark_29 : decode cX11_mark 29 = .ok (.iastore, 1) := by decide +kernel
theorem dX11_mark_30 : decode cX11_mark 30 = .ok (.aload_n 0, 1) := by decide +kernel
theorem dX11_mark_31 : decode cX11_mark 31 = .ok (.dup, 1) := by decide +kernel
theorem dX11_mark_32 : decode cX11_mark 32 = .ok (.getfield 304, 3) := by decide +kernel
theorem dX11_mark_35 : decode cX11_mark 35 = .ok (.iconst 1, 1) := by decide +kernel
theorem dX11_mark_36 : decode cX11_mark 36 = .ok (.iadd, 1) := by decide +kernel
theorem dX11_mark_37 : decode cX11_mark 37 = .ok (.putfield 304, 3) := by decide +kernel
theorem dX11_mark_40 : decode cX11_mark 40 = .ok (.return_, 1) := by decide +kernel
theorem dX11_isTaken_0 : decode cX11_isTaken 0 = .ok (.iconst 0, 1) := by decide +kernel
theorem dX11_isTaken_1 : decode cX11_isTaken 1 = .ok (.istore_n 3, 1) := by decide +kernel
theorem dX11_isTaken_2 : decode cX11_isTaken 2 = .ok (.iconst 0, 1) := by decide +kernel
theorem dX11_isTaken_3 : decode cX11_isTaken 3 = .ok (.istore 4, 2) := by decide +kernel
theorem dX11_isTaken_5 : decode cX11_isTaken 5 = .ok (.iload 4, 2) := by decide +kernel
theorem dX11_isTaken_7 : decode cX11_isTaken 7 = .ok (.aload_n 0, 1) := by decide +kernel
theorem dX11_isTaken_8 : decode cX11_isTaken 8 = .ok (.getfield 307, 3) := by decide +kernel
theorem dX11_isTaken_11 : decode cX11_isTaken 11 = .ok (.if_icmp .ge 38, 3) := by decide +kernel
theorem dX11_isTaken_14 : decode cX11_isTaken 14 = .ok (.iload 4, 2) := by decide +kernel
theorem dX11_isTaken_16 : decode cX11_isTaken 16 = .ok (.bipush 8, 2) := by decide +kernel
theorem dX11_isTaken_18 : decode cX11_isTaken 18 = .ok (.if_icmp .ge 31, 3) := by decide +kernel
theorem dX11_isTaken_21 : decode cX11_isTaken 21 = .ok (.iload_n 3, 1) := by decide +kernel
theorem dX11_isTaken_22 : decode cX11_isTaken 22 = .ok (.ifCond .ne 15, 3) := by decide +kernel
theorem dX11_isTaken_25 : decode cX11_isTaken 25 = .ok (.aload_n 0, 1) := by decide +kernel
theorem dX11_isTaken_26 : decode cX11_isTaken 26 = .ok (.getfield 25, 3) := by decide +kernel
theorem dX11_isTaken_29 : decode cX11_isTaken 29 = .ok (.iload 4, 2) := by decide +kernel
theorem dX11_isTaken_31 : decode cX11_isTaken 31 = .ok (.laload, 1) := by decide +kernel
theorem dX11_isTaken_32 : decode cX11_isTaken 32 = .ok (.lload_n 1, 1) := by decide +kernel
theorem dX11_isTaken_33 : decode cX11_isTaken 33 = .ok (.lcmp, 1) := by decide +kernel
theorem dX11_isTaken_34 : decode cX11_isTaken 34 = .ok (.ifCond .ne 7, 3) := by decide +kernel
theorem dX11_isTaken_37 : decode cX11_isTaken 37 = .ok (.iconst 1, 1) := by decide +kernel
theorem dX11_isTaken_38 : decode cX11_isTaken 38 = .ok (.goto 4, 3) := by decide +kernel
theorem dX11_isTaken_41 : decode cX11_isTaken 41 = .ok (.iconst 0, 1) := by decide +kernel
theorem dX11_isTaken_42 : decode cX11_isTaken 42 = .ok (.istore_n 3, 1) := by decide +kernel
theorem dX11_isTaken_43 : decode cX11_isTaken 43 = .ok (.iinc 4 1, 3) := by decide +kernel
theorem dX11_isTaken_46 : decode cX11_isTaken 46 = .ok (.goto (-41), 3) := by decide +kernel
theorem dX11_isTaken_49 : decode cX11_isTaken 49 = .ok (.iconst 0, 1) := by decide +kernel
theorem dX11_isTaken_50 : decode cX11_isTaken 50 = .ok (.istore 4, 2) := by decide +kernel
theorem dX11_isTaken_52 : decode cX11_isTaken 52 = .ok (.iload 4, 2) := by decide +kernel
theorem dX11_isTaken_54 : decode cX11_isTaken 54 = .ok (.aload_n 0, 1) := by decide +kernel
theorem dX11_isTaken_55 : decode cX11_isTaken 55 = .ok (.getfield 310, 3) := by decide +kernel
theorem dX11_isTaken_58 : decode cX11_isTaken 58 = .ok (.if_icmp .ge 38, 3) := by decide +kernel
theorem dX11_isTaken_61 : decode cX11_isTaken 61 = .ok (.iload 4, 2) := by decide +kernel
theorem dX11_isTaken_63 : decode cX11_isTaken 63 = .ok (.bipush 6, 2) := by decide +kernel
theorem dX11_isTaken_65 : decode cX11_isTaken 65 = .ok (.if_icmp .ge 31, 3) := by decide +kernel
theorem dX11_isTaken_68 : decode cX11_isTaken 68 = .ok (.iload_n 3, 1) := by decide +kernel
theorem dX11_isTaken_69 : decode cX11_isTaken 69 = .ok (.ifCond .ne 15, 3) := by decide +kernel
theorem dX11_isTaken_72 : decode cX11_isTaken 72 = .ok (.aload_n 0, 1) := by decide +kernel
theorem dX11_isTaken_73 : decode cX11_isTaken 73 = .ok (.getfield 32, 3) := by decide +kernel
theorem dX11_isTaken_76 : decode cX11_isTaken 76 = .ok (.iload 4, 2) := by decide +kernel
theorem dX11_isTaken_78 : decode cX11_isTaken 78 = .ok (.laload, 1) := by decide +kernel
theorem dX11_isTaken_79 : decode cX11_isTaken 79 = .ok (.lload_n 1, 1) := by decide +kernel
theorem dX11_isTaken_80 : decode cX11_isTaken 80 = .ok (.lcmp, 1) := by decide +kernel
theorem dX11_isTaken_81 : decode cX11_isTaken 81 = .ok (.ifCond .ne 7, 3) := by decide +kernel
theorem dX11_isTaken_84 : decode cX11_isTaken 84 = .ok (.iconst 1, 1) := by decide +kernel
theorem dX11_isTaken_85 : decode cX11_isTaken 85 = .ok (.goto 4, 3) := by decide +kernel
theorem dX11_isTaken_88 : decode cX11_isTaken 88 = .ok (.iconst 0, 1) := by decide +kernel
theorem dX11_isTaken_89 : decode cX11_isTaken 89 = .ok (.istore_n 3, 1) := by decide +kernel
theorem dX11_isTaken_90 : decode cX11_isTaken 90 = .ok (.iinc 4 1, 3) := by decide +kernel
theorem dX11_isTaken_93 : decode cX11_isTaken 93 = .ok (.goto (-41), 3) := by decide +kernel
theorem dX11_isTaken_96 : decode cX11_isTaken 96 = .ok (.iload_n 3, 1) := by decide +kernel
theorem dX11_isTaken_97 : decode cX11_isTaken 97 = .ok (.ireturn, 1) := by decide +kernel
theorem dX11_table_0 : decode cX11_table 0 = .ok (.aload_n 0, 1) := by decide +kernel
theorem dX11_table_1 : decode cX11_table 1 = .ok (.getfield 310, 3) := by decide +kernel
theorem dX11_table_4 : decode cX11_table 4 = .ok (.bipush 6, 2) := by decide +kernel
theorem dX11_table_6 : decode cX11_table 6 = .ok (.if_icmp .lt 12, 3) := by decide +kernel
theorem dX11_table_9 : decode cX11_table 9 = .ok (.aload_n 0, 1) := by decide +kernel
theorem dX11_table_10 : decode cX11_table 10 = .ok (.iconst 5, 1) := by decide +kernel
theorem dX11_table_11 : decode cX11_table 11 = .ok (.aload_n 0, 1) := by decide +kernel
theorem dX11_table_12 : decode cX11_table 12 = .ok (.getfield 189, 3) := by decide +kernel
theorem dX11_table_15 : decode cX11_table 15 = .ok (.invokevirtual 237, 3) := by decide +kernel
theorem dX11_table_18 : decode cX11_table 18 = .ok (.aload_n 0, 1) := by decide +kernel
theorem dX11_table_19 : decode cX11_table 19 = .ok (.invokevirtual 225, 3) := by decide +kernel
theorem dX11_table_22 : decode cX11_table 22 = .ok (.aload_n 0, 1) := by decide +kernel
theorem dX11_table_23 : decode cX11_table 23 = .ok (.getfield 189, 3) := by decide +kernel
theorem dX11_table_26 : decode cX11_table 26 = .ok (.istore_n 1, 1) := by decide +kernel
theorem dX11_table_27 : decode cX11_table 27 = .ok (.aload_n 0, 1) := by decide +kernel
theorem dX11_table_28 : decode cX11_table 28 = .ok (.invokevirtual 251, 3) := by decide +kernel
theorem dX11_table_31 : decode cX11_table 31 = .ok (.lstore_n 2, 1) := by decide +kernel
theorem dX11_table_32 : decode cX11_table 32 = .ok (.aload_n 0, 1) := by decide +kernel
theorem dX11_table_33 : decode cX11_table 33 = .ok (.getfield 215, 3) := by decide +kernel
theorem dX11_table_36 : decode cX11_table 36 = .ok (.ifCond .eq 4, 3) := by decide +kernel
theorem dX11_table_39 : decode cX11_table 39 = .ok (.return_, 1) := by decide +kernel
theorem dX11_table_40 : decode cX11_table 40 = .ok (.aload_n 0, 1) := by decide +kernel
theorem dX11_table_41 : decode cX11_table 41 = .ok (.lload_n 2, 1) := by decide +kernel
theorem dX11_table_42 : decode cX11_table 42 = .ok (.invokevirtual 313, 3) := by decide +kernel
theorem dX11_table_45 : decode cX11_table 45 = .ok (.ifCond .eq 9, 3) := by decide +kernel
theorem dX11_table_48 : decode cX11_table 48 = .ok (.aload_n 0, 1) := by decide +kernel
theorem dX11_table_49 : decode cX11_table 49 = .ok (.iconst 2, 1) := by decide +kernel
theorem dX11_table_50 : decode cX11_table 50 = .ok (.iload_n 1, 1) := by decide +kernel
theorem dX11_table_51 : decode cX11_table 51 = .ok (.invokevirtual 237, 3) := by decide +kernel
theorem dX11_table_54 : decode cX11_table 54 = .ok (.aload_n 0, 1) := by decide +kernel
theorem dX11_table_55 : decode cX11_table 55 = .ok (.getfield 189, 3) := by decide +kernel
theorem dX11_table_58 : decode cX11_table 58 = .ok (.istore_n 1, 1) := by decide +kernel
theorem dX11_table_59 : decode cX11_table 59 = .ok (.aload_n 0, 1) := by decide +kernel
theorem dX11_table_60 : decode cX11_table 60 = .ok (.invokevirtual 294, 3) := by decide +kernel
theorem dX11_table_63 : decode cX11_table 63 = .ok (.istore 4, 2) := by decide +kernel
theorem dX11_table_65 : decode cX11_table 65 = .ok (.aload_n 0, 1) := by decide +kernel
theorem dX11_table_66 : decode cX11_table 66 = .ok (.getfield 215, 3) := by decide +kernel
theorem dX11_table_69 : decode cX11_table 69 = .ok (.ifCond .eq 4, 3) := by decide +kernel
theorem dX11_table_72 : decode cX11_table 72 = .ok (.return_, 1) := by decide +kernel
theorem dX11_table_73 : decode cX11_table 73 = .ok (.iload 4, 2) := by decide +kernel
theorem dX11_table_75 : decode cX11_table 75 = .ok (.iconst 1, 1) := by decide +kernel
theorem dX11_table_76 : decode cX11_table 76 = .ok (.if_icmp .lt 10, 3) := by decide +kernel
theorem dX11_table_79 : decode cX11_table 79 = .ok (.iload 4, 2) := by decide +kernel
theorem dX11_table_81 : decode cX11_table 81 = .ok (.bipush 12, 2) := by decide +kernel
theorem dX11_table_83 : decode cX11_table 83 = .ok (.if_icmp .le 9, 3) := by decide +kernel
theorem dX11_table_86 : decode cX11_table 86 = .ok (.aload_n 0, 1) := by decide +kernel
theorem dX11_table_87 : decode cX11_table 87 = .ok (.iconst 4, 1) := by decide +kernel
theorem dX11_table_88 : decode cX11_table 88 = .ok (.iload_n 1, 1) := by decide +kernel
theorem dX11_table_89 : decode cX11_table 89 = .ok (.invokevirtual 237, 3) := by decide +kernel
theorem dX11_table_92 : decode cX11_table 92 = .ok (.aload_n 0, 1) := by decide +kernel
theorem dX11_table_93 : decode cX11_table 93 = .ok (.bipush 61, 2) := by decide +kernel
theorem dX11_table_95 : decode cX11_table 95 = .ok (.invokevirtual 274, 3) := by decide +kernel
theorem dX11_table_98 : decode cX11_table 98 = .ok (.aload_n 0, 1) := by decide +kernel
theorem dX11_table_99 : decode cX11_table 99 = .ok (.getfield 231, 3) := by decide +kernel
theorem dX11_table_102 : decode cX11_table 102 = .ok (.istore 5, 2) := by decide +kernel
theorem dX11_table_104 : decode cX11_table 104 = .ok (.aload_n 0, 1) := by decide +kernel
theorem dX11_table_105 : decode cX11_table 105 = .ok (.iconst 1, 1) := by decide +kernel
theorem dX11_table_106 : decode cX11_table 106 = .ok (.putfield 298, 3) := by decide +kernel
theorem dX11_table_109 : decode cX11_table 109 = .ok (.aload_n 0, 1) := by decide +kernel
theorem dX11_table_110 : decode cX11_table 110 = .ok (.invokevirtual 317, 3) := by decide +kernel
theorem dX11_table_113 : decode cX11_table 113 = .ok (.aload_n 0, 1) := by decide +kernel
theorem dX11_table_114 : decode cX11_table 114 = .ok (.iconst 0, 1) := by decide +kernel
theorem dX11_table_115 : decode cX11_table 115 = .ok (.putfield 298, 3) := by decide +kernel
theorem dX11_table_118 : decode cX11_table 118 = .ok (.aload_n 0, 1) := by decide +kernel
theorem dX11_table_119 : decode cX11_table 119 = .ok (.bipush 59, 2) := by decide +kernel
theorem dX11_table_121 : decode cX11_table 121 = .ok (.invokevirtual 274, 3) := by decide +kernel
theorem dX11_table_124 : decode cX11_table 124 = .ok (.aload_n 0, 1) := by decide +kernel
theorem dX11_table_125 : decode cX11_table 125 = .ok (.getfield 310, 3) := by decide +kernel
theorem dX11_table_128 : decode cX11_table 128 = .ok (.bipush 6, 2) := by decide +kernel
theorem dX11_table_130 : decode cX11_table 130 = .ok (.if_icmp .ge 24, 3) := by decide +kernel
theorem dX11_table_133 : decode cX11_table 133 = .ok (.aload_n 0, 1) := by decide +kernel
theorem dX11_table_134 : decode cX11_table 134 = .ok (.getfield 32, 3) := by decide +kernel
theorem dX11_table_137 : decode cX11_table 137 = .ok (.aload_n 0, 1) := by decide +kernel
theorem dX11_table_138 : decode cX11_table 138 = .ok (.getfield 310, 3) := by decide +kernel
theorem dX11_table_141 : decode cX11_table 141 = .ok (.lload_n 2, 1) := by decide +kernel
theorem dX11_table_142 : decode cX11_table 142 = .ok (.lastore, 1) := by decide +kernel
theorem dX11_table_143 : decode cX11_table 143 = .ok (.aload_n 0, 1) := by decide +kernel
theorem dX11_table_144 : decode cX11_table 144 = .ok (.getfield 35, 3) := by decide +kernel
theorem dX11_table_147 : decode cX11_table 147 = .ok (.aload_n 0, 1) := by decide +kernel
theorem dX11_table_148 : decode cX11_table 148 = .ok (.getfield 310, 3) := by decide +kernel
theorem dX11_table_151 : decode cX11_table 151 = .ok (.iload 4, 2) := by decide +kernel
theorem dX11_table_153 : decode cX11_table 153 = .ok (.iastore, 1) := by decide +kernel
theorem dX11_table_154 : decode cX11_table 154 = .ok (.aload_n 0, 1) := by decide +kernel
theorem dX11_table_155 : decode cX11_table 155 = .ok (.iconst 0, 1) := by decide +kernel
theorem dX11_table_156 : decode cX11_table 156 = .ok (.iload 5, 2) := by decide +kernel
theorem dX11_table_158 : decode cX11_table 158 = .ok (.aload_n 0, 1) := by decide +kernel
theorem dX11_table_159 : decode cX11_table 159 = .ok (.getfield 310, 3) := by decide +kernel
theorem dX11_table_162 : decode cX11_table 162 = .ok (.invokevirtual 320, 3) := by decide +kernel
theorem dX11_table_165 : decode cX11_table 165 = .ok (.aload_n 0, 1) := by decide +kernel
theorem dX11_table_166 : decode cX11_table 166 = .ok (.dup, 1) := by decide +kernel
theorem dX11_table_167 : decode cX11_table 167 = .ok (.getfield 310, 3) := by decide +kernel
theorem dX11_table_170 : decode cX11_table 170 = .ok (.iconst 1, 1) := by decide +kernel
theorem dX11_table_171 : decode cX11_table 171 = .ok (.iadd, 1) := by decide +kernel
theorem dX11_table_172 : decode cX11_table 172 = .ok (.putfield 310, 3) := by decide +kernel
theorem dX11_table_175 : decode cX11_table 175 = .ok (.return_, 1) := by decide +kernel
theorem dX11_check_0 : decode cX11_check 0 = .ok (.aload_n 0, 1) := by decide +kernel
theorem dX11_check_1 : decode cX11_check 1 = .ok (.invokevirtual 225, 3) := by decide +kernel
theorem dX11_check_4 : decode cX11_check 4 = .ok (.aload_n 0, 1) := by decide +kernel
theorem dX11_check_5 : decode cX11_check 5 = .ok (.getfield 231, 3) := by decide +kernel
theorem dX11_check_8 : decode cX11_check 8 = .ok (.istore_n 1, 1) := by decide +kernel
theorem dX11_check_9 : decode cX11_check 9 = .ok (.aload_n 0, 1) := by decide +kernel
theorem dX11_check_10 : decode cX11_check 10 = .ok (.invokevirtual 317, 3) := by decide +kernel
theorem dX11_check_13 : decode cX11_check 13 = .ok (.aload_n 0, 1) := by decide +kernel
theorem dX11_check_14 : decode cX11_check 14 = .ok (.bipush 58, 2) := by decide +kernel
theorem dX11_check_16 : decode cX11_check 16 = .ok (.invokevirtual 274, 3) := by decide +kernel
theorem dX11_check_19 : decode cX11_check 19 = .ok (.aload_n 0, 1) := by decide +kernel
theorem dX11_check_20 : decode cX11_check 20 = .ok (.getfield 189, 3) := by decide +kernel
theorem dX11_check_23 : decode cX11_check 23 = .ok (.istore_n 2, 1) := by decide +kernel
theorem dX11_check_24 : decode cX11_check 24 = .ok (.aload_n 0, 1) := by decide +kernel
theorem dX11_check_25 : decode cX11_check 25 = .ok (.invokevirtual 294, 3) := by decide +kernel
theorem dX11_check_28 : decode cX11_check 28 = .ok (.istore_n 3, 1) := by decide +kernel
theorem dX11_check_29 : decode cX11_check 29 = .ok (.aload_n 0, 1) := by decide +kernel
theorem dX11_check_30 : decode cX11_check 30 = .ok (.getfield 215, 3) := by decide +kernel
theorem dX11_check_33 : decode cX11_check 33 = .ok (.ifCond .eq 4, 3) := by decide +kernel
theorem dX11_check_36 : decode cX11_check 36 = .ok (.return_, 1) := by decide +kernel
theorem dX11_check_37 : decode cX11_check 37 = .ok (.iload_n 3, 1) := by decide +kernel
theorem dX11_check_38 : decode cX11_check 38 = .ok (.iconst 1, 1) := by decide +kernel
theorem dX11_check_39 : decode cX11_check 39 = .ok (.if_icmp .lt 10, 3) := by decide +kernel
theorem dX11_check_42 : decode cX11_check 42 = .ok (.iload_n 3, 1) := by decide +kernel
theorem dX11_check_43 : decode cX11_check 43 = .ok (.sipush 800, 3) := by decide +kernel
theorem dX11_check_46 : decode cX11_check 46 = .ok (.if_icmp .le 9, 3) := by decide +kernel
theorem dX11_check_49 : decode cX11_check 49 = .ok (.aload_n 0, 1) := by decide +kernel
theorem dX11_check_50 : decode cX11_check 50 = .ok (.iconst 4, 1) := by decide +kernel
theorem dX11_check_51 : decode cX11_check 51 = .ok (.iload_n 2, 1) := by decide +kernel
theorem dX11_check_52 : decode cX11_check 52 = .ok (.invokevirtual 237, 3) := by decide +kernel
theorem dX11_check_55 : decode cX11_check 55 = .ok (.aload_n 0, 1) := by decide +kernel
theorem dX11_check_56 : decode cX11_check 56 = .ok (.bipush 59, 2) := by decide +kernel
theorem dX11_check_58 : decode cX11_check 58 = .ok (.invokevirtual 274, 3) := by decide +kernel
theorem dX11_check_61 : decode cX11_check 61 = .ok (.aload_n 0, 1) := by decide +kernel
theorem dX11_check_62 : decode cX11_check 62 = .ok (.iconst 1, 1) := by decide +kernel
theorem dX11_check_63 : decode cX11_check 63 = .ok (.iload_n 1, 1) := by decide +kernel
theorem dX11_check_64 : decode cX11_check 64 = .ok (.iload_n 3, 1) := by decide +kernel
theorem dX11_check_65 : decode cX11_check 65 = .ok (.invokevirtual 320, 3) := by decide +kernel
theorem dX11_check_68 : decode cX11_check 68 = .ok (.return_, 1) := by decide +kernel
theorem dX11_block_0 : decode cX11_block 0 = .ok (.aload_n 0, 1) := by decide +kernel
theorem dX11_block_1 : decode cX11_block 1 = .ok (.bipush 123, 2) := by decide +kernel
theorem dX11_block_3 : decode cX11_block 3 = .ok (.invokevirtual 274, 3) := by decide +kernel
theorem dX11_block_6 : decode cX11_block 6 = .ok (.aload_n 0, 1) := by decide +kernel
theorem dX11_block_7 : decode cX11_block 7 = .ok (.getfield 215, 3) := by decide +kernel
theorem dX11_block_10 : decode cX11_block 10 = .ok (.ifCond .ne 51, 3) := by decide +kernel
theorem dX11_block_13 : decode cX11_block 13 = .ok (.aload_n 0, 1) := by decide +kernel
theorem dX11_block_14 : decode cX11_block 14 = .ok (.bipush 125, 2) := by decide +kernel
theorem dX11_block_16 : decode cX11_block 16 = .ok (.invokevirtual 222, 3) := by decide +kernel
theorem dX11_block_19 : decode cX11_block 19 = .ok (.ifCond .ne 42, 3) := by decide +kernel
theorem dX11_block_22 : decode cX11_block 22 = .ok (.aload_n 0, 1) := by decide +kernel
theorem dX11_block_23 : decode cX11_block 23 = .ok (.iconst 4, 1) := by decide +kernel
theorem dX11_block_24 : decode cX11_block 24 = .ok (.invokevirtual 324, 3) := by decide +kernel
theorem dX11_block_27 : decode cX11_block 27 = .ok (.ifCond .ne 20, 3) := by decide +kernel
theorem dX11_block_30 : decode cX11_block 30 = .ok (.aload_n 0, 1) := by decide +kernel
theorem dX11_block_31 : decode cX11_block 31 = .ok (.iconst 5, 1) := by decide +kernel
theorem dX11_block_32 : decode cX11_block 32 = .ok (.invokevirtual 324, 3) := by decide +kernel
theorem dX11_block_35 : decode cX11_block 35 = .ok (.ifCond .ne 12, 3) := by decide +kernel
theorem dX11_block_38 : decode cX11_block 38 = .ok (.aload_n 0, 1) := by decide +kernel
theorem dX11_block_39 : decode cX11_block 39 = .ok (.bipush 6, 2) := by decide +kernel
theorem dX11_block_41 : decode cX11_block 41 = .ok (.invokevirtual 324, 3) := by decide +kernel
theorem dX11_block_44 : decode cX11_block 44 = .ok (.ifCond .eq 10, 3) := by decide +kernel
theorem dX11_block_47 : decode cX11_block 47 = .ok (.aload_n 0, 1) := by decide +kernel
theorem dX11_block_48 : decode cX11_block 48 = .ok (.invokevirtual 327, 3) := by decide +kernel
theorem dX11_block_51 : decode cX11_block 51 = .ok (.goto (-45), 3) := by decide +kernel
theorem dX11_block_54 : decode cX11_block 54 = .ok (.aload_n 0, 1) := by decide +kernel
theorem dX11_block_55 : decode cX11_block 55 = .ok (.invokevirtual 228, 3) := by decide +kernel
theorem dX11_block_58 : decode cX11_block 58 = .ok (.goto (-52), 3) := by decide +kernel
theorem dX11_block_61 : decode cX11_block 61 = .ok (.aload_n 0, 1) := by decide +kernel
theorem dX11_block_62 : decode cX11_block 62 = .ok (.bipush 125, 2) := by decide +kernel
theorem dX11_block_64 : decode cX11_block 64 = .ok (.invokevirtual 274, 3) := by decide +kernel
theorem dX11_block_67 : decode cX11_block 67 = .ok (.return_, 1) := by decide +kernel
theorem dX11_step_0 : decode cX11_step 0 = .ok (.aload_n 0, 1) := by decide +kernel
theorem dX11_step_1 : decode cX11_step 1 = .ok (.bipush 6, 2) := by decide +kernel
theorem dX11_step_3 : decode cX11_step 3 = .ok (.invokevirtual 324, 3) := by decide +kernel
theorem dX11_step_6 : decode cX11_step 6 = .ok (.ifCond .eq 16, 3) := by decide +kernel
theorem dX11_step_9 : decode cX11_step 9 = .ok (.aload_n 0, 1) := by decide +kernel
theorem dX11_step_10 : decode cX11_step 10 = .ok (.getfield 330, 3) := by decide +kernel
theorem dX11_step_13 : decode cX11_step 13 = .ok (.iconst 3, 1) := by decide +kernel
theorem dX11_step_14 : decode cX11_step 14 = .ok (.if_icmp .ne 8, 3) := by decide +kernel
theorem dX11_step_17 : decode cX11_step 17 = .ok (.aload_n 0, 1) := by decide +kernel
theorem dX11_step_18 : decode cX11_step 18 = .ok (.invokevirtual 228, 3) := by decide +kernel
theorem dX11_step_21 : decode cX11_step 21 = .ok (.return_, 1) := by decide +kernel
theorem dX11_step_22 : decode cX11_step 22 = .ok (.aload_n 0, 1) := by decide +kernel
theorem dX11_step_23 : decode cX11_step 23 = .ok (.getfield 333, 3) := by decide +kernel
theorem dX11_step_26 : decode cX11_step 26 = .ok (.bipush 40, 2) := by decide +kernel
theorem dX11_step_28 : decode cX11_step 28 = .ok (.if_icmp .lt 12, 3) := by decide +kernel
theorem dX11_step_31 : decode cX11_step 31 = .ok (.aload_n 0, 1) := by decide +kernel
theorem dX11_step_32 : decode cX11_step 32 = .ok (.iconst 5, 1) := by decide +kernel
theorem dX11_step_33 : decode cX11_step 33 = .ok (.aload_n 0, 1) := by decide +kernel
theorem dX11_step_34 : decode cX11_step 34 = .ok (.getfield 189, 3) := by decide +kernel
theorem dX11_step_37 : decode cX11_step 37 = .ok (.invokevirtual 237, 3) := by decide +kernel
theorem dX11_step_40 : decode cX11_step 40 = .ok (.aload_n 0, 1) := by decide +kernel
theorem dX11_step_41 : decode cX11_step 41 = .ok (.dup, 1) := by decide +kernel
theorem dX11_step_42 : decode cX11_step 42 = .ok (.getfield 333, 3) := by decide +kernel
theorem dX11_step_45 : decode cX11_step 45 = .ok (.iconst 1, 1) := by decide +kernel
theorem dX11_step_46 : decode cX11_step 46 = .ok (.iadd, 1) := by decide +kernel
theorem dX11_step_47 : decode cX11_step 47 = .ok (.putfield 333, 3) := by decide +kernel
theorem dX11_step_50 : decode cX11_step 50 = .ok (.aload_n 0, 1) := by decide +kernel
theorem dX11_step_51 : decode cX11_step 51 = .ok (.iconst 4, 1) := by decide +kernel
theorem dX11_step_52 : decode cX11_step 52 = .ok (.invokevirtual 324, 3) := by decide +kernel
theorem dX11_step_55 : decode cX11_step 55 = .ok (.ifCond .eq 10, 3) := by decide +kernel
theorem dX11_step_58 : decode cX11_step 58 = .ok (.aload_n 0, 1) := by decide +kernel
theorem dX11_step_59 : decode cX11_step 59 = .ok (.invokevirtual 336, 3) := by decide +kernel
theorem dX11_step_62 : decode cX11_step 62 = .ok (.goto 118, 3) := by decide +kernel
theorem dX11_step_65 : decode cX11_step 65 = .ok (.aload_n 0, 1) := by decide +kernel
theorem dX11_step_66 : decode cX11_step 66 = .ok (.iconst 5, 1) := by decide +kernel
theorem dX11_step_67 : decode cX11_step 67 = .ok (.invokevirtual 324, 3) := by decide +kernel
theorem dX11_step_70 : decode cX11_step 70 = .ok (.ifCond .eq 10, 3) := by decide +kernel
theorem dX11_step_73 : decode cX11_step 73 = .ok (.aload_n 0, 1) := by decide +kernel
theorem dX11_step_74 : decode cX11_step 74 = .ok (.invokevirtual 339, 3) := by decide +kernel
theorem dX11_step_77 : decode cX11_step 77 = .ok (.goto 103, 3) := by decide +kernel
theorem dX11_step_80 : decode cX11_step 80 = .ok (.aload_n 0, 1) := by decide +kernel
theorem dX11_step_81 : decode cX11_step 81 = .ok (.dup, 1) := by decide +kernel
theorem dX11_step_82 : decode cX11_step 82 = .ok (.getfield 330, 3) := by decide +kernel
theorem dX11_step_85 : decode cX11_step 85 = .ok (.iconst 1, 1) := by decide +kernel
theorem dX11_step_86 : decode cX11_step 86 = .ok (.iadd, 1) := by decide +kernel
theorem dX11_step_87 : decode cX11_step 87 = .ok (.putfield 330, 3) := by decide +kernel
theorem dX11_step_90 : decode cX11_step 90 = .ok (.aload_n 0, 1) := by decide +kernel
theorem dX11_step_91 : decode cX11_step 91 = .ok (.invokevirtual 225, 3) := by decide +kernel
theorem dX11_step_94 : decode cX11_step 94 = .ok (.aload_n 0, 1) := by decide +kernel
theorem dX11_step_95 : decode cX11_step 95 = .ok (.getfield 304, 3) := by decide +kernel
theorem dX11_step_98 : decode cX11_step 98 = .ok (.istore_n 1, 1) := by decide +kernel
theorem dX11_step_99 : decode cX11_step 99 = .ok (.aload_n 0, 1) := by decide +kernel
theorem dX11_step_100 : decode cX11_step 100 = .ok (.iconst 2, 1) := by decide +kernel
theorem dX11_step_101 : decode cX11_step 101 = .ok (.iconst 0, 1) := by decide +kernel
theorem dX11_step_102 : decode cX11_step 102 = .ok (.iconst 0, 1) := by decide +kernel
theorem dX11_step_103 : decode cX11_step 103 = .ok (.invokevirtual 320, 3) := by decide +kernel
theorem dX11_step_106 : decode cX11_step 106 = .ok (.aload_n 0, 1) := by decide +kernel
theorem dX11_step_107 : decode cX11_step 107 = .ok (.invokevirtual 342, 3) := by decide +kernel
theorem dX11_step_110 : decode cX11_step 110 = .ok (.aload_n 0, 1) := by decide +kernel
theorem dX11_step_111 : decode cX11_step 111 = .ok (.bipush 7, 2) := by decide +kernel
theorem dX11_step_113 : decode cX11_step 113 = .ok (.invokevirtual 324, 3) := by decide +kernel
theorem dX11_step_116 : decode cX11_step 116 = .ok (.ifCond .ne 8, 3) := by decide +kernel
theorem dX11_step_119 : decode cX11_step 119 = .ok (.aload_n 0, 1) := by decide +kernel
theorem dX11_step_120 : decode cX11_step 120 = .ok (.invokevirtual 228, 3) := by decide +kernel
theorem dX11_step_123 : decode cX11_step 123 = .ok (.return_, 1) := by decide +kernel
theorem dX11_step_124 : decode cX11_step 124 = .ok (.aload_n 0, 1) := by decide +kernel
theorem dX11_step_125 : decode cX11_step 125 = .ok (.invokevirtual 225, 3) := by decide +kernel
theorem dX11_step_128 : decode cX11_step 128 = .ok (.aload_n 0, 1) := by decide +kernel
theorem dX11_step_129 : decode cX11_step 129 = .ok (.getfield 304, 3) := by decide +kernel
theorem dX11_step_132 : decode cX11_step 132 = .ok (.istore_n 2, 1) := by decide +kernel
theorem dX11_step_133 : decode cX11_step 133 = .ok (.aload_n 0, 1) := by decide +kernel
theorem dX11_step_134 : decode cX11_step 134 = .ok (.iconst 3, 1) := by decide +kernel
theorem dX11_step_135 : decode cX11_step 135 = .ok (.iconst 0, 1) := by decide +kernel
theorem dX11_step_136 : decode cX11_step 136 = .ok (.iconst 0, 1) := by decide +kernel
theorem dX11_step_137 : decode cX11_step 137 = .ok (.invokevirtual 320, 3) := by decide +kernel
theorem dX11_step_140 : decode cX11_step 140 = .ok (.aload_n 0, 1) := by decide +kernel
theorem dX11_step_141 : decode cX11_step 141 = .ok (.invokevirtual 342, 3) := by decide +kernel
theorem dX11_step_144 : decode cX11_step 144 = .ok (.aload_n 0, 1) := by decide +kernel
theorem dX11_step_145 : decode cX11_step 145 = .ok (.dup, 1) := by decide +kernel
theorem dX11_step_146 : decode cX11_step 146 = .ok (.getfield 330, 3) := by decide +kernel
theorem dX11_step_149 : decode cX11_step 149 = .ok (.iconst 1, 1) := by decide +kernel
theorem dX11_step_150 : decode cX11_step 150 = .ok (.isub, 1) := by decide +kernel
theorem dX11_step_151 : decode cX11_step 151 = .ok (.putfield 330, 3) := by decide +kernel
theorem dX11_step_154 : decode cX11_step 154 = .ok (.aload_n 0, 1) := by decide +kernel
theorem dX11_step_155 : decode cX11_step 155 = .ok (.getfield 44, 3) := by decide +kernel
theorem dX11_step_158 : decode cX11_step 158 = .ok (.iload_n 1, 1) := by decide +kernel
theorem dX11_step_159 : decode cX11_step 159 = .ok (.iload_n 2, 1) := by decide +kernel
theorem dX11_step_160 : decode cX11_step 160 = .ok (.iconst 1, 1) := by decide +kernel
theorem dX11_step_161 : decode cX11_step 161 = .ok (.iadd, 1) := by decide +kernel
theorem dX11_step_162 : decode cX11_step 162 = .ok (.iastore, 1) := by decide +kernel
theorem dX11_step_163 : decode cX11_step 163 = .ok (.aload_n 0, 1) := by decide +kernel
theorem dX11_step_164 : decode cX11_step 164 = .ok (.getfield 44, 3) := by decide +kernel
theorem dX11_step_167 : decode cX11_step 167 = .ok (.iload_n 2, 1) := by decide +kernel
theorem dX11_step_168 : decode cX11_step 168 = .ok (.aload_n 0, 1) := by decide +kernel
theorem dX11_step_169 : decode cX11_step 169 = .ok (.getfield 304, 3) := by decide +kernel
theorem dX11_step_172 : decode cX11_step 172 = .ok (.iastore, 1) := by decide +kernel
theorem dX11_step_173 : decode cX11_step 173 = .ok (.aload_n 0, 1) := by decide +kernel
theorem dX11_step_174 : decode cX11_step 174 = .ok (.iconst 4, 1) := by decide +kernel
theorem dX11_step_175 : decode cX11_step 175 = .ok (.iconst 0, 1) := by decide +kernel
theorem dX11_step_176 : decode cX11_step 176 = .ok (.iconst 0, 1) := by decide +kernel
theorem dX11_step_177 : decode cX11_step 177 = .ok (.invokevirtual 320, 3) := by decide +kernel
theorem dX11_step_180 : decode cX11_step 180 = .ok (.return_, 1) := by decide +kernel
theorem dX11_aConst_0 : decode cX11_aConst 0 = .ok (.aload_n 0, 1) := by decide +kernel
theorem dX11_aConst_1 : decode cX11_aConst 1 = .ok (.getfield 307, 3) := by decide +kernel
theorem dX11_aConst_4 : decode cX11_aConst 4 = .ok (.bipush 8, 2) := by decide +kernel
theorem dX11_aConst_6 : decode cX11_aConst 6 = .ok (.if_icmp .lt 12, 3) := by decide +kernel
theorem dX11_aConst_9 : decode cX11_aConst 9 = .ok (.aload_n 0, 1) := by decide +kernel
theorem dX11_aConst_10 : decode cX11_aConst 10 = .ok (.iconst 5, 1) := by decide +kernel
theorem dX11_aConst_11 : decode cX11_aConst 11 = .ok (.aload_n 0, 1) := by decide +kernel
theorem dX11_aConst_12 : decode cX11_aConst 12 = .ok (.getfield 189, 3) := by decide +kernel
theorem dX11_aConst_15 : decode cX11_aConst 15 = .ok (.invokevirtual 237, 3) := by decide +kernel
theorem dX11_aConst_18 : decode cX11_aConst 18 = .ok (.aload_n 0, 1) := by decide +kernel
theorem dX11_aConst_19 : decode cX11_aConst 19 = .ok (.invokevirtual 225, 3) := by decide +kernel
theorem dX11_aConst_22 : decode cX11_aConst 22 = .ok (.aload_n 0, 1) := by decide +kernel
theorem dX11_aConst_23 : decode cX11_aConst 23 = .ok (.getfield 189, 3) := by decide +kernel
theorem dX11_aConst_26 : decode cX11_aConst 26 = .ok (.istore_n 1, 1) := by decide +kernel
theorem dX11_aConst_27 : decode cX11_aConst 27 = .ok (.aload_n 0, 1) := by decide +kernel
theorem dX11_aConst_28 : decode cX11_aConst 28 = .ok (.invokevirtual 251, 3) := by decide +kernel
theorem dX11_aConst_31 : decode cX11_aConst 31 = .ok (.lstore_n 2, 1) := by decide +kernel
theorem dX11_aConst_32 : decode cX11_aConst 32 = .ok (.aload_n 0, 1) := by decide +kernel
theorem dX11_aConst_33 : decode cX11_aConst 33 = .ok (.getfield 215, 3) := by decide +kernel
theorem dX11_aConst_36 : decode cX11_aConst 36 = .ok (.ifCond .eq 4, 3) := by decide +kernel
theorem dX11_aConst_39 : decode cX11_aConst 39 = .ok (.return_, 1) := by decide +kernel
theorem dX11_aConst_40 : decode cX11_aConst 40 = .ok (.aload_n 0, 1) := by decide +kernel
theorem dX11_aConst_41 : decode cX11_aConst 41 = .ok (.lload_n 2, 1) := by decide +kernel
theorem dX11_aConst_42 : decode cX11_aConst 42 = .ok (.invokevirtual 313, 3) := by decide +kernel
theorem dX11_aConst_45 : decode cX11_aConst 45 = .ok (.ifCond .eq 9, 3) := by decide +kernel
theorem dX11_aConst_48 : decode cX11_aConst 48 = .ok (.aload_n 0, 1) := by decide +kernel
theorem dX11_aConst_49 : decode cX11_aConst 49 = .ok (.iconst 2, 1) := by decide +kernel
theorem dX11_aConst_50 : decode cX11_aConst 50 = .ok (.iload_n 1, 1) := by decide +kernel
theorem dX11_aConst_51 : decode cX11_aConst 51 = .ok (.invokevirtual 237, 3) := by decide +kernel
theorem dX11_aConst_54 : decode cX11_aConst 54 = .ok (.aload_n 0, 1) := by decide +kernel
theorem dX11_aConst_55 : decode cX11_aConst 55 = .ok (.bipush 61, 2) := by decide +kernel
theorem dX11_aConst_57 : decode cX11_aConst 57 = .ok (.invokevirtual 274, 3) := by decide +kernel
theorem dX11_aConst_60 : decode cX11_aConst 60 = .ok (.aload_n 0, 1) := by decide +kernel
theorem dX11_aConst_61 : decode cX11_aConst 61 = .ok (.getfield 231, 3) := by decide +kernel
theorem dX11_aConst_64 : decode cX11_aConst 64 = .ok (.istore 4, 2) := by decide +kernel
theorem dX11_aConst_66 : decode cX11_aConst 66 = .ok (.aload_n 0, 1) := by decide +kernel
theorem dX11_aConst_67 : decode cX11_aConst 67 = .ok (.invokevirtual 345, 3) := by decide +kernel
theorem dX11_aConst_70 : decode cX11_aConst 70 = .ok (.aload_n 0, 1) := by decide +kernel
theorem dX11_aConst_71 : decode cX11_aConst 71 = .ok (.bipush 59, 2) := by decide +kernel
theorem dX11_aConst_73 : decode cX11_aConst 73 = .ok (.invokevirtual 274, 3) := by decide +kernel
theorem dX11_aConst_76 : decode cX11_aConst 76 = .ok (.aload_n 0, 1) := by decide +kernel
theorem dX11_aConst_77 : decode cX11_aConst 77 = .ok (.getfield 307, 3) := by decide +kernel
theorem dX11_aConst_80 : decode cX11_aConst 80 = .ok (.bipush 8, 2) := by decide +kernel
theorem dX11_aConst_82 : decode cX11_aConst 82 = .ok (.if_icmp .ge 24, 3) := by decide +kernel
theorem dX11_aConst_85 : decode cX11_aConst 85 = .ok (.aload_n 0, 1) := by decide +kernel
theorem dX11_aConst_86 : decode cX11_aConst 86 = .ok (.getfield 25, 3) := by decide +kernel
theorem dX11_aConst_89 : decode cX11_aConst 89 = .ok (.aload_n 0, 1) := by decide +kernel
theorem dX11_aConst_90 : decode cX11_aConst 90 = .ok (.getfield 307, 3) := by decide +kernel
theorem dX11_aConst_93 : decode cX11_aConst 93 = .ok (.lload_n 2, 1) := by decide +kernel
theorem dX11_aConst_94 : decode cX11_aConst 94 = .ok (.lastore, 1) := by decide +kernel
theorem dX11_aConst_95 : decode cX11_aConst 95 = .ok (.aload_n 0, 1) := by decide +kernel
theorem dX11_aConst_96 : decode cX11_aConst 96 = .ok (.getfield 28, 3) := by decide +kernel
theorem dX11_aConst_99 : decode cX11_aConst 99 = .ok (.aload_n 0, 1) := by decide +kernel
theorem dX11_aConst_100 : decode cX11_aConst 100 = .ok (.getfield 307, 3) := by decide +kernel
theorem dX11_aConst_103 : decode cX11_aConst 103 = .ok (.iload 4, 2) := by decide +kernel
theorem dX11_aConst_105 : decode cX11_aConst 105 = .ok (.iastore, 1) := by decide +kernel
theorem dX11_aConst_106 : decode cX11_aConst 106 = .ok (.aload_n 0, 1) := by decide +kernel
theorem dX11_aConst_107 : decode cX11_aConst 107 = .ok (.dup, 1) := by decide +kernel
theorem dX11_aConst_108 : decode cX11_aConst 108 = .ok (.getfield 307, 3) := by decide +kernel
theorem dX11_aConst_111 : decode cX11_aConst 111 = .ok (.iconst 1, 1) := by decide +kernel
theorem dX11_aConst_112 : decode cX11_aConst 112 = .ok (.iadd, 1) := by decide +kernel
theorem dX11_aConst_113 : decode cX11_aConst 113 = .ok (.putfield 307, 3) := by decide +kernel
theorem dX11_aConst_116 : decode cX11_aConst 116 = .ok (.return_, 1) := by decide +kernel
theorem dX11_rule_0 : decode cX11_rule 0 = .ok (.aload_n 0, 1) := by decide +kernel
theorem dX11_rule_1 : decode cX11_rule 1 = .ok (.getfield 348, 3) := by decide +kernel
theorem dX11_rule_4 : decode cX11_rule 4 = .ok (.ifCond .lt 12, 3) := by decide +kernel
theorem dX11_rule_7 : decode cX11_rule 7 = .ok (.aload_n 0, 1) := by decide +kernel
theorem dX11_rule_8 : decode cX11_rule 8 = .ok (.iconst 2, 1) := by decide +kernel
theorem dX11_rule_9 : decode cX11_rule 9 = .ok (.aload_n 0, 1) := by decide +kernel
theorem dX11_rule_10 : decode cX11_rule 10 = .ok (.getfield 189, 3) := by decide +kernel
theorem dX11_rule_13 : decode cX11_rule 13 = .ok (.invokevirtual 237, 3) := by decide +kernel
theorem dX11_rule_16 : decode cX11_rule 16 = .ok (.aload_n 0, 1) := by decide +kernel
theorem dX11_rule_17 : decode cX11_rule 17 = .ok (.invokevirtual 225, 3) := by decide +kernel
theorem dX11_rule_20 : decode cX11_rule 20 = .ok (.aload_n 0, 1) := by decide +kernel
theorem dX11_rule_21 : decode cX11_rule 21 = .ok (.getfield 231, 3) := by decide +kernel
theorem dX11_rule_24 : decode cX11_rule 24 = .ok (.istore_n 1, 1) := by decide +kernel
theorem dX11_rule_25 : decode cX11_rule 25 = .ok (.aload_n 0, 1) := by decide +kernel
theorem dX11_rule_26 : decode cX11_rule 26 = .ok (.iconst 1, 1) := by decide +kernel
theorem dX11_rule_27 : decode cX11_rule 27 = .ok (.putfield 301, 3) := by decide +kernel
theorem dX11_rule_30 : decode cX11_rule 30 = .ok (.aload_n 0, 1) := by decide +kernel
theorem dX11_rule_31 : decode cX11_rule 31 = .ok (.invokevirtual 317, 3) := by decide +kernel
theorem dX11_rule_34 : decode cX11_rule 34 = .ok (.aload_n 0, 1) := by decide +kernel
theorem dX11_rule_35 : decode cX11_rule 35 = .ok (.iconst 0, 1) := by decide +kernel
theorem dX11_rule_36 : decode cX11_rule 36 = .ok (.putfield 301, 3) := by decide +kernel
theorem dX11_rule_39 : decode cX11_rule 39 = .ok (.aload_n 0, 1) := by decide +kernel
theorem dX11_rule_40 : decode cX11_rule 40 = .ok (.bipush 59, 2) := by decide +kernel
theorem dX11_rule_42 : decode cX11_rule 42 = .ok (.invokevirtual 274, 3) := by decide +kernel
theorem dX11_rule_45 : decode cX11_rule 45 = .ok (.aload_n 0, 1) := by decide +kernel
theorem dX11_rule_46 : decode cX11_rule 46 = .ok (.getfield 348, 3) := by decide +kernel
theorem dX11_rule_49 : decode cX11_rule 49 = .ok (.ifCond .ge 8, 3) := by decide +kernel
theorem dX11_rule_52 : decode cX11_rule 52 = .ok (.aload_n 0, 1) := by decide +kernel
theorem dX11_rule_53 : decode cX11_rule 53 = .ok (.iload_n 1, 1) := by decide +kernel
theorem dX11_rule_54 : decode cX11_rule 54 = .ok (.putfield 348, 3) := by decide +kernel
theorem dX11_rule_57 : decode cX11_rule 57 = .ok (.return_, 1) := by decide +kernel
theorem dX11_reads_0 : decode cX11_reads 0 = .ok (.aload_n 0, 1) := by decide +kernel
theorem dX11_reads_1 : decode cX11_reads 1 = .ok (.iconst 0, 1) := by decide +kernel
theorem dX11_reads_2 : decode cX11_reads 2 = .ok (.putfield 182, 3) := by decide +kernel
theorem dX11_reads_5 : decode cX11_reads 5 = .ok (.aload_n 0, 1) := by decide +kernel
theorem dX11_reads_6 : decode cX11_reads 6 = .ok (.iconst 0, 1) := by decide +kernel
theorem dX11_reads_7 : decode cX11_reads 7 = .ok (.putfield 215, 3) := by decide +kernel
theorem dX11_reads_10 : decode cX11_reads 10 = .ok (.aload_n 0, 1) := by decide +kernel
theorem dX11_reads_11 : decode cX11_reads 11 = .ok (.iconst 0, 1) := by decide +kernel
theorem dX11_reads_12 : decode cX11_reads 12 = .ok (.putfield 219, 3) := by decide +kernel
theorem dX11_reads_15 : decode cX11_reads 15 = .ok (.aload_n 0, 1) := by decide +kernel
theorem dX11_reads_16 : decode cX11_reads 16 = .ok (.iconst (-1), 1) := by decide +kernel
theorem dX11_reads_17 : decode cX11_reads 17 = .ok (.putfield 13, 3) := by decide +kernel
theorem dX11_reads_20 : decode cX11_reads 20 = .ok (.aload_n 0, 1) := by decide +kernel
theorem dX11_reads_21 : decode cX11_reads 21 = .ok (.iconst (-1), 1) := by decide +kernel
theorem dX11_reads_22 : decode cX11_reads 22 = .ok (.putfield 351, 3) := by decide +kernel
theorem dX11_reads_25 : decode cX11_reads 25 = .ok (.aload_n 0, 1) := by decide +kernel
theorem dX11_reads_26 : decode cX11_reads 26 = .ok (.iconst 0, 1) := by decide +kernel
theorem dX11_reads_27 : decode cX11_reads 27 = .ok (.putfield 307, 3) := by decide +kernel
theorem dX11_reads_30 : decode cX11_reads 30 = .ok (.aload_n 0, 1) := by decide +kernel
theorem dX11_reads_31 : decode cX11_reads 31 = .ok (.iconst 0, 1) := by decide +kernel
theorem dX11_reads_32 : decode cX11_reads 32 = .ok (.putfield 310, 3) := by decide +kernel
theorem dX11_reads_35 : decode cX11_reads 35 = .ok (.aload_n 0, 1) := by decide +kernel
theorem dX11_reads_36 : decode cX11_reads 36 = .ok (.iconst 0, 1) := by decide +kernel
theorem dX11_reads_37 : decode cX11_reads 37 = .ok (.putfield 304, 3) := by decide +kernel
theorem dX11_reads_40 : decode cX11_reads 40 = .ok (.aload_n 0, 1) := by decide +kernel
theorem dX11_reads_41 : decode cX11_reads 41 = .ok (.iconst 0, 1) := by decide +kernel
theorem dX11_reads_42 : decode cX11_reads 42 = .ok (.putfield 333, 3) := by decide +kernel
theorem dX11_reads_45 : decode cX11_reads 45 = .ok (.aload_n 0, 1) := by decide +kernel
theorem dX11_reads_46 : decode cX11_reads 46 = .ok (.iconst (-1), 1) := by decide +kernel
theorem dX11_reads_47 : decode cX11_reads 47 = .ok (.putfield 348, 3) := by decide +kernel
theorem dX11_reads_50 : decode cX11_reads 50 = .ok (.aload_n 0, 1) := by decide +kernel
theorem dX11_reads_51 : decode cX11_reads 51 = .ok (.iconst 0, 1) := by decide +kernel
theorem dX11_reads_52 : decode cX11_reads 52 = .ok (.putfield 231, 3) := by decide +kernel
theorem dX11_reads_55 : decode cX11_reads 55 = .ok (.aload_n 0, 1) := by decide +kernel
theorem dX11_reads_56 : decode cX11_reads 56 = .ok (.iconst 0, 1) := by decide +kernel
theorem dX11_reads_57 : decode cX11_reads 57 = .ok (.putfield 330, 3) := by decide +kernel
theorem dX11_reads_60 : decode cX11_reads 60 = .ok (.aload_n 0, 1) := by decide +kernel
theorem dX11_reads_61 : decode cX11_reads 61 = .ok (.iconst 0, 1) := by decide +kernel
theorem dX11_reads_62 : decode cX11_reads 62 = .ok (.putfield 241, 3) := by decide +kernel
theorem dX11_reads_65 : decode cX11_reads 65 = .ok (.aload_n 0, 1) := by decide +kernel
theorem dX11_reads_66 : decode cX11_reads 66 = .ok (.invokevirtual 225, 3) := by decide +kernel
theorem dX11_reads_69 : decode cX11_reads 69 = .ok (.aload_n 0, 1) := by decide +kernel
theorem dX11_reads_70 : decode cX11_reads 70 = .ok (.iconst 1, 1) := by decide +kernel
theorem dX11_reads_71 : decode cX11_reads 71 = .ok (.invokevirtual 324, 3) := by decide +kernel
theorem dX11_reads_74 : decode cX11_reads 74 = .ok (.ifCond .eq 40, 3) := by decide +kernel
theorem dX11_reads_77 : decode cX11_reads 77 = .ok (.aload_n 0, 1) := by decide +kernel
theorem dX11_reads_78 : decode cX11_reads 78 = .ok (.invokevirtual 225, 3) := by decide +kernel
theorem dX11_reads_81 : decode cX11_reads 81 = .ok (.aload_n 0, 1) := by decide +kernel
theorem dX11_reads_82 : decode cX11_reads 82 = .ok (.getfield 189, 3) := by decide +kernel
theorem dX11_reads_85 : decode cX11_reads 85 = .ok (.istore_n 1, 1) := by decide +kernel
theorem dX11_reads_86 : decode cX11_reads 86 = .ok (.aload_n 0, 1) := by decide +kernel
theorem dX11_reads_87 : decode cX11_reads 87 = .ok (.invokevirtual 294, 3) := by decide +kernel
theorem dX11_reads_90 : decode cX11_reads 90 = .ok (.istore_n 2, 1) := by decide +kernel
theorem dX11_reads_91 : decode cX11_reads 91 = .ok (.aload_n 0, 1) := by decide +kernel
theorem dX11_reads_92 : decode cX11_reads 92 = .ok (.getfield 215, 3) := by decide +kernel
theorem dX11_reads_95 : decode cX11_reads 95 = .ok (.ifCond .ne 13, 3) := by decide +kernel
theorem dX11_reads_98 : decode cX11_reads 98 = .ok (.aload_n 0, 1) := by decide +kernel
theorem dX11_reads_99 : decode cX11_reads 99 = .ok (.aload_n 0, 1) := by decide +kernel
theorem dX11_reads_100 : decode cX11_reads 100 = .ok (.iload_n 2, 1) := by decide +kernel
theorem dX11_reads_101 : decode cX11_reads 101 = .ok (.iload_n 1, 1) := by decide +kernel
theorem dX11_reads_102 : decode cX11_reads 102 = .ok (.invokevirtual 255, 3) := by decide +kernel
theorem dX11_reads_105 : decode cX11_reads 105 = .ok (.putfield 351, 3) := by decide +kernel
theorem dX11_reads_108 : decode cX11_reads 108 = .ok (.aload_n 0, 1) := by decide +kernel
theorem dX11_reads_109 : decode cX11_reads 109 = .ok (.bipush 59, 2) := by decide +kernel
theorem dX11_reads_111 : decode cX11_reads 111 = .ok (.invokevirtual 274, 3) := by decide +kernel
theorem dX11_reads_114 : decode cX11_reads 114 = .ok (.aload_n 0, 1) := by decide +kernel
theorem dX11_reads_115 : decode cX11_reads 115 = .ok (.getfield 215, 3) := by decide +kernel
theorem dX11_reads_118 : decode cX11_reads 118 = .ok (.ifCond .ne 80, 3) := by decide +kernel
theorem dX11_reads_121 : decode cX11_reads 121 = .ok (.aload_n 0, 1) := by decide +kernel
theorem dX11_reads_122 : decode cX11_reads 122 = .ok (.getfield 195, 3) := by decide +kernel
theorem dX11_reads_125 : decode cX11_reads 125 = .ok (.iconst 4, 1) := by decide +kernel
theorem dX11_reads_126 : decode cX11_reads 126 = .ok (.if_icmp .eq 72, 3) := by decide +kernel
theorem dX11_reads_129 : decode cX11_reads 129 = .ok (.aload_n 0, 1) := by decide +kernel
theorem dX11_reads_130 : decode cX11_reads 130 = .ok (.iconst 2, 1) := by decide +kernel
theorem dX11_reads_131 : decode cX11_reads 131 = .ok (.invokevirtual 324, 3) := by decide +kernel
theorem dX11_reads_134 : decode cX11_reads 134 = .ok (.ifCond .eq 10, 3) := by decide +kernel
theorem dX11_reads_137 : decode cX11_reads 137 = .ok (.aload_n 0, 1) := by decide +kernel
theorem dX11_reads_138 : decode cX11_reads 138 = .ok (.invokevirtual 354, 3) := by decide +kernel
theorem dX11_reads_141 : decode cX11_reads 141 = .ok (.goto (-27), 3) := by decide +kernel
theorem dX11_reads_144 : decode cX11_reads 144 = .ok (.aload_n 0, 1) := by decide +kernel
theorem dX11_reads_145 : decode cX11_reads 145 = .ok (.iconst 3, 1) := by decide +kernel
theorem dX11_reads_146 : decode cX11_reads 146 = .ok (.invokevirtual 324, 3) := by decide +kernel
theorem dX11_reads_149 : decode cX11_reads 149 = .ok (.ifCond .eq 10, 3) := by decide +kernel
theorem dX11_reads_152 : decode cX11_reads 152 = .ok (.aload_n 0, 1) := by decide +kernel
theorem dX11_reads_153 : decode cX11_reads 153 = .ok (.invokevirtual 357, 3) := by decide +kernel
theorem dX11_reads_156 : decode cX11_reads 156 = .ok (.goto (-42), 3) := by decide +kernel
theorem dX11_reads_159 : decode cX11_reads 159 = .ok (.aload_n 0, 1) := by decide +kernel
theorem dX11_reads_160 : decode cX11_reads 160 = .ok (.iconst 4, 1) := by decide +kernel
theorem dX11_reads_161 : decode cX11_reads 161 = .ok (.invokevirtual 324, 3) := by decide +kernel
theorem dX11_reads_164 : decode cX11_reads 164 = .ok (.ifCond .ne 20, 3) := by decide +kernel
theorem dX11_reads_167 : decode cX11_reads 167 = .ok (.aload_n 0, 1) := by decide +kernel
theorem dX11_reads_168 : decode cX11_reads 168 = .ok (.iconst 5, 1) := by decide +kernel
theorem dX11_reads_169 : decode cX11_reads 169 = .ok (.invokevirtual 324, 3) := by decide +kernel
theorem dX11_reads_172 : decode cX11_reads 172 = .ok (.ifCond .ne 12, 3) := by decide +kernel
theorem dX11_reads_175 : decode cX11_reads 175 = .ok (.aload_n 0, 1) := by decide +kernel
theorem dX11_reads_176 : decode cX11_reads 176 = .ok (.bipush 6, 2) := by decide +kernel
theorem dX11_reads_178 : decode cX11_reads 178 = .ok (.invokevirtual 324, 3) := by decide +kernel
theorem dX11_reads_181 : decode cX11_reads 181 = .ok (.ifCond .eq 10, 3) := by decide +kernel
theorem dX11_reads_184 : decode cX11_reads 184 = .ok (.aload_n 0, 1) := by decide +kernel
theorem dX11_reads_185 : decode cX11_reads 185 = .ok (.invokevirtual 327, 3) := by decide +kernel
theorem dX11_reads_188 : decode cX11_reads 188 = .ok (.goto (-74), 3) := by decide +kernel
theorem dX11_reads_191 : decode cX11_reads 191 = .ok (.aload_n 0, 1) := by decide +kernel
theorem dX11_reads_192 : decode cX11_reads 192 = .ok (.invokevirtual 228, 3) := by decide +kernel
theorem dX11_reads_195 : decode cX11_reads 195 = .ok (.goto (-81), 3) := by decide +kernel
theorem dX11_reads_198 : decode cX11_reads 198 = .ok (.return_, 1) := by decide +kernel
theorem dX11_keeps_0 : decode cX11_keeps 0 = .ok (.aload_n 0, 1) := by decide +kernel
theorem dX11_keeps_1 : decode cX11_keeps 1 = .ok (.getfield 56, 3) := by decide +kernel
theorem dX11_keeps_4 : decode cX11_keeps 4 = .ok (.iload_n 1, 1) := by decide +kernel
theorem dX11_keeps_5 : decode cX11_keeps 5 = .ok (.iconst 1, 1) := by decide +kernel
theorem dX11_keeps_6 : decode cX11_keeps 6 = .ok (.bastore, 1) := by decide +kernel
theorem dX11_keeps_7 : decode cX11_keeps 7 = .ok (.aload_n 0, 1) := by decide +kernel
theorem dX11_keeps_8 : decode cX11_keeps 8 = .ok (.getfield 60, 3) := by decide +kernel
theorem dX11_keeps_11 : decode cX11_keeps 11 = .ok (.iload_n 1, 1) := by decide +kernel
theorem dX11_keeps_12 : decode cX11_keeps 12 = .ok (.aload_n 0, 1) := by decide +kernel
theorem dX11_keeps_13 : decode cX11_keeps 13 = .ok (.getfield 351, 3) := by decide +kernel
theorem dX11_keeps_16 : decode cX11_keeps 16 = .ok (.iastore, 1) := by decide +kernel
theorem dX11_keeps_17 : decode cX11_keeps 17 = .ok (.aload_n 0, 1) := by decide +kernel
theorem dX11_keeps_18 : decode cX11_keeps 18 = .ok (.getfield 63, 3) := by decide +kernel
theorem dX11_keeps_21 : decode cX11_keeps 21 = .ok (.iload_n 1, 1) := by decide +kernel
theorem dX11_keeps_22 : decode cX11_keeps 22 = .ok (.aload_n 0, 1) := by decide +kernel
theorem dX11_keeps_23 : decode cX11_keeps 23 = .ok (.getfield 241, 3) := by decide +kernel
theorem dX11_keeps_26 : decode cX11_keeps 26 = .ok (.iastore, 1) := by decide +kernel
theorem dX11_keeps_27 : decode cX11_keeps 27 = .ok (.aload_n 0, 1) := by decide +kernel
theorem dX11_keeps_28 : decode cX11_keeps 28 = .ok (.getfield 66, 3) := by decide +kernel
theorem dX11_keeps_31 : decode cX11_keeps 31 = .ok (.iload_n 1, 1) := by decide +kernel
theorem dX11_keeps_32 : decode cX11_keeps 32 = .ok (.aload_n 0, 1) := by decide +kernel
theorem dX11_keeps_33 : decode cX11_keeps 33 = .ok (.getfield 307, 3) := by decide +kernel
theorem dX11_keeps_36 : decode cX11_keeps 36 = .ok (.iastore, 1) := by decide +kernel
theorem dX11_keeps_37 : decode cX11_keeps 37 = .ok (.iconst 0, 1) := by decide +kernel
theorem dX11_keeps_38 : decode cX11_keeps 38 = .ok (.istore_n 2, 1) := by decide +kernel
theorem dX11_keeps_39 : decode cX11_keeps 39 = .ok (.iload_n 2, 1) := by decide +kernel
theorem dX11_keeps_40 : decode cX11_keeps 40 = .ok (.aload_n 0, 1) := by decide +kernel
theorem dX11_keeps_41 : decode cX11_keeps 41 = .ok (.getfield 307, 3) := by decide +kernel
theorem dX11_keeps_44 : decode cX11_keeps 44 = .ok (.if_icmp .ge 43, 3) := by decide +kernel
theorem dX11_keeps_47 : decode cX11_keeps 47 = .ok (.aload_n 0, 1) := by decide +kernel
theorem dX11_keeps_48 : decode cX11_keeps 48 = .ok (.getfield 69, 3) := by decide +kernel
theorem dX11_keeps_51 : decode cX11_keeps 51 = .ok (.bipush 8, 2) := by decide +kernel
theorem dX11_keeps_53 : decode cX11_keeps 53 = .ok (.iload_n 1, 1) := by decide +kernel
theorem dX11_keeps_54 : decode cX11_keeps 54 = .ok (.imul, 1) := by decide +kernel
theorem dX11_keeps_55 : decode cX11_keeps 55 = .ok (.iload_n 2, 1) := by decide +kernel
theorem dX11_keeps_56 : decode cX11_keeps 56 = .ok (.iadd, 1) := by decide +kernel
theorem dX11_keeps_57 : decode cX11_keeps 57 = .ok (.aload_n 0, 1) := by decide +kernel
theorem dX11_keeps_58 : decode cX11_keeps 58 = .ok (.getfield 25, 3) := by decide +kernel
theorem dX11_keeps_61 : decode cX11_keeps 61 = .ok (.iload_n 2, 1) := by decide +kernel
theorem dX11_keeps_62 : decode cX11_keeps 62 = .ok (.laload, 1) := by decide +kernel
theorem dX11_keeps_63 : decode cX11_keeps 63 = .ok (.lastore, 1) := by decide +kernel
theorem dX11_keeps_64 : decode cX11_keeps 64 = .ok (.aload_n 0, 1) := by decide +kernel
theorem dX11_keeps_65 : decode cX11_keeps 65 = .ok (.getfield 72, 3) := by decide +kernel
theorem dX11_keeps_68 : decode cX11_keeps 68 = .ok (.bipush 8, 2) := by decide +kernel
theorem dX11_keeps_70 : decode cX11_keeps 70 = .ok (.iload_n 1, 1) := by decide +kernel
theorem dX11_keeps_71 : decode cX11_keeps 71 = .ok (.imul, 1) := by decide +kernel
theorem dX11_keeps_72 : decode cX11_keeps 72 = .ok (.iload_n 2, 1) := by decide +kernel
theorem dX11_keeps_73 : decode cX11_keeps 73 = .ok (.iadd, 1) := by decide +kernel
theorem dX11_keeps_74 : decode cX11_keeps 74 = .ok (.aload_n 0, 1) := by decide +kernel
theorem dX11_keeps_75 : decode cX11_keeps 75 = .ok (.getfield 28, 3) := by decide +kernel
theorem dX11_keeps_78 : decode cX11_keeps 78 = .ok (.iload_n 2, 1) := by decide +kernel
theorem dX11_keeps_79 : decode cX11_keeps 79 = .ok (.iaload, 1) := by decide +kernel
theorem dX11_keeps_80 : decode cX11_keeps 80 = .ok (.iastore, 1) := by decide +kernel
theorem dX11_keeps_81 : decode cX11_keeps 81 = .ok (.iinc 2 1, 3) := by decide +kernel
theorem dX11_keeps_84 : decode cX11_keeps 84 = .ok (.goto (-45), 3) := by decide +kernel
theorem dX11_keeps_87 : decode cX11_keeps 87 = .ok (.aload_n 0, 1) := by decide +kernel
theorem dX11_keeps_88 : decode cX11_keeps 88 = .ok (.getfield 75, 3) := by decide +kernel
theorem dX11_keeps_91 : decode cX11_keeps 91 = .ok (.iload_n 1, 1) := by decide +kernel
theorem dX11_keeps_92 : decode cX11_keeps 92 = .ok (.aload_n 0, 1) := by decide +kernel
theorem dX11_keeps_93 : decode cX11_keeps 93 = .ok (.getfield 310, 3) := by decide +kernel
theorem dX11_keeps_96 : decode cX11_keeps 96 = .ok (.iastore, 1) := by decide +kernel
theorem dX11_keeps_97 : decode cX11_keeps 97 = .ok (.iconst 0, 1) := by decide +kernel
theorem dX11_keeps_98 : decode cX11_keeps 98 = .ok (.istore_n 2, 1) := by decide +kernel
theorem dX11_keeps_99 : decode cX11_keeps 99 = .ok (.iload_n 2, 1) := by decide +kernel
theorem dX11_keeps_100 : decode cX11_keeps 100 = .ok (.aload_n 0, 1) := by decide +kernel
theorem dX11_keeps_101 : decode cX11_keeps 101 = .ok (.getfield 310, 3) := by decide +kernel
theorem dX11_keeps_104 : decode cX11_keeps 104 = .ok (.if_icmp .ge 43, 3) := by decide +kernel
theorem dX11_keeps_107 : decode cX11_keeps 107 = .ok (.aload_n 0, 1) := by decide +kernel
theorem dX11_keeps_108 : decode cX11_keeps 108 = .ok (.getfield 78, 3) := by decide +kernel
theorem dX11_keeps_111 : decode cX11_keeps 111 = .ok (.bipush 6, 2) := by decide +kernel
theorem dX11_keeps_113 : decode cX11_keeps 113 = .ok (.iload_n 1, 1) := by decide +kernel
theorem dX11_keeps_114 : decode cX11_keeps 114 = .ok (.imul, 1) := by decide +kernel
theorem dX11_keeps_115 : decode cX11_keeps 115 = .ok (.iload_n 2, 1) := by decide +kernel
theorem dX11_keeps_116 : decode cX11_keeps 116 = .ok (.iadd, 1) := by decide +kernel
theorem dX11_keeps_117 : decode cX11_keeps 117 = .ok (.aload_n 0, 1) := by decide +kernel
theorem dX11_keeps_118 : decode cX11_keeps 118 = .ok (.getfield 32, 3) := by decide +kernel
theorem dX11_keeps_121 : decode cX11_keeps 121 = .ok (.iload_n 2, 1) := by decide +kernel
theorem dX11_keeps_122 : decode cX11_keeps 122 = .ok (.laload, 1) := by decide +kernel
theorem dX11_keeps_123 : decode cX11_keeps 123 = .ok (.lastore, 1) := by decide +kernel
theorem dX11_keeps_124 : decode cX11_keeps 124 = .ok (.aload_n 0, 1) := by decide +kernel
theorem dX11_keeps_125 : decode cX11_keeps 125 = .ok (.getfield 81, 3) := by decide +kernel
theorem dX11_keeps_128 : decode cX11_keeps 128 = .ok (.bipush 6, 2) := by decide +kernel
theorem dX11_keeps_130 : decode cX11_keeps 130 = .ok (.iload_n 1, 1) := by decide +kernel
theorem dX11_keeps_131 : decode cX11_keeps 131 = .ok (.imul, 1) := by decide +kernel
theorem dX11_keeps_132 : decode cX11_keeps 132 = .ok (.iload_n 2, 1) := by decide +kernel
theorem dX11_keeps_133 : decode cX11_keeps 133 = .ok (.iadd, 1) := by decide +kernel
theorem dX11_keeps_134 : decode cX11_keeps 134 = .ok (.aload_n 0, 1) := by decide +kernel
theorem dX11_keeps_135 : decode cX11_keeps 135 = .ok (.getfield 35, 3) := by decide +kernel
theorem dX11_keeps_138 : decode cX11_keeps 138 = .ok (.iload_n 2, 1) := by decide +kernel
theorem dX11_keeps_139 : decode cX11_keeps 139 = .ok (.iaload, 1) := by decide +kernel
theorem dX11_keeps_140 : decode cX11_keeps 140 = .ok (.iastore, 1) := by decide +kernel
theorem dX11_keeps_141 : decode cX11_keeps 141 = .ok (.iinc 2 1, 3) := by decide +kernel
theorem dX11_keeps_144 : decode cX11_keeps 144 = .ok (.goto (-45), 3) := by decide +kernel
theorem dX11_keeps_147 : decode cX11_keeps 147 = .ok (.aload_n 0, 1) := by decide +kernel
theorem dX11_keeps_148 : decode cX11_keeps 148 = .ok (.getfield 84, 3) := by decide +kernel
theorem dX11_keeps_151 : decode cX11_keeps 151 = .ok (.iload_n 1, 1) := by decide +kernel
theorem dX11_keeps_152 : decode cX11_keeps 152 = .ok (.aload_n 0, 1) := by decide +kernel
theorem dX11_keeps_153 : decode cX11_keeps 153 = .ok (.getfield 304, 3) := by decide +kernel
theorem dX11_keeps_156 : decode cX11_keeps 156 = .ok (.iastore, 1) := by decide +kernel
theorem dX11_keeps_157 : decode cX11_keeps 157 = .ok (.iconst 0, 1) := by decide +kernel
theorem dX11_keeps_158 : decode cX11_keeps 158 = .ok (.istore_n 2, 1) := by decide +kernel
theorem dX11_keeps_159 : decode cX11_keeps 159 = .ok (.iload_n 2, 1) := by decide +kernel
theorem dX11_keeps_160 : decode cX11_keeps 160 = .ok (.aload_n 0, 1) := by decide +kernel
theorem dX11_keeps_161 : decode cX11_keeps 161 = .ok (.getfield 304, 3) := by decide +kernel
theorem dX11_keeps_164 : decode cX11_keeps 164 = .ok (.if_icmp .ge 60, 3) := by decide +kernel
theorem dX11_keeps_167 : decode cX11_keeps 167 = .ok (.aload_n 0, 1) := by decide +kernel
theorem dX11_keeps_168 : decode cX11_keeps 168 = .ok (.getfield 87, 3) := by decide +kernel
theorem dX11_keeps_171 : decode cX11_keeps 171 = .ok (.bipush 120, 2) := by decide +kernel
theorem dX11_keeps_173 : decode cX11_keeps 173 = .ok (.iload_n 1, 1) := by decide +kernel
theorem dX11_keeps_174 : decode cX11_keeps 174 = .ok (.imul, 1) := by decide +kernel
theorem dX11_keeps_175 : decode cX11_keeps 175 = .ok (.iload_n 2, 1) := by decide +kernel
theorem dX11_keeps_176 : decode cX11_keeps 176 = .ok (.iadd, 1) := by decide +kernel
theorem dX11_keeps_177 : decode cX11_keeps 177 = .ok (.aload_n 0, 1) := by decide +kernel
theorem dX11_keeps_178 : decode cX11_keeps 178 = .ok (.getfield 38, 3) := by decide +kernel
theorem dX11_keeps_181 : decode cX11_keeps 181 = .ok (.iload_n 2, 1) := by decide +kernel
theorem dX11_keeps_182 : decode cX11_keeps 182 = .ok (.iaload, 1) := by decide +kernel
theorem dX11_keeps_183 : decode cX11_keeps 183 = .ok (.iastore, 1) := by decide +kernel
theorem dX11_keeps_184 : decode cX11_keeps 184 = .ok (.aload_n 0, 1) := by decide +kernel
theorem dX11_keeps_185 : decode cX11_keeps 185 = .ok (.getfield 90, 3) := by decide +kernel
theorem dX11_keeps_188 : decode cX11_keeps 188 = .ok (.bipush 120, 2) := by decide +kernel
theorem dX11_keeps_190 : decode cX11_keeps 190 = .ok (.iload_n 1, 1) := by decide +kernel
theorem dX11_keeps_191 : decode cX11_keeps 191 = .ok (.imul, 1) := by decide +kernel
theorem dX11_keeps_192 : decode cX11_keeps 192 = .ok (.iload_n 2, 1) := by decide +kernel
theorem dX11_keeps_193 : decode cX11_keeps 193 = .ok (.iadd, 1) := by decide +kernel
theorem dX11_keeps_194 : decode cX11_keeps 194 = .ok (.aload_n 0, 1) := by decide +kernel
theorem dX11_keeps_195 : decode cX11_keeps 195 = .ok (.getfield 41, 3) := by decide +kernel
theorem dX11_keeps_198 : decode cX11_keeps 198 = .ok (.iload_n 2, 1) := by decide +kernel
theorem dX11_keeps_199 : decode cX11_keeps 199 = .ok (.iaload, 1) := by decide +kernel
theorem dX11_keeps_200 : decode cX11_keeps 200 = .ok (.iastore, 1) := by decide +kernel
theorem dX11_keeps_201 : decode cX11_keeps 201 = .ok (.aload_n 0, 1) := by decide +kernel
theorem dX11_keeps_202 : decode cX11_keeps 202 = .ok (.getfield 93, 3) := by decide +kernel
theorem dX11_keeps_205 : decode cX11_keeps 205 = .ok (.bipush 120, 2) := by decide +kernel
theorem dX11_keeps_207 : decode cX11_keeps 207 = .ok (.iload_n 1, 1) := by decide +kernel
theorem dX11_keeps_208 : decode cX11_keeps 208 = .ok (.imul, 1) := by decide +kernel
theorem dX11_keeps_209 : decode cX11_keeps 209 = .ok (.iload_n 2, 1) := by decide +kernel
theorem dX11_keeps_210 : decode cX11_keeps 210 = .ok (.iadd, 1) := by decide +kernel
theorem dX11_keeps_211 : decode cX11_keeps 211 = .ok (.aload_n 0, 1) := by decide +kernel
theorem dX11_keeps_212 : decode cX11_keeps 212 = .ok (.getfield 44, 3) := by decide +kernel
theorem dX11_keeps_215 : decode cX11_keeps 215 = .ok (.iload_n 2, 1) := by decide +kernel
theorem dX11_keeps_216 : decode cX11_keeps 216 = .ok (.iaload, 1) := by decide +kernel
theorem dX11_keeps_217 : decode cX11_keeps 217 = .ok (.iastore, 1) := by decide +kernel
theorem dX11_keeps_218 : decode cX11_keeps 218 = .ok (.iinc 2 1, 3) := by decide +kernel
theorem dX11_keeps_221 : decode cX11_keeps 221 = .ok (.goto (-62), 3) := by decide +kernel
theorem dX11_keeps_224 : decode cX11_keeps 224 = .ok (.aload_n 0, 1) := by decide +kernel
theorem dX11_keeps_225 : decode cX11_keeps 225 = .ok (.getfield 96, 3) := by decide +kernel
theorem dX11_keeps_228 : decode cX11_keeps 228 = .ok (.iload_n 1, 1) := by decide +kernel
theorem dX11_keeps_229 : decode cX11_keeps 229 = .ok (.aload_n 0, 1) := by decide +kernel
theorem dX11_keeps_230 : decode cX11_keeps 230 = .ok (.getfield 348, 3) := by decide +kernel
theorem dX11_keeps_233 : decode cX11_keeps 233 = .ok (.iastore, 1) := by decide +kernel
theorem dX11_keeps_234 : decode cX11_keeps 234 = .ok (.iconst 0, 1) := by decide +kernel
theorem dX11_keeps_235 : decode cX11_keeps 235 = .ok (.istore_n 2, 1) := by decide +kernel
theorem dX11_keeps_236 : decode cX11_keeps 236 = .ok (.iload_n 2, 1) := by decide +kernel
theorem dX11_keeps_237 : decode cX11_keeps 237 = .ok (.aload_n 0, 1) := by decide +kernel
theorem dX11_keeps_238 : decode cX11_keeps 238 = .ok (.getfield 231, 3) := by decide +kernel
theorem dX11_keeps_241 : decode cX11_keeps 241 = .ok (.if_icmp .ge 63, 3) := by decide +kernel
theorem dX11_keeps_244 : decode cX11_keeps 244 = .ok (.aload_n 0, 1) := by decide +kernel
theorem dX11_keeps_245 : decode cX11_keeps 245 = .ok (.getfield 100, 3) := by decide +kernel
theorem dX11_keeps_248 : decode cX11_keeps 248 = .ok (.sipush 1200, 3) := by decide +kernel
theorem dX11_keeps_251 : decode cX11_keeps 251 = .ok (.iload_n 1, 1) := by decide +kernel
theorem dX11_keeps_252 : decode cX11_keeps 252 = .ok (.imul, 1) := by decide +kernel
theorem dX11_keeps_253 : decode cX11_keeps 253 = .ok (.iload_n 2, 1) := by decide +kernel
theorem dX11_keeps_254 : decode cX11_keeps 254 = .ok (.iadd, 1) := by decide +kernel
theorem dX11_keeps_255 : decode cX11_keeps 255 = .ok (.aload_n 0, 1) := by decide +kernel
theorem dX11_keeps_256 : decode cX11_keeps 256 = .ok (.getfield 47, 3) := by decide +kernel
theorem dX11_keeps_259 : decode cX11_keeps 259 = .ok (.iload_n 2, 1) := by decide +kernel
theorem dX11_keeps_260 : decode cX11_keeps 260 = .ok (.iaload, 1) := by decide +kernel
theorem dX11_keeps_261 : decode cX11_keeps 261 = .ok (.iastore, 1) := by decide +kernel
theorem dX11_keeps_262 : decode cX11_keeps 262 = .ok (.aload_n 0, 1) := by decide +kernel
theorem dX11_keeps_263 : decode cX11_keeps 263 = .ok (.getfield 103, 3) := by decide +kernel
theorem dX11_keeps_266 : decode cX11_keeps 266 = .ok (.sipush 1200, 3) := by decide +kernel
theorem dX11_keeps_269 : decode cX11_keeps 269 = .ok (.iload_n 1, 1) := by decide +kernel
theorem dX11_keeps_270 : decode cX11_keeps 270 = .ok (.imul, 1) := by decide +kernel
theorem dX11_keeps_271 : decode cX11_keeps 271 = .ok (.iload_n 2, 1) := by decide +kernel
theorem dX11_keeps_272 : decode cX11_keeps 272 = .ok (.iadd, 1) := by decide +kernel
theorem dX11_keeps_273 : decode cX11_keeps 273 = .ok (.aload_n 0, 1) := by decide +kernel
theorem dX11_keeps_274 : decode cX11_keeps 274 = .ok (.getfield 50, 3) := by decide +kernel
theorem dX11_keeps_277 : decode cX11_keeps 277 = .ok (.iload_n 2, 1) := by decide +kernel
theorem dX11_keeps_278 : decode cX11_keeps 278 = .ok (.laload, 1) := by decide +kernel
theorem dX11_keeps_279 : decode cX11_keeps 279 = .ok (.lastore, 1) := by decide +kernel
theorem dX11_keeps_280 : decode cX11_keeps 280 = .ok (.aload_n 0, 1) := by decide +kernel
theorem dX11_keeps_281 : decode cX11_keeps 281 = .ok (.getfield 106, 3) := by decide +kernel
theorem dX11_keeps_284 : decode cX11_keeps 284 = .ok (.sipush 1200, 3) := by decide +kernel
theorem dX11_keeps_287 : decode cX11_keeps 287 = .ok (.iload_n 1, 1) := by decide +kernel
theorem dX11_keeps_288 : decode cX11_keeps 288 = .ok (.imul, 1) := by decide +kernel
theorem dX11_keeps_289 : decode cX11_keeps 289 = .ok (.iload_n 2, 1) := by decide +kernel
theorem dX11_keeps_290 : decode cX11_keeps 290 = .ok (.iadd, 1) := by decide +kernel
theorem dX11_keeps_291 : decode cX11_keeps 291 = .ok (.aload_n 0, 1) := by decide +kernel
theorem dX11_keeps_292 : decode cX11_keeps 292 = .ok (.getfield 53, 3) := by decide +kernel
theorem dX11_keeps_295 : decode cX11_keeps 295 = .ok (.iload_n 2, 1) := by decide +kernel
theorem dX11_keeps_296 : decode cX11_keeps 296 = .ok (.iaload, 1) := by decide +kernel
theorem dX11_keeps_297 : decode cX11_keeps 297 = .ok (.iastore, 1) := by decide +kernel
theorem dX11_keeps_298 : decode cX11_keeps 298 = .ok (.iinc 2 1, 3) := by decide +kernel
theorem dX11_keeps_301 : decode cX11_keeps 301 = .ok (.goto (-65), 3) := by decide +kernel
theorem dX11_keeps_304 : decode cX11_keeps 304 = .ok (.return_, 1) := by decide +kernel
theorem dX11_copies_0 : decode cX11_copies 0 = .ok (.bipush 30, 2) := by decide +kernel
theorem dX11_copies_2 : decode cX11_copies 2 = .ok (.iload_n 1, 1) := by decide +kernel
theorem dX11_copies_3 : decode cX11_copies 3 = .ok (.iadd, 1) := by decide +kernel
theorem dX11_copies_4 : decode cX11_copies 4 = .ok (.istore_n 2, 1) := by decide +kernel
theorem dX11_copies_5 : decode cX11_copies 5 = .ok (.aload_n 0, 1) := by decide +kernel
theorem dX11_copies_6 : decode cX11_copies 6 = .ok (.getfield 56, 3) := by decide +kernel
theorem dX11_copies_9 : decode cX11_copies 9 = .ok (.iload_n 2, 1) := by decide +kernel
theorem dX11_copies_10 : decode cX11_copies 10 = .ok (.iconst 1, 1) := by decide +kernel
theorem dX11_copies_11 : decode cX11_copies 11 = .ok (.bastore, 1) := by decide +kernel
theorem dX11_copies_12 : decode cX11_copies 12 = .ok (.aload_n 0, 1) := by decide +kernel
theorem dX11_copies_13 : decode cX11_copies 13 = .ok (.getfield 60, 3) := by decide +kernel
theorem dX11_copies_16 : decode cX11_copies 16 = .ok (.iload_n 2, 1) := by decide +kernel
theorem dX11_copies_17 : decode cX11_copies 17 = .ok (.aload_n 0, 1) := by decide +kernel
theorem dX11_copies_18 : decode cX11_copies 18 = .ok (.getfield 60, 3) := by decide +kernel
theorem dX11_copies_21 : decode cX11_copies 21 = .ok (.iload_n 1, 1) := by decide +kernel
theorem dX11_copies_22 : decode cX11_copies 22 = .ok (.iaload, 1) := by decide +kernel
theorem dX11_copies_23 : decode cX11_copies 23 = .ok (.iastore, 1) := by decide +kernel
theorem dX11_copies_24 : decode cX11_copies 24 = .ok (.aload_n 0, 1) := by decide +kernel
theorem dX11_copies_25 : decode cX11_copies 25 = .ok (.getfield 63, 3) := by decide +kernel
theorem dX11_copies_28 : decode cX11_copies 28 = .ok (.iload_n 2, 1) := by decide +kernel
theorem dX11_copies_29 : decode cX11_copies 29 = .ok (.aload_n 0, 1) := by decide +kernel
theorem dX11_copies_30 : decode cX11_copies 30 = .ok (.getfield 63, 3) := by decide +kernel
theorem dX11_copies_33 : decode cX11_copies 33 = .ok (.iload_n 1, 1) := by decide +kernel
theorem dX11_copies_34 : decode cX11_copies 34 = .ok (.iaload, 1) := by decide +kernel
theorem dX11_copies_35 : decode cX11_copies 35 = .ok (.iastore, 1) := by decide +kernel
theorem dX11_copies_36 : decode cX11_copies 36 = .ok (.aload_n 0, 1) := by decide +kernel
theorem dX11_copies_37 : decode cX11_copies 37 = .ok (.getfield 66, 3) := by decide +kernel
theorem dX11_copies_40 : decode cX11_copies 40 = .ok (.iload_n 2, 1) := by decide +kernel
theorem dX11_copies_41 : decode cX11_copies 41 = .ok (.aload_n 0, 1) := by decide +kernel
theorem dX11_copies_42 : decode cX11_copies 42 = .ok (.getfield 66, 3) := by decide +kernel
theorem dX11_copies_45 : decode cX11_copies 45 = .ok (.iload_n 1, 1) := by decide +kernel
theorem dX11_copies_46 : decode cX11_copies 46 = .ok (.iaload, 1) := by decide +kernel
theorem dX11_copies_47 : decode cX11_copies 47 = .ok (.iastore, 1) := by decide +kernel
theorem dX11_copies_48 : decode cX11_copies 48 = .ok (.aload_n 0, 1) := by decide +kernel
theorem dX11_copies_49 : decode cX11_copies 49 = .ok (.getfield 75, 3) := by decide +kernel
theorem dX11_copies_52 : decode cX11_copies 52 = .ok (.iload_n 2, 1) := by decide +kernel
theorem dX11_copies_53 : decode cX11_copies 53 = .ok (.aload_n 0, 1) := by decide +kernel
theorem dX11_copies_54 : decode cX11_copies 54 = .ok (.getfield 75, 3) := by decide +kernel
theorem dX11_copies_57 : decode cX11_copies 57 = .ok (.iload_n 1, 1) := by decide +kernel
theorem dX11_copies_58 : decode cX11_copies 58 = .ok (.iaload, 1) := by decide +kernel
theorem dX11_copies_59 : decode cX11_copies 59 = .ok (.iastore, 1) := by decide +kernel
theorem dX11_copies_60 : decode cX11_copies 60 = .ok (.aload_n 0, 1) := by decide +kernel
theorem dX11_copies_61 : decode cX11_copies 61 = .ok (.getfield 84, 3) := by decide +kernel
theorem dX11_copies_64 : decode cX11_copies 64 = .ok (.iload_n 2, 1) := by decide +kernel
theorem dX11_copies_65 : decode cX11_copies 65 = .ok (.aload_n 0, 1) := by decide +kernel
theorem dX11_copies_66 : decode cX11_copies 66 = .ok (.getfield 84, 3) := by decide +kernel
theorem dX11_copies_69 : decode cX11_copies 69 = .ok (.iload_n 1, 1) := by decide +kernel
theorem dX11_copies_70 : decode cX11_copies 70 = .ok (.iaload, 1) := by decide +kernel
theorem dX11_copies_71 : decode cX11_copies 71 = .ok (.iastore, 1) := by decide +kernel
theorem dX11_copies_72 : decode cX11_copies 72 = .ok (.aload_n 0, 1) := by decide +kernel
theorem dX11_copies_73 : decode cX11_copies 73 = .ok (.getfield 96, 3) := by decide +kernel
theorem dX11_copies_76 : decode cX11_copies 76 = .ok (.iload_n 2, 1) := by decide +kernel
theorem dX11_copies_77 : decode cX11_copies 77 = .ok (.aload_n 0, 1) := by decide +kernel
theorem dX11_copies_78 : decode cX11_copies 78 = .ok (.getfield 96, 3) := by decide +kernel
theorem dX11_copies_81 : decode cX11_copies 81 = .ok (.iload_n 1, 1) := by decide +kernel
theorem dX11_copies_82 : decode cX11_copies 82 = .ok (.iaload, 1) := by decide +kernel
theorem dX11_copies_83 : decode cX11_copies 83 = .ok (.iastore, 1) := by decide +kernel
theorem dX11_copies_84 : decode cX11_copies 84 = .ok (.iconst 0, 1) := by decide +kernel
theorem dX11_copies_85 : decode cX11_copies 85 = .ok (.istore_n 3, 1) := by decide +kernel
theorem dX11_copies_86 : decode cX11_copies 86 = .ok (.iload_n 3, 1) := by decide +kernel
theorem dX11_copies_87 : decode cX11_copies 87 = .ok (.bipush 8, 2) := by decide +kernel
theorem dX11_copies_89 : decode cX11_copies 89 = .ok (.if_icmp .ge 53, 3) := by decide +kernel
theorem dX11_copies_92 : decode cX11_copies 92 = .ok (.aload_n 0, 1) := by decide +kernel
theorem dX11_copies_93 : decode cX11_copies 93 = .ok (.getfield 69, 3) := by decide +kernel
theorem dX11_copies_96 : decode cX11_copies 96 = .ok (.bipush 8, 2) := by decide +kernel
theorem dX11_copies_98 : decode cX11_copies 98 = .ok (.iload_n 2, 1) := by decide +kernel
theorem dX11_copies_99 : decode cX11_copies 99 = .ok (.imul, 1) := by decide +kernel
theorem dX11_copies_100 : decode cX11_copies 100 = .ok (.iload_n 3, 1) := by decide +kernel
theorem dX11_copies_101 : decode cX11_copies 101 = .ok (.iadd, 1) := by decide +kernel
theorem dX11_copies_102 : decode cX11_copies 102 = .ok (.aload_n 0, 1) := by decide +kernel
theorem dX11_copies_103 : decode cX11_copies 103 = .ok (.getfield 69, 3) := by decide +kernel
theorem dX11_copies_106 : decode cX11_copies 106 = .ok (.bipush 8, 2) := by decide +kernel
theorem dX11_copies_108 : decode cX11_copies 108 = .ok (.iload_n 1, 1) := by decide +kernel
theorem dX11_copies_109 : decode cX11_copies 109 = .ok (.imul, 1) := by decide +kernel
theorem dX11_copies_110 : decode cX11_copies 110 = .ok (.iload_n 3, 1) := by decide +kernel
theorem dX11_copies_111 : decode cX11_copies 111 = .ok (.iadd, 1) := by decide +kernel
theorem dX11_copies_112 : decode cX11_copies 112 = .ok (.laload, 1) := by decide +kernel
theorem dX11_copies_113 : decode cX11_copies 113 = .ok (.lastore, 1) := by decide +kernel
theorem dX11_copies_114 : decode cX11_copies 114 = .ok (.aload_n 0, 1) := by decide +kernel
theorem dX11_copies_115 : decode cX11_copies 115 = .ok (.getfield 72, 3) := by decide +kernel
theorem dX11_copies_118 : decode cX11_copies 118 = .ok (.bipush 8, 2) := by decide +kernel
theorem dX11_copies_120 : decode cX11_copies 120 = .ok (.iload_n 2, 1) := by decide +kernel
theorem dX11_copies_121 : decode cX11_copies 121 = .ok (.imul, 1) := by decide +kernel
theorem dX11_copies_122 : decode cX11_copies 122 = .ok (.iload_n 3, 1) := by decide +kernel
theorem dX11_copies_123 : decode cX11_copies 123 = .ok (.iadd, 1) := by decide +kernel
theorem dX11_copies_124 : decode cX11_copies 124 = .ok (.aload_n 0, 1) := by decide +kernel
theorem dX11_copies_125 : decode cX11_copies 125 = .ok (.getfield 72, 3) := by decide +kernel
theorem dX11_copies_128 : decode cX11_copies 128 = .ok (.bipush 8, 2) := by decide +kernel
theorem dX11_copies_130 : decode cX11_copies 130 = .ok (.iload_n 1, 1) := by decide +kernel
