theorem dX11_copies_131 : decode cX11_copies 131 = .ok (.imul, 1) := by decide +kernel
theorem dX11_copies_132 : decode cX11_copies 132 = .ok (.iload_n 3, 1) := by decide +kernel
theorem dX11_copies_133 : decode cX11_copies 133 = .ok (.iadd, 1) := by decide +kernel
theorem dX11_copies_134 : decode cX11_copies 134 = .ok (.iaload, 1) := by decide +kernel
theorem dX11_copies_135 : decode cX11_copies 135 = .ok (.iastore, 1) := by decide +kernel
theorem dX11_copies_136 : decode cX11_copies 136 = .ok (.iinc 3 1, 3) := by decide +kernel
theorem dX11_copies_139 : decode cX11_copies 139 = .ok (.goto (-53), 3) := by decide +kernel
theorem dX11_copies_142 : decode cX11_copies 142 = .ok (.iconst 0, 1) := by decide +kernel
theorem dX11_copies_143 : decode cX11_copies 143 = .ok (.istore_n 3, 1) := by decide +kernel
theorem dX11_copies_144 : decode cX11_copies 144 = .ok (.iload_n 3, 1) := by decide +kernel
theorem dX11_copies_145 : decode cX11_copies 145 = .ok (.bipush 6, 2) := by decide +kernel
theorem dX11_copies_147 : decode cX11_copies 147 = .ok (.if_icmp .ge 53, 3) := by decide +kernel
theorem dX11_copies_150 : decode cX11_copies 150 = .ok (.aload_n 0, 1) := by decide +kernel
theorem dX11_copies_151 : decode cX11_copies 151 = .ok (.getfield 78, 3) := by decide +kernel
theorem dX11_copies_154 : decode cX11_copies 154 = .ok (.bipush 6, 2) := by decide +kernel
theorem dX11_copies_156 : decode cX11_copies 156 = .ok (.iload_n 2, 1) := by decide +kernel
theorem dX11_copies_157 : decode cX11_copies 157 = .ok (.imul, 1) := by decide +kernel
theorem dX11_copies_158 : decode cX11_copies 158 = .ok (.iload_n 3, 1) := by decide +kernel
theorem dX11_copies_159 : decode cX11_copies 159 = .ok (.iadd, 1) := by decide +kernel
theorem dX11_copies_160 : decode cX11_copies 160 = .ok (.aload_n 0, 1) := by decide +kernel
theorem dX11_copies_161 : decode cX11_copies 161 = .ok (.getfield 78, 3) := by decide +kernel
theorem dX11_copies_164 : decode cX11_copies 164 = .ok (.bipush 6, 2) := by decide +kernel
theorem dX11_copies_166 : decode cX11_copies 166 = .ok (.iload_n 1, 1) := by decide +kernel
theorem dX11_copies_167 : decode cX11_copies 167 = .ok (.imul, 1) := by decide +kernel
theorem dX11_copies_168 : decode cX11_copies 168 = .ok (.iload_n 3, 1) := by decide +kernel
theorem dX11_copies_169 : decode cX11_copies 169 = .ok (.iadd, 1) := by decide +kernel
theorem dX11_copies_170 : decode cX11_copies 170 = .ok (.laload, 1) := by decide +kernel
theorem dX11_copies_171 : decode cX11_copies 171 = .ok (.lastore, 1) := by decide +kernel
theorem dX11_copies_172 : decode cX11_copies 172 = .ok (.aload_n 0, 1) := by decide +kernel
theorem dX11_copies_173 : decode cX11_copies 173 = .ok (.getfield 81, 3) := by decide +kernel
theorem dX11_copies_176 : decode cX11_copies 176 = .ok (.bipush 6, 2) := by decide +kernel
theorem dX11_copies_178 : decode cX11_copies 178 = .ok (.iload_n 2, 1) := by decide +kernel
theorem dX11_copies_179 : decode cX11_copies 179 = .ok (.imul, 1) := by decide +kernel
theorem dX11_copies_180 : decode cX11_copies 180 = .ok (.iload_n 3, 1) := by decide +kernel
theorem dX11_copies_181 : decode cX11_copies 181 = .ok (.iadd, 1) := by decide +kernel
theorem dX11_copies_182 : decode cX11_copies 182 = .ok (.aload_n 0, 1) := by decide +kernel
theorem dX11_copies_183 : decode cX11_copies 183 = .ok (.getfield 81, 3) := by decide +kernel
theorem dX11_copies_186 : decode cX11_copies 186 = .ok (.bipush 6, 2) := by decide +kernel
theorem dX11_copies_188 : decode cX11_copies 188 = .ok (.iload_n 1, 1) := by decide +kernel
theorem dX11_copies_189 : decode cX11_copies 189 = .ok (.imul, 1) := by decide +kernel
theorem dX11_copies_190 : decode cX11_copies 190 = .ok (.iload_n 3, 1) := by decide +kernel
theorem dX11_copies_191 : decode cX11_copies 191 = .ok (.iadd, 1) := by decide +kernel
theorem dX11_copies_192 : decode cX11_copies 192 = .ok (.iaload, 1) := by decide +kernel
theorem dX11_copies_193 : decode cX11_copies 193 = .ok (.iastore, 1) := by decide +kernel
theorem dX11_copies_194 : decode cX11_copies 194 = .ok (.iinc 3 1, 3) := by decide +kernel
theorem dX11_copies_197 : decode cX11_copies 197 = .ok (.goto (-53), 3) := by decide +kernel
theorem dX11_copies_200 : decode cX11_copies 200 = .ok (.iconst 0, 1) := by decide +kernel
theorem dX11_copies_201 : decode cX11_copies 201 = .ok (.istore_n 3, 1) := by decide +kernel
theorem dX11_copies_202 : decode cX11_copies 202 = .ok (.iload_n 3, 1) := by decide +kernel
theorem dX11_copies_203 : decode cX11_copies 203 = .ok (.bipush 120, 2) := by decide +kernel
theorem dX11_copies_205 : decode cX11_copies 205 = .ok (.if_icmp .ge 75, 3) := by decide +kernel
theorem dX11_copies_208 : decode cX11_copies 208 = .ok (.aload_n 0, 1) := by decide +kernel
theorem dX11_copies_209 : decode cX11_copies 209 = .ok (.getfield 87, 3) := by decide +kernel
theorem dX11_copies_212 : decode cX11_copies 212 = .ok (.bipush 120, 2) := by decide +kernel
theorem dX11_copies_214 : decode cX11_copies 214 = .ok (.iload_n 2, 1) := by decide +kernel
theorem dX11_copies_215 : decode cX11_copies 215 = .ok (.imul, 1) := by decide +kernel
theorem dX11_copies_216 : decode cX11_copies 216 = .ok (.iload_n 3, 1) := by decide +kernel
theorem dX11_copies_217 : decode cX11_copies 217 = .ok (.iadd, 1) := by decide +kernel
theorem dX11_copies_218 : decode cX11_copies 218 = .ok (.aload_n 0, 1) := by decide +kernel
theorem dX11_copies_219 : decode cX11_copies 219 = .ok (.getfield 87, 3) := by decide +kernel
theorem dX11_copies_222 : decode cX11_copies 222 = .ok (.bipush 120, 2) := by decide +kernel
theorem dX11_copies_224 : decode cX11_copies 224 = .ok (.iload_n 1, 1) := by decide +kernel
theorem dX11_copies_225 : decode cX11_copies 225 = .ok (.imul, 1) := by decide +kernel
theorem dX11_copies_226 : decode cX11_copies 226 = .ok (.iload_n 3, 1) := by decide +kernel
theorem dX11_copies_227 : decode cX11_copies 227 = .ok (.iadd, 1) := by decide +kernel
theorem dX11_copies_228 : decode cX11_copies 228 = .ok (.iaload, 1) := by decide +kernel
theorem dX11_copies_229 : decode cX11_copies 229 = .ok (.iastore, 1) := by decide +kernel
theorem dX11_copies_230 : decode cX11_copies 230 = .ok (.aload_n 0, 1) := by decide +kernel
theorem dX11_copies_231 : decode cX11_copies 231 = .ok (.getfield 90, 3) := by decide +kernel
theorem dX11_copies_234 : decode cX11_copies 234 = .ok (.bipush 120, 2) := by decide +kernel
theorem dX11_copies_236 : decode cX11_copies 236 = .ok (.iload_n 2, 1) := by decide +kernel
theorem dX11_copies_237 : decode cX11_copies 237 = .ok (.imul, 1) := by decide +kernel
theorem dX11_copies_238 : decode cX11_copies 238 = .ok (.iload_n 3, 1) := by decide +kernel
theorem dX11_copies_239 : decode cX11_copies 239 = .ok (.iadd, 1) := by decide +kernel
theorem dX11_copies_240 : decode cX11_copies 240 = .ok (.aload_n 0, 1) := by decide +kernel
theorem dX11_copies_241 : decode cX11_copies 241 = .ok (.getfield 90, 3) := by decide +kernel
theorem dX11_copies_244 : decode cX11_copies 244 = .ok (.bipush 120, 2) := by decide +kernel
theorem dX11_copies_246 : decode cX11_copies 246 = .ok (.iload_n 1, 1) := by decide +kernel
theorem dX11_copies_247 : decode cX11_copies 247 = .ok (.imul, 1) := by decide +kernel
theorem dX11_copies_248 : decode cX11_copies 248 = .ok (.iload_n 3, 1) := by decide +kernel
theorem dX11_copies_249 : decode cX11_copies 249 = .ok (.iadd, 1) := by decide +kernel
theorem dX11_copies_250 : decode cX11_copies 250 = .ok (.iaload, 1) := by decide +kernel
theorem dX11_copies_251 : decode cX11_copies 251 = .ok (.iastore, 1) := by decide +kernel
theorem dX11_copies_252 : decode cX11_copies 252 = .ok (.aload_n 0, 1) := by decide +kernel
theorem dX11_copies_253 : decode cX11_copies 253 = .ok (.getfield 93, 3) := by decide +kernel
theorem dX11_copies_256 : decode cX11_copies 256 = .ok (.bipush 120, 2) := by decide +kernel
theorem dX11_copies_258 : decode cX11_copies 258 = .ok (.iload_n 2, 1) := by decide +kernel
theorem dX11_copies_259 : decode cX11_copies 259 = .ok (.imul, 1) := by decide +kernel
theorem dX11_copies_260 : decode cX11_copies 260 = .ok (.iload_n 3, 1) := by decide +kernel
theorem dX11_copies_261 : decode cX11_copies 261 = .ok (.iadd, 1) := by decide +kernel
theorem dX11_copies_262 : decode cX11_copies 262 = .ok (.aload_n 0, 1) := by decide +kernel
theorem dX11_copies_263 : decode cX11_copies 263 = .ok (.getfield 93, 3) := by decide +kernel
theorem dX11_copies_266 : decode cX11_copies 266 = .ok (.bipush 120, 2) := by decide +kernel
theorem dX11_copies_268 : decode cX11_copies 268 = .ok (.iload_n 1, 1) := by decide +kernel
theorem dX11_copies_269 : decode cX11_copies 269 = .ok (.imul, 1) := by decide +kernel
theorem dX11_copies_270 : decode cX11_copies 270 = .ok (.iload_n 3, 1) := by decide +kernel
theorem dX11_copies_271 : decode cX11_copies 271 = .ok (.iadd, 1) := by decide +kernel
theorem dX11_copies_272 : decode cX11_copies 272 = .ok (.iaload, 1) := by decide +kernel
theorem dX11_copies_273 : decode cX11_copies 273 = .ok (.iastore, 1) := by decide +kernel
theorem dX11_copies_274 : decode cX11_copies 274 = .ok (.iinc 3 1, 3) := by decide +kernel
theorem dX11_copies_277 : decode cX11_copies 277 = .ok (.goto (-75), 3) := by decide +kernel
theorem dX11_copies_280 : decode cX11_copies 280 = .ok (.iconst 0, 1) := by decide +kernel
theorem dX11_copies_281 : decode cX11_copies 281 = .ok (.istore_n 3, 1) := by decide +kernel
theorem dX11_copies_282 : decode cX11_copies 282 = .ok (.iload_n 3, 1) := by decide +kernel
theorem dX11_copies_283 : decode cX11_copies 283 = .ok (.sipush 1200, 3) := by decide +kernel
theorem dX11_copies_286 : decode cX11_copies 286 = .ok (.if_icmp .ge 81, 3) := by decide +kernel
theorem dX11_copies_289 : decode cX11_copies 289 = .ok (.aload_n 0, 1) := by decide +kernel
theorem dX11_copies_290 : decode cX11_copies 290 = .ok (.getfield 100, 3) := by decide +kernel
theorem dX11_copies_293 : decode cX11_copies 293 = .ok (.sipush 1200, 3) := by decide +kernel
theorem dX11_copies_296 : decode cX11_copies 296 = .ok (.iload_n 2, 1) := by decide +kernel
theorem dX11_copies_297 : decode cX11_copies 297 = .ok (.imul, 1) := by decide +kernel
theorem dX11_copies_298 : decode cX11_copies 298 = .ok (.iload_n 3, 1) := by decide +kernel
theorem dX11_copies_299 : decode cX11_copies 299 = .ok (.iadd, 1) := by decide +kernel
theorem dX11_copies_300 : decode cX11_copies 300 = .ok (.aload_n 0, 1) := by decide +kernel
theorem dX11_copies_301 : decode cX11_copies 301 = .ok (.getfield 100, 3) := by decide +kernel
theorem dX11_copies_304 : decode cX11_copies 304 = .ok (.sipush 1200, 3) := by decide +kernel
theorem dX11_copies_307 : decode cX11_copies 307 = .ok (.iload_n 1, 1) := by decide +kernel
theorem dX11_copies_308 : decode cX11_copies 308 = .ok (.imul, 1) := by decide +kernel
theorem dX11_copies_309 : decode cX11_copies 309 = .ok (.iload_n 3, 1) := by decide +kernel
theorem dX11_copies_310 : decode cX11_copies 310 = .ok (.iadd, 1) := by decide +kernel
theorem dX11_copies_311 : decode cX11_copies 311 = .ok (.iaload, 1) := by decide +kernel
theorem dX11_copies_312 : decode cX11_copies 312 = .ok (.iastore, 1) := by decide +kernel
theorem dX11_copies_313 : decode cX11_copies 313 = .ok (.aload_n 0, 1) := by decide +kernel
theorem dX11_copies_314 : decode cX11_copies 314 = .ok (.getfield 103, 3) := by decide +kernel
theorem dX11_copies_317 : decode cX11_copies 317 = .ok (.sipush 1200, 3) := by decide +kernel
theorem dX11_copies_320 : decode cX11_copies 320 = .ok (.iload_n 2, 1) := by decide +kernel
theorem dX11_copies_321 : decode cX11_copies 321 = .ok (.imul, 1) := by decide +kernel
theorem dX11_copies_322 : decode cX11_copies 322 = .ok (.iload_n 3, 1) := by decide +kernel
theorem dX11_copies_323 : decode cX11_copies 323 = .ok (.iadd, 1) := by decide +kernel
theorem dX11_copies_324 : decode cX11_copies 324 = .ok (.aload_n 0, 1) := by decide +kernel
theorem dX11_copies_325 : decode cX11_copies 325 = .ok (.getfield 103, 3) := by decide +kernel
theorem dX11_copies_328 : decode cX11_copies 328 = .ok (.sipush 1200, 3) := by decide +kernel
theorem dX11_copies_331 : decode cX11_copies 331 = .ok (.iload_n 1, 1) := by decide +kernel
theorem dX11_copies_332 : decode cX11_copies 332 = .ok (.imul, 1) := by decide +kernel
theorem dX11_copies_333 : decode cX11_copies 333 = .ok (.iload_n 3, 1) := by decide +kernel
theorem dX11_copies_334 : decode cX11_copies 334 = .ok (.iadd, 1) := by decide +kernel
theorem dX11_copies_335 : decode cX11_copies 335 = .ok (.laload, 1) := by decide +kernel
theorem dX11_copies_336 : decode cX11_copies 336 = .ok (.lastore, 1) := by decide +kernel
theorem dX11_copies_337 : decode cX11_copies 337 = .ok (.aload_n 0, 1) := by decide +kernel
theorem dX11_copies_338 : decode cX11_copies 338 = .ok (.getfield 106, 3) := by decide +kernel
theorem dX11_copies_341 : decode cX11_copies 341 = .ok (.sipush 1200, 3) := by decide +kernel
theorem dX11_copies_344 : decode cX11_copies 344 = .ok (.iload_n 2, 1) := by decide +kernel
theorem dX11_copies_345 : decode cX11_copies 345 = .ok (.imul, 1) := by decide +kernel
theorem dX11_copies_346 : decode cX11_copies 346 = .ok (.iload_n 3, 1) := by decide +kernel
theorem dX11_copies_347 : decode cX11_copies 347 = .ok (.iadd, 1) := by decide +kernel
theorem dX11_copies_348 : decode cX11_copies 348 = .ok (.aload_n 0, 1) := by decide +kernel
theorem dX11_copies_349 : decode cX11_copies 349 = .ok (.getfield 106, 3) := by decide +kernel
theorem dX11_copies_352 : decode cX11_copies 352 = .ok (.sipush 1200, 3) := by decide +kernel
theorem dX11_copies_355 : decode cX11_copies 355 = .ok (.iload_n 1, 1) := by decide +kernel
theorem dX11_copies_356 : decode cX11_copies 356 = .ok (.imul, 1) := by decide +kernel
theorem dX11_copies_357 : decode cX11_copies 357 = .ok (.iload_n 3, 1) := by decide +kernel
theorem dX11_copies_358 : decode cX11_copies 358 = .ok (.iadd, 1) := by decide +kernel
theorem dX11_copies_359 : decode cX11_copies 359 = .ok (.iaload, 1) := by decide +kernel
theorem dX11_copies_360 : decode cX11_copies 360 = .ok (.iastore, 1) := by decide +kernel
theorem dX11_copies_361 : decode cX11_copies 361 = .ok (.iinc 3 1, 3) := by decide +kernel
theorem dX11_copies_364 : decode cX11_copies 364 = .ok (.goto (-82), 3) := by decide +kernel
theorem dX11_copies_367 : decode cX11_copies 367 = .ok (.return_, 1) := by decide +kernel
theorem dX11_isIn_0 : decode cX11_isIn 0 = .ok (.iload_n 0, 1) := by decide +kernel
theorem dX11_isIn_1 : decode cX11_isIn 1 = .ok (.ifCond .lt 12, 3) := by decide +kernel
theorem dX11_isIn_4 : decode cX11_isIn 4 = .ok (.iload_n 0, 1) := by decide +kernel
theorem dX11_isIn_5 : decode cX11_isIn 5 = .ok (.iload_n 1, 1) := by decide +kernel
theorem dX11_isIn_6 : decode cX11_isIn 6 = .ok (.if_icmp .ge 7, 3) := by decide +kernel
theorem dX11_isIn_9 : decode cX11_isIn 9 = .ok (.iconst 1, 1) := by decide +kernel
theorem dX11_isIn_10 : decode cX11_isIn 10 = .ok (.goto 4, 3) := by decide +kernel
theorem dX11_isIn_13 : decode cX11_isIn 13 = .ok (.iconst 0, 1) := by decide +kernel
theorem dX11_isIn_14 : decode cX11_isIn 14 = .ok (.ireturn, 1) := by decide +kernel
theorem dX11_isYear_0 : decode cX11_isYear 0 = .ok (.iload_n 0, 1) := by decide +kernel
theorem dX11_isYear_1 : decode cX11_isYear 1 = .ok (.sipush 1700, 3) := by decide +kernel
theorem dX11_isYear_4 : decode cX11_isYear 4 = .ok (.if_icmp .lt 14, 3) := by decide +kernel
theorem dX11_isYear_7 : decode cX11_isYear 7 = .ok (.iload_n 0, 1) := by decide +kernel
theorem dX11_isYear_8 : decode cX11_isYear 8 = .ok (.sipush 1730, 3) := by decide +kernel
theorem dX11_isYear_11 : decode cX11_isYear 11 = .ok (.if_icmp .ge 7, 3) := by decide +kernel
theorem dX11_isYear_14 : decode cX11_isYear 14 = .ok (.iconst 1, 1) := by decide +kernel
theorem dX11_isYear_15 : decode cX11_isYear 15 = .ok (.goto 4, 3) := by decide +kernel
theorem dX11_isYear_18 : decode cX11_isYear 18 = .ok (.iconst 0, 1) := by decide +kernel
theorem dX11_isYear_19 : decode cX11_isYear 19 = .ok (.ireturn, 1) := by decide +kernel
theorem dX11_sheet_0 : decode cX11_sheet 0 = .ok (.iload_n 1, 1) := by decide +kernel
theorem dX11_sheet_1 : decode cX11_sheet 1 = .ok (.invokestatic 360, 3) := by decide +kernel
theorem dX11_sheet_4 : decode cX11_sheet 4 = .ok (.ifCond .ne 6, 3) := by decide +kernel
theorem dX11_sheet_7 : decode cX11_sheet 7 = .ok (.bipush (-2), 2) := by decide +kernel
theorem dX11_sheet_9 : decode cX11_sheet 9 = .ok (.ireturn, 1) := by decide +kernel
theorem dX11_sheet_10 : decode cX11_sheet 10 = .ok (.aload_n 0, 1) := by decide +kernel
theorem dX11_sheet_11 : decode cX11_sheet 11 = .ok (.aload_n 0, 1) := by decide +kernel
theorem dX11_sheet_12 : decode cX11_sheet 12 = .ok (.getfield 172, 3) := by decide +kernel
theorem dX11_sheet_15 : decode cX11_sheet 15 = .ok (.putfield 175, 3) := by decide +kernel
theorem dX11_sheet_18 : decode cX11_sheet 18 = .ok (.aload_n 0, 1) := by decide +kernel
theorem dX11_sheet_19 : decode cX11_sheet 19 = .ok (.iconst 0, 1) := by decide +kernel
theorem dX11_sheet_20 : decode cX11_sheet 20 = .ok (.putfield 172, 3) := by decide +kernel
theorem dX11_sheet_23 : decode cX11_sheet 23 = .ok (.aload_n 0, 1) := by decide +kernel
theorem dX11_sheet_24 : decode cX11_sheet 24 = .ok (.iload_n 1, 1) := by decide +kernel
theorem dX11_sheet_25 : decode cX11_sheet 25 = .ok (.sipush 1700, 3) := by decide +kernel
theorem dX11_sheet_28 : decode cX11_sheet 28 = .ok (.isub, 1) := by decide +kernel
theorem dX11_sheet_29 : decode cX11_sheet 29 = .ok (.putfield 234, 3) := by decide +kernel
theorem dX11_sheet_32 : decode cX11_sheet 32 = .ok (.aload_n 0, 1) := by decide +kernel
theorem dX11_sheet_33 : decode cX11_sheet 33 = .ok (.invokevirtual 363, 3) := by decide +kernel
theorem dX11_sheet_36 : decode cX11_sheet 36 = .ok (.aload_n 0, 1) := by decide +kernel
theorem dX11_sheet_37 : decode cX11_sheet 37 = .ok (.getfield 219, 3) := by decide +kernel
theorem dX11_sheet_40 : decode cX11_sheet 40 = .ok (.ifCond .eq 5, 3) := by decide +kernel
theorem dX11_sheet_43 : decode cX11_sheet 43 = .ok (.iconst (-1), 1) := by decide +kernel
theorem dX11_sheet_44 : decode cX11_sheet 44 = .ok (.ireturn, 1) := by decide +kernel
theorem dX11_sheet_45 : decode cX11_sheet 45 = .ok (.aload_n 0, 1) := by decide +kernel
theorem dX11_sheet_46 : decode cX11_sheet 46 = .ok (.aload_n 0, 1) := by decide +kernel
theorem dX11_sheet_47 : decode cX11_sheet 47 = .ok (.getfield 234, 3) := by decide +kernel
theorem dX11_sheet_50 : decode cX11_sheet 50 = .ok (.invokevirtual 366, 3) := by decide +kernel
theorem dX11_sheet_53 : decode cX11_sheet 53 = .ok (.aload_n 0, 1) := by decide +kernel
theorem dX11_sheet_54 : decode cX11_sheet 54 = .ok (.getfield 109, 3) := by decide +kernel
theorem dX11_sheet_57 : decode cX11_sheet 57 = .ok (.aload_n 0, 1) := by decide +kernel
theorem dX11_sheet_58 : decode cX11_sheet 58 = .ok (.getfield 234, 3) := by decide +kernel
theorem dX11_sheet_61 : decode cX11_sheet 61 = .ok (.iconst 1, 1) := by decide +kernel
theorem dX11_sheet_62 : decode cX11_sheet 62 = .ok (.bastore, 1) := by decide +kernel
theorem dX11_sheet_63 : decode cX11_sheet 63 = .ok (.aload_n 0, 1) := by decide +kernel
theorem dX11_sheet_64 : decode cX11_sheet 64 = .ok (.getfield 333, 3) := by decide +kernel
theorem dX11_sheet_67 : decode cX11_sheet 67 = .ok (.ireturn, 1) := by decide +kernel
theorem dX11_fault_0 : decode cX11_fault 0 = .ok (.iload_n 1, 1) := by decide +kernel
theorem dX11_fault_1 : decode cX11_fault 1 = .ok (.ifCond .ne 10, 3) := by decide +kernel
theorem dX11_fault_4 : decode cX11_fault 4 = .ok (.aload_n 0, 1) := by decide +kernel
theorem dX11_fault_5 : decode cX11_fault 5 = .ok (.getfield 219, 3) := by decide +kernel
theorem dX11_fault_8 : decode cX11_fault 8 = .ok (.goto 16, 3) := by decide +kernel
theorem dX11_fault_11 : decode cX11_fault 11 = .ok (.iload_n 1, 1) := by decide +kernel
theorem dX11_fault_12 : decode cX11_fault 12 = .ok (.iconst 1, 1) := by decide +kernel
theorem dX11_fault_13 : decode cX11_fault 13 = .ok (.if_icmp .ne 10, 3) := by decide +kernel
theorem dX11_fault_16 : decode cX11_fault 16 = .ok (.aload_n 0, 1) := by decide +kernel
theorem dX11_fault_17 : decode cX11_fault 17 = .ok (.getfield 13, 3) := by decide +kernel
theorem dX11_fault_20 : decode cX11_fault 20 = .ok (.goto 4, 3) := by decide +kernel
theorem dX11_fault_23 : decode cX11_fault 23 = .ok (.iconst (-1), 1) := by decide +kernel
theorem dX11_fault_24 : decode cX11_fault 24 = .ok (.ireturn, 1) := by decide +kernel
theorem dX11_forget_0 : decode cX11_forget 0 = .ok (.iload_n 1, 1) := by decide +kernel
theorem dX11_forget_1 : decode cX11_forget 1 = .ok (.invokestatic 360, 3) := by decide +kernel
theorem dX11_forget_4 : decode cX11_forget 4 = .ok (.ifCond .eq 16, 3) := by decide +kernel
theorem dX11_forget_7 : decode cX11_forget 7 = .ok (.aload_n 0, 1) := by decide +kernel
theorem dX11_forget_8 : decode cX11_forget 8 = .ok (.getfield 56, 3) := by decide +kernel
theorem dX11_forget_11 : decode cX11_forget 11 = .ok (.iload_n 1, 1) := by decide +kernel
theorem dX11_forget_12 : decode cX11_forget 12 = .ok (.sipush 1700, 3) := by decide +kernel
theorem dX11_forget_15 : decode cX11_forget 15 = .ok (.isub, 1) := by decide +kernel
theorem dX11_forget_16 : decode cX11_forget 16 = .ok (.baload, 1) := by decide +kernel
theorem dX11_forget_17 : decode cX11_forget 17 = .ok (.ifCond .ne 5, 3) := by decide +kernel
theorem dX11_forget_20 : decode cX11_forget 20 = .ok (.iconst 0, 1) := by decide +kernel
theorem dX11_forget_21 : decode cX11_forget 21 = .ok (.ireturn, 1) := by decide +kernel
theorem dX11_forget_22 : decode cX11_forget 22 = .ok (.aload_n 0, 1) := by decide +kernel
theorem dX11_forget_23 : decode cX11_forget 23 = .ok (.getfield 56, 3) := by decide +kernel
theorem dX11_forget_26 : decode cX11_forget 26 = .ok (.iload_n 1, 1) := by decide +kernel
theorem dX11_forget_27 : decode cX11_forget 27 = .ok (.sipush 1700, 3) := by decide +kernel
theorem dX11_forget_30 : decode cX11_forget 30 = .ok (.isub, 1) := by decide +kernel
theorem dX11_forget_31 : decode cX11_forget 31 = .ok (.iconst 0, 1) := by decide +kernel
theorem dX11_forget_32 : decode cX11_forget 32 = .ok (.bastore, 1) := by decide +kernel
theorem dX11_forget_33 : decode cX11_forget 33 = .ok (.aload_n 0, 1) := by decide +kernel
theorem dX11_forget_34 : decode cX11_forget 34 = .ok (.getfield 109, 3) := by decide +kernel
theorem dX11_forget_37 : decode cX11_forget 37 = .ok (.iload_n 1, 1) := by decide +kernel
theorem dX11_forget_38 : decode cX11_forget 38 = .ok (.sipush 1700, 3) := by decide +kernel
theorem dX11_forget_41 : decode cX11_forget 41 = .ok (.isub, 1) := by decide +kernel
theorem dX11_forget_42 : decode cX11_forget 42 = .ok (.iconst 1, 1) := by decide +kernel
theorem dX11_forget_43 : decode cX11_forget 43 = .ok (.bastore, 1) := by decide +kernel
theorem dX11_forget_44 : decode cX11_forget 44 = .ok (.iconst 1, 1) := by decide +kernel
theorem dX11_forget_45 : decode cX11_forget 45 = .ok (.ireturn, 1) := by decide +kernel
theorem dX11_issue_0 : decode cX11_issue 0 = .ok (.iconst 0, 1) := by decide +kernel
theorem dX11_issue_1 : decode cX11_issue 1 = .ok (.istore_n 1, 1) := by decide +kernel
theorem dX11_issue_2 : decode cX11_issue 2 = .ok (.iconst 0, 1) := by decide +kernel
theorem dX11_issue_3 : decode cX11_issue 3 = .ok (.istore_n 2, 1) := by decide +kernel
theorem dX11_issue_4 : decode cX11_issue 4 = .ok (.iload_n 2, 1) := by decide +kernel
theorem dX11_issue_5 : decode cX11_issue 5 = .ok (.bipush 30, 2) := by decide +kernel
theorem dX11_issue_7 : decode cX11_issue 7 = .ok (.if_icmp .ge 28, 3) := by decide +kernel
theorem dX11_issue_10 : decode cX11_issue 10 = .ok (.iload_n 1, 1) := by decide +kernel
theorem dX11_issue_11 : decode cX11_issue 11 = .ok (.aload_n 0, 1) := by decide +kernel
theorem dX11_issue_12 : decode cX11_issue 12 = .ok (.getfield 109, 3) := by decide +kernel
theorem dX11_issue_15 : decode cX11_issue 15 = .ok (.iload_n 2, 1) := by decide +kernel
theorem dX11_issue_16 : decode cX11_issue 16 = .ok (.baload, 1) := by decide +kernel
theorem dX11_issue_17 : decode cX11_issue 17 = .ok (.ifCond .eq 9, 3) := by decide +kernel
theorem dX11_issue_20 : decode cX11_issue 20 = .ok (.iconst 1, 1) := by decide +kernel
theorem dX11_issue_21 : decode cX11_issue 21 = .ok (.iload_n 2, 1) := by decide +kernel
theorem dX11_issue_22 : decode cX11_issue 22 = .ok (.ishl, 1) := by decide +kernel
theorem dX11_issue_23 : decode cX11_issue 23 = .ok (.goto 4, 3) := by decide +kernel
theorem dX11_issue_26 : decode cX11_issue 26 = .ok (.iconst 0, 1) := by decide +kernel
theorem dX11_issue_27 : decode cX11_issue 27 = .ok (.ior, 1) := by decide +kernel
theorem dX11_issue_28 : decode cX11_issue 28 = .ok (.istore_n 1, 1) := by decide +kernel
theorem dX11_issue_29 : decode cX11_issue 29 = .ok (.iinc 2 1, 3) := by decide +kernel
theorem dX11_issue_32 : decode cX11_issue 32 = .ok (.goto (-28), 3) := by decide +kernel
theorem dX11_issue_35 : decode cX11_issue 35 = .ok (.iconst 0, 1) := by decide +kernel
theorem dX11_issue_36 : decode cX11_issue 36 = .ok (.istore_n 2, 1) := by decide +kernel
theorem dX11_issue_37 : decode cX11_issue 37 = .ok (.iload_n 2, 1) := by decide +kernel
theorem dX11_issue_38 : decode cX11_issue 38 = .ok (.bipush 30, 2) := by decide +kernel
theorem dX11_issue_40 : decode cX11_issue 40 = .ok (.if_icmp .ge 49, 3) := by decide +kernel
theorem dX11_issue_43 : decode cX11_issue 43 = .ok (.iconst 0, 1) := by decide +kernel
theorem dX11_issue_44 : decode cX11_issue 44 = .ok (.istore_n 3, 1) := by decide +kernel
theorem dX11_issue_45 : decode cX11_issue 45 = .ok (.iload_n 3, 1) := by decide +kernel
theorem dX11_issue_46 : decode cX11_issue 46 = .ok (.bipush 30, 2) := by decide +kernel
theorem dX11_issue_48 : decode cX11_issue 48 = .ok (.if_icmp .ge 35, 3) := by decide +kernel
theorem dX11_issue_51 : decode cX11_issue 51 = .ok (.aload_n 0, 1) := by decide +kernel
theorem dX11_issue_52 : decode cX11_issue 52 = .ok (.getfield 56, 3) := by decide +kernel
theorem dX11_issue_55 : decode cX11_issue 55 = .ok (.iload_n 3, 1) := by decide +kernel
theorem dX11_issue_56 : decode cX11_issue 56 = .ok (.baload, 1) := by decide +kernel
theorem dX11_issue_57 : decode cX11_issue 57 = .ok (.ifCond .eq 20, 3) := by decide +kernel
theorem dX11_issue_60 : decode cX11_issue 60 = .ok (.aload_n 0, 1) := by decide +kernel
theorem dX11_issue_61 : decode cX11_issue 61 = .ok (.getfield 63, 3) := by decide +kernel
theorem dX11_issue_64 : decode cX11_issue 64 = .ok (.iload_n 3, 1) := by decide +kernel
theorem dX11_issue_65 : decode cX11_issue 65 = .ok (.iaload, 1) := by decide +kernel
theorem dX11_issue_66 : decode cX11_issue 66 = .ok (.iload_n 1, 1) := by decide +kernel
theorem dX11_issue_67 : decode cX11_issue 67 = .ok (.iand, 1) := by decide +kernel
theorem dX11_issue_68 : decode cX11_issue 68 = .ok (.ifCond .eq 9, 3) := by decide +kernel
theorem dX11_issue_71 : decode cX11_issue 71 = .ok (.iload_n 1, 1) := by decide +kernel
theorem dX11_issue_72 : decode cX11_issue 72 = .ok (.iconst 1, 1) := by decide +kernel
theorem dX11_issue_73 : decode cX11_issue 73 = .ok (.iload_n 3, 1) := by decide +kernel
theorem dX11_issue_74 : decode cX11_issue 74 = .ok (.ishl, 1) := by decide +kernel
theorem dX11_issue_75 : decode cX11_issue 75 = .ok (.ior, 1) := by decide +kernel
theorem dX11_issue_76 : decode cX11_issue 76 = .ok (.istore_n 1, 1) := by decide +kernel
theorem dX11_issue_77 : decode cX11_issue 77 = .ok (.iinc 3 1, 3) := by decide +kernel
theorem dX11_issue_80 : decode cX11_issue 80 = .ok (.goto (-35), 3) := by decide +kernel
theorem dX11_issue_83 : decode cX11_issue 83 = .ok (.iinc 2 1, 3) := by decide +kernel
theorem dX11_issue_86 : decode cX11_issue 86 = .ok (.goto (-49), 3) := by decide +kernel
theorem dX11_issue_89 : decode cX11_issue 89 = .ok (.aload_n 0, 1) := by decide +kernel
theorem dX11_issue_90 : decode cX11_issue 90 = .ok (.dup, 1) := by decide +kernel
theorem dX11_issue_91 : decode cX11_issue 91 = .ok (.getfield 369, 3) := by decide +kernel
theorem dX11_issue_94 : decode cX11_issue 94 = .ok (.iconst 1, 1) := by decide +kernel
theorem dX11_issue_95 : decode cX11_issue 95 = .ok (.iadd, 1) := by decide +kernel
theorem dX11_issue_96 : decode cX11_issue 96 = .ok (.putfield 369, 3) := by decide +kernel
theorem dX11_issue_99 : decode cX11_issue 99 = .ok (.iconst 0, 1) := by decide +kernel
theorem dX11_issue_100 : decode cX11_issue 100 = .ok (.istore_n 2, 1) := by decide +kernel
theorem dX11_issue_101 : decode cX11_issue 101 = .ok (.iconst 0, 1) := by decide +kernel
theorem dX11_issue_102 : decode cX11_issue 102 = .ok (.istore_n 3, 1) := by decide +kernel
theorem dX11_issue_103 : decode cX11_issue 103 = .ok (.iload_n 3, 1) := by decide +kernel
theorem dX11_issue_104 : decode cX11_issue 104 = .ok (.bipush 30, 2) := by decide +kernel
theorem dX11_issue_106 : decode cX11_issue 106 = .ok (.if_icmp .ge 143, 3) := by decide +kernel
theorem dX11_issue_109 : decode cX11_issue 109 = .ok (.aload_n 0, 1) := by decide +kernel
theorem dX11_issue_110 : decode cX11_issue 110 = .ok (.getfield 109, 3) := by decide +kernel
theorem dX11_issue_113 : decode cX11_issue 113 = .ok (.iload_n 3, 1) := by decide +kernel
theorem dX11_issue_114 : decode cX11_issue 114 = .ok (.iconst 0, 1) := by decide +kernel
theorem dX11_issue_115 : decode cX11_issue 115 = .ok (.bastore, 1) := by decide +kernel
theorem dX11_issue_116 : decode cX11_issue 116 = .ok (.iload_n 1, 1) := by decide +kernel
theorem dX11_issue_117 : decode cX11_issue 117 = .ok (.iload_n 3, 1) := by decide +kernel
theorem dX11_issue_118 : decode cX11_issue 118 = .ok (.ishr, 1) := by decide +kernel
theorem dX11_issue_119 : decode cX11_issue 119 = .ok (.iconst 1, 1) := by decide +kernel
theorem dX11_issue_120 : decode cX11_issue 120 = .ok (.iand, 1) := by decide +kernel
theorem dX11_issue_121 : decode cX11_issue 121 = .ok (.ifCond .ne 6, 3) := by decide +kernel
theorem dX11_issue_124 : decode cX11_issue 124 = .ok (.goto 119, 3) := by decide +kernel
theorem dX11_issue_127 : decode cX11_issue 127 = .ok (.aload_n 0, 1) := by decide +kernel
theorem dX11_issue_128 : decode cX11_issue 128 = .ok (.getfield 112, 3) := by decide +kernel
theorem dX11_issue_131 : decode cX11_issue 131 = .ok (.iload_n 3, 1) := by decide +kernel
theorem dX11_issue_132 : decode cX11_issue 132 = .ok (.aload_n 0, 1) := by decide +kernel
theorem dX11_issue_133 : decode cX11_issue 133 = .ok (.getfield 56, 3) := by decide +kernel
theorem dX11_issue_136 : decode cX11_issue 136 = .ok (.iload_n 3, 1) := by decide +kernel
theorem dX11_issue_137 : decode cX11_issue 137 = .ok (.baload, 1) := by decide +kernel
theorem dX11_issue_138 : decode cX11_issue 138 = .ok (.ifCond .eq 7, 3) := by decide +kernel
theorem dX11_issue_141 : decode cX11_issue 141 = .ok (.iconst 1, 1) := by decide +kernel
theorem dX11_issue_142 : decode cX11_issue 142 = .ok (.goto 4, 3) := by decide +kernel
theorem dX11_issue_145 : decode cX11_issue 145 = .ok (.iconst 0, 1) := by decide +kernel
theorem dX11_issue_146 : decode cX11_issue 146 = .ok (.iastore, 1) := by decide +kernel
theorem dX11_issue_147 : decode cX11_issue 147 = .ok (.aload_n 0, 1) := by decide +kernel
theorem dX11_issue_148 : decode cX11_issue 148 = .ok (.getfield 115, 3) := by decide +kernel
theorem dX11_issue_151 : decode cX11_issue 151 = .ok (.iload_n 3, 1) := by decide +kernel
theorem dX11_issue_152 : decode cX11_issue 152 = .ok (.aload_n 0, 1) := by decide +kernel
theorem dX11_issue_153 : decode cX11_issue 153 = .ok (.getfield 56, 3) := by decide +kernel
theorem dX11_issue_156 : decode cX11_issue 156 = .ok (.iload_n 3, 1) := by decide +kernel
theorem dX11_issue_157 : decode cX11_issue 157 = .ok (.baload, 1) := by decide +kernel
theorem dX11_issue_158 : decode cX11_issue 158 = .ok (.ifCond .eq 10, 3) := by decide +kernel
theorem dX11_issue_161 : decode cX11_issue 161 = .ok (.aload_n 0, 1) := by decide +kernel
theorem dX11_issue_162 : decode cX11_issue 162 = .ok (.getfield 369, 3) := by decide +kernel
theorem dX11_issue_165 : decode cX11_issue 165 = .ok (.goto 4, 3) := by decide +kernel
theorem dX11_issue_168 : decode cX11_issue 168 = .ok (.iconst 0, 1) := by decide +kernel
theorem dX11_issue_169 : decode cX11_issue 169 = .ok (.iastore, 1) := by decide +kernel
theorem dX11_issue_170 : decode cX11_issue 170 = .ok (.aload_n 0, 1) := by decide +kernel
theorem dX11_issue_171 : decode cX11_issue 171 = .ok (.getfield 118, 3) := by decide +kernel
theorem dX11_issue_174 : decode cX11_issue 174 = .ok (.iload_n 3, 1) := by decide +kernel
theorem dX11_issue_175 : decode cX11_issue 175 = .ok (.iconst 0, 1) := by decide +kernel
theorem dX11_issue_176 : decode cX11_issue 176 = .ok (.iastore, 1) := by decide +kernel
theorem dX11_issue_177 : decode cX11_issue 177 = .ok (.aload_n 0, 1) := by decide +kernel
theorem dX11_issue_178 : decode cX11_issue 178 = .ok (.getfield 121, 3) := by decide +kernel
theorem dX11_issue_181 : decode cX11_issue 181 = .ok (.iload_n 3, 1) := by decide +kernel
theorem dX11_issue_182 : decode cX11_issue 182 = .ok (.iconst 0, 1) := by decide +kernel
theorem dX11_issue_183 : decode cX11_issue 183 = .ok (.iastore, 1) := by decide +kernel
theorem dX11_issue_184 : decode cX11_issue 184 = .ok (.aload_n 0, 1) := by decide +kernel
theorem dX11_issue_185 : decode cX11_issue 185 = .ok (.getfield 56, 3) := by decide +kernel
theorem dX11_issue_188 : decode cX11_issue 188 = .ok (.bipush 30, 2) := by decide +kernel
theorem dX11_issue_190 : decode cX11_issue 190 = .ok (.iload_n 3, 1) := by decide +kernel
theorem dX11_issue_191 : decode cX11_issue 191 = .ok (.iadd, 1) := by decide +kernel
theorem dX11_issue_192 : decode cX11_issue 192 = .ok (.iconst 0, 1) := by decide +kernel
theorem dX11_issue_193 : decode cX11_issue 193 = .ok (.bastore, 1) := by decide +kernel
theorem dX11_issue_194 : decode cX11_issue 194 = .ok (.iconst 0, 1) := by decide +kernel
theorem dX11_issue_195 : decode cX11_issue 195 = .ok (.istore 4, 2) := by decide +kernel
theorem dX11_issue_197 : decode cX11_issue 197 = .ok (.iload 4, 2) := by decide +kernel
theorem dX11_issue_199 : decode cX11_issue 199 = .ok (.bipush 72, 2) := by decide +kernel
theorem dX11_issue_201 : decode cX11_issue 201 = .ok (.if_icmp .ge 22, 3) := by decide +kernel
theorem dX11_issue_204 : decode cX11_issue 204 = .ok (.aload_n 0, 1) := by decide +kernel
theorem dX11_issue_205 : decode cX11_issue 205 = .ok (.getfield 124, 3) := by decide +kernel
theorem dX11_issue_208 : decode cX11_issue 208 = .ok (.bipush 72, 2) := by decide +kernel
theorem dX11_issue_210 : decode cX11_issue 210 = .ok (.iload_n 3, 1) := by decide +kernel
theorem dX11_issue_211 : decode cX11_issue 211 = .ok (.imul, 1) := by decide +kernel
theorem dX11_issue_212 : decode cX11_issue 212 = .ok (.iload 4, 2) := by decide +kernel
theorem dX11_issue_214 : decode cX11_issue 214 = .ok (.iadd, 1) := by decide +kernel
theorem dX11_issue_215 : decode cX11_issue 215 = .ok (.lconst 0, 1) := by decide +kernel
theorem dX11_issue_216 : decode cX11_issue 216 = .ok (.lastore, 1) := by decide +kernel
theorem dX11_issue_217 : decode cX11_issue 217 = .ok (.iinc 4 1, 3) := by decide +kernel
theorem dX11_issue_220 : decode cX11_issue 220 = .ok (.goto (-23), 3) := by decide +kernel
theorem dX11_issue_223 : decode cX11_issue 223 = .ok (.aload_n 0, 1) := by decide +kernel
theorem dX11_issue_224 : decode cX11_issue 224 = .ok (.getfield 56, 3) := by decide +kernel
theorem dX11_issue_227 : decode cX11_issue 227 = .ok (.iload_n 3, 1) := by decide +kernel
theorem dX11_issue_228 : decode cX11_issue 228 = .ok (.baload, 1) := by decide +kernel
theorem dX11_issue_229 : decode cX11_issue 229 = .ok (.ifCond .ne 6, 3) := by decide +kernel
theorem dX11_issue_232 : decode cX11_issue 232 = .ok (.goto 11, 3) := by decide +kernel
theorem dX11_issue_235 : decode cX11_issue 235 = .ok (.aload_n 0, 1) := by decide +kernel
theorem dX11_issue_236 : decode cX11_issue 236 = .ok (.iload_n 3, 1) := by decide +kernel
theorem dX11_issue_237 : decode cX11_issue 237 = .ok (.invokevirtual 372, 3) := by decide +kernel
theorem dX11_issue_240 : decode cX11_issue 240 = .ok (.iinc 2 1, 3) := by decide +kernel
theorem dX11_issue_243 : decode cX11_issue 243 = .ok (.iinc 3 1, 3) := by decide +kernel
theorem dX11_issue_246 : decode cX11_issue 246 = .ok (.goto (-143), 3) := by decide +kernel
theorem dX11_issue_249 : decode cX11_issue 249 = .ok (.iload_n 2, 1) := by decide +kernel
theorem dX11_issue_250 : decode cX11_issue 250 = .ok (.ireturn, 1) := by decide +kernel
theorem dX11_state_0 : decode cX11_state 0 = .ok (.iload_n 1, 1) := by decide +kernel
theorem dX11_state_1 : decode cX11_state 1 = .ok (.invokestatic 360, 3) := by decide +kernel
theorem dX11_state_4 : decode cX11_state 4 = .ok (.ifCond .ne 5, 3) := by decide +kernel
theorem dX11_state_7 : decode cX11_state 7 = .ok (.iconst (-1), 1) := by decide +kernel
theorem dX11_state_8 : decode cX11_state 8 = .ok (.ireturn, 1) := by decide +kernel
theorem dX11_state_9 : decode cX11_state 9 = .ok (.iload_n 1, 1) := by decide +kernel
theorem dX11_state_10 : decode cX11_state 10 = .ok (.sipush 1700, 3) := by decide +kernel
theorem dX11_state_13 : decode cX11_state 13 = .ok (.isub, 1) := by decide +kernel
theorem dX11_state_14 : decode cX11_state 14 = .ok (.istore_n 3, 1) := by decide +kernel
theorem dX11_state_15 : decode cX11_state 15 = .ok (.iload_n 2, 1) := by decide +kernel
theorem dX11_state_16 : decode cX11_state 16 = .ok (.tableswitch 164 0 7 #[48, 55, 62, 69, 76, 96, 116, 149], 48) := by decide +kernel
theorem dX11_state_64 : decode cX11_state 64 = .ok (.aload_n 0, 1) := by decide +kernel
theorem dX11_state_65 : decode cX11_state 65 = .ok (.getfield 112, 3) := by decide +kernel
theorem dX11_state_68 : decode cX11_state 68 = .ok (.iload_n 3, 1) := by decide +kernel
theorem dX11_state_69 : decode cX11_state 69 = .ok (.iaload, 1) := by decide +kernel
theorem dX11_state_70 : decode cX11_state 70 = .ok (.ireturn, 1) := by decide +kernel
theorem dX11_state_71 : decode cX11_state 71 = .ok (.aload_n 0, 1) := by decide +kernel
theorem dX11_state_72 : decode cX11_state 72 = .ok (.getfield 115, 3) := by decide +kernel
theorem dX11_state_75 : decode cX11_state 75 = .ok (.iload_n 3, 1) := by decide +kernel
theorem dX11_state_76 : decode cX11_state 76 = .ok (.iaload, 1) := by decide +kernel
theorem dX11_state_77 : decode cX11_state 77 = .ok (.ireturn, 1) := by decide +kernel
theorem dX11_state_78 : decode cX11_state 78 = .ok (.aload_n 0, 1) := by decide +kernel
theorem dX11_state_79 : decode cX11_state 79 = .ok (.getfield 118, 3) := by decide +kernel
theorem dX11_state_82 : decode cX11_state 82 = .ok (.iload_n 3, 1) := by decide +kernel
theorem dX11_state_83 : decode cX11_state 83 = .ok (.iaload, 1) := by decide +kernel
theorem dX11_state_84 : decode cX11_state 84 = .ok (.ireturn, 1) := by decide +kernel
theorem dX11_state_85 : decode cX11_state 85 = .ok (.aload_n 0, 1) := by decide +kernel
theorem dX11_state_86 : decode cX11_state 86 = .ok (.getfield 121, 3) := by decide +kernel
theorem dX11_state_89 : decode cX11_state 89 = .ok (.iload_n 3, 1) := by decide +kernel
theorem dX11_state_90 : decode cX11_state 90 = .ok (.iaload, 1) := by decide +kernel
theorem dX11_state_91 : decode cX11_state 91 = .ok (.ireturn, 1) := by decide +kernel
theorem dX11_state_92 : decode cX11_state 92 = .ok (.aload_n 0, 1) := by decide +kernel
theorem dX11_state_93 : decode cX11_state 93 = .ok (.getfield 56, 3) := by decide +kernel
theorem dX11_state_96 : decode cX11_state 96 = .ok (.iload_n 3, 1) := by decide +kernel
theorem dX11_state_97 : decode cX11_state 97 = .ok (.baload, 1) := by decide +kernel
theorem dX11_state_98 : decode cX11_state 98 = .ok (.ifCond .eq 12, 3) := by decide +kernel
theorem dX11_state_101 : decode cX11_state 101 = .ok (.aload_n 0, 1) := by decide +kernel
theorem dX11_state_102 : decode cX11_state 102 = .ok (.getfield 66, 3) := by decide +kernel
theorem dX11_state_105 : decode cX11_state 105 = .ok (.iload_n 3, 1) := by decide +kernel
theorem dX11_state_106 : decode cX11_state 106 = .ok (.iaload, 1) := by decide +kernel
theorem dX11_state_107 : decode cX11_state 107 = .ok (.goto 4, 3) := by decide +kernel
theorem dX11_state_110 : decode cX11_state 110 = .ok (.iconst 0, 1) := by decide +kernel
theorem dX11_state_111 : decode cX11_state 111 = .ok (.ireturn, 1) := by decide +kernel
theorem dX11_state_112 : decode cX11_state 112 = .ok (.aload_n 0, 1) := by decide +kernel
theorem dX11_state_113 : decode cX11_state 113 = .ok (.getfield 56, 3) := by decide +kernel
theorem dX11_state_116 : decode cX11_state 116 = .ok (.iload_n 3, 1) := by decide +kernel
theorem dX11_state_117 : decode cX11_state 117 = .ok (.baload, 1) := by decide +kernel
theorem dX11_state_118 : decode cX11_state 118 = .ok (.ifCond .eq 12, 3) := by decide +kernel
theorem dX11_state_121 : decode cX11_state 121 = .ok (.aload_n 0, 1) := by decide +kernel
theorem dX11_state_122 : decode cX11_state 122 = .ok (.getfield 75, 3) := by decide +kernel
theorem dX11_state_125 : decode cX11_state 125 = .ok (.iload_n 3, 1) := by decide +kernel
theorem dX11_state_126 : decode cX11_state 126 = .ok (.iaload, 1) := by decide +kernel
theorem dX11_state_127 : decode cX11_state 127 = .ok (.goto 4, 3) := by decide +kernel
theorem dX11_state_130 : decode cX11_state 130 = .ok (.iconst 0, 1) := by decide +kernel
theorem dX11_state_131 : decode cX11_state 131 = .ok (.ireturn, 1) := by decide +kernel
theorem dX11_state_132 : decode cX11_state 132 = .ok (.aload_n 0, 1) := by decide +kernel
theorem dX11_state_133 : decode cX11_state 133 = .ok (.getfield 56, 3) := by decide +kernel
theorem dX11_state_136 : decode cX11_state 136 = .ok (.iload_n 3, 1) := by decide +kernel
theorem dX11_state_137 : decode cX11_state 137 = .ok (.baload, 1) := by decide +kernel
theorem dX11_state_138 : decode cX11_state 138 = .ok (.ifCond .eq 25, 3) := by decide +kernel
theorem dX11_state_141 : decode cX11_state 141 = .ok (.aload_n 0, 1) := by decide +kernel
theorem dX11_state_142 : decode cX11_state 142 = .ok (.getfield 60, 3) := by decide +kernel
theorem dX11_state_145 : decode cX11_state 145 = .ok (.iload_n 3, 1) := by decide +kernel
theorem dX11_state_146 : decode cX11_state 146 = .ok (.iaload, 1) := by decide +kernel
theorem dX11_state_147 : decode cX11_state 147 = .ok (.ifCond .lt 16, 3) := by decide +kernel
theorem dX11_state_150 : decode cX11_state 150 = .ok (.sipush 1700, 3) := by decide +kernel
theorem dX11_state_153 : decode cX11_state 153 = .ok (.aload_n 0, 1) := by decide +kernel
theorem dX11_state_154 : decode cX11_state 154 = .ok (.getfield 60, 3) := by decide +kernel
theorem dX11_state_157 : decode cX11_state 157 = .ok (.iload_n 3, 1) := by decide +kernel
theorem dX11_state_158 : decode cX11_state 158 = .ok (.iaload, 1) := by decide +kernel
theorem dX11_state_159 : decode cX11_state 159 = .ok (.iadd, 1) := by decide +kernel
theorem dX11_state_160 : decode cX11_state 160 = .ok (.goto 4, 3) := by decide +kernel
theorem dX11_state_163 : decode cX11_state 163 = .ok (.iconst (-1), 1) := by decide +kernel
theorem dX11_state_164 : decode cX11_state 164 = .ok (.ireturn, 1) := by decide +kernel
theorem dX11_state_165 : decode cX11_state 165 = .ok (.aload_n 0, 1) := by decide +kernel
theorem dX11_state_166 : decode cX11_state 166 = .ok (.getfield 109, 3) := by decide +kernel
theorem dX11_state_169 : decode cX11_state 169 = .ok (.iload_n 3, 1) := by decide +kernel
theorem dX11_state_170 : decode cX11_state 170 = .ok (.baload, 1) := by decide +kernel
theorem dX11_state_171 : decode cX11_state 171 = .ok (.ifCond .eq 7, 3) := by decide +kernel
theorem dX11_state_174 : decode cX11_state 174 = .ok (.iconst 1, 1) := by decide +kernel
theorem dX11_state_175 : decode cX11_state 175 = .ok (.goto 4, 3) := by decide +kernel
theorem dX11_state_178 : decode cX11_state 178 = .ok (.iconst 0, 1) := by decide +kernel
theorem dX11_state_179 : decode cX11_state 179 = .ok (.ireturn, 1) := by decide +kernel
theorem dX11_state_180 : decode cX11_state 180 = .ok (.iconst (-1), 1) := by decide +kernel
theorem dX11_state_181 : decode cX11_state 181 = .ok (.ireturn, 1) := by decide +kernel
theorem dX11_leans_0 : decode cX11_leans 0 = .ok (.iload_n 1, 1) := by decide +kernel
theorem dX11_leans_1 : decode cX11_leans 1 = .ok (.invokestatic 360, 3) := by decide +kernel
theorem dX11_leans_4 : decode cX11_leans 4 = .ok (.ifCond .eq 49, 3) := by decide +kernel
theorem dX11_leans_7 : decode cX11_leans 7 = .ok (.iload_n 2, 1) := by decide +kernel
theorem dX11_leans_8 : decode cX11_leans 8 = .ok (.invokestatic 360, 3) := by decide +kernel
theorem dX11_leans_11 : decode cX11_leans 11 = .ok (.ifCond .eq 42, 3) := by decide +kernel
theorem dX11_leans_14 : decode cX11_leans 14 = .ok (.aload_n 0, 1) := by decide +kernel
theorem dX11_leans_15 : decode cX11_leans 15 = .ok (.getfield 56, 3) := by decide +kernel
theorem dX11_leans_18 : decode cX11_leans 18 = .ok (.iload_n 1, 1) := by decide +kernel
theorem dX11_leans_19 : decode cX11_leans 19 = .ok (.sipush 1700, 3) := by decide +kernel
theorem dX11_leans_22 : decode cX11_leans 22 = .ok (.isub, 1) := by decide +kernel
theorem dX11_leans_23 : decode cX11_leans 23 = .ok (.baload, 1) := by decide +kernel
theorem dX11_leans_24 : decode cX11_leans 24 = .ok (.ifCond .eq 29, 3) := by decide +kernel
theorem dX11_leans_27 : decode cX11_leans 27 = .ok (.aload_n 0, 1) := by decide +kernel
theorem dX11_leans_28 : decode cX11_leans 28 = .ok (.getfield 63, 3) := by decide +kernel
theorem dX11_leans_31 : decode cX11_leans 31 = .ok (.iload_n 1, 1) := by decide +kernel
theorem dX11_leans_32 : decode cX11_leans 32 = .ok (.sipush 1700, 3) := by decide +kernel
theorem dX11_leans_35 : decode cX11_leans 35 = .ok (.isub, 1) := by decide +kernel
theorem dX11_leans_36 : decode cX11_leans 36 = .ok (.iaload, 1) := by decide +kernel
theorem dX11_leans_37 : decode cX11_leans 37 = .ok (.iload_n 2, 1) := by decide +kernel
theorem dX11_leans_38 : decode cX11_leans 38 = .ok (.sipush 1700, 3) := by decide +kernel
theorem dX11_leans_41 : decode cX11_leans 41 = .ok (.isub, 1) := by decide +kernel
theorem dX11_leans_42 : decode cX11_leans 42 = .ok (.ishr, 1) := by decide +kernel
theorem dX11_leans_43 : decode cX11_leans 43 = .ok (.iconst 1, 1) := by decide +kernel
theorem dX11_leans_44 : decode cX11_leans 44 = .ok (.iand, 1) := by decide +kernel
theorem dX11_leans_45 : decode cX11_leans 45 = .ok (.iconst 1, 1) := by decide +kernel
theorem dX11_leans_46 : decode cX11_leans 46 = .ok (.if_icmp .ne 7, 3) := by decide +kernel
theorem dX11_leans_49 : decode cX11_leans 49 = .ok (.iconst 1, 1) := by decide +kernel
theorem dX11_leans_50 : decode cX11_leans 50 = .ok (.goto 4, 3) := by decide +kernel
theorem dX11_leans_53 : decode cX11_leans 53 = .ok (.iconst 0, 1) := by decide +kernel
theorem dX11_leans_54 : decode cX11_leans 54 = .ok (.ireturn, 1) := by decide +kernel
theorem dX11_constOf_0 : decode cX11_constOf 0 = .ok (.iload_n 1, 1) := by decide +kernel
theorem dX11_constOf_1 : decode cX11_constOf 1 = .ok (.istore 4, 2) := by decide +kernel
theorem dX11_constOf_3 : decode cX11_constOf 3 = .ok (.iconst 0, 1) := by decide +kernel
theorem dX11_constOf_4 : decode cX11_constOf 4 = .ok (.istore 5, 2) := by decide +kernel
theorem dX11_constOf_6 : decode cX11_constOf 6 = .ok (.iload 5, 2) := by decide +kernel
theorem dX11_constOf_8 : decode cX11_constOf 8 = .ok (.bipush 30, 2) := by decide +kernel
theorem dX11_constOf_10 : decode cX11_constOf 10 = .ok (.if_icmp .gt 91, 3) := by decide +kernel
theorem dX11_constOf_13 : decode cX11_constOf 13 = .ok (.iload 4, 2) := by decide +kernel
theorem dX11_constOf_15 : decode cX11_constOf 15 = .ok (.ifCond .lt 86, 3) := by decide +kernel
theorem dX11_constOf_18 : decode cX11_constOf 18 = .ok (.aload_n 0, 1) := by decide +kernel
theorem dX11_constOf_19 : decode cX11_constOf 19 = .ok (.getfield 56, 3) := by decide +kernel
theorem dX11_constOf_22 : decode cX11_constOf 22 = .ok (.bipush 30, 2) := by decide +kernel
theorem dX11_constOf_24 : decode cX11_constOf 24 = .ok (.iload 4, 2) := by decide +kernel
theorem dX11_constOf_26 : decode cX11_constOf 26 = .ok (.iadd, 1) := by decide +kernel
theorem dX11_constOf_27 : decode cX11_constOf 27 = .ok (.baload, 1) := by decide +kernel
theorem dX11_constOf_28 : decode cX11_constOf 28 = .ok (.ifCond .eq 73, 3) := by decide +kernel
theorem dX11_constOf_31 : decode cX11_constOf 31 = .ok (.bipush 30, 2) := by decide +kernel
theorem dX11_constOf_33 : decode cX11_constOf 33 = .ok (.iload 4, 2) := by decide +kernel
theorem dX11_constOf_35 : decode cX11_constOf 35 = .ok (.iadd, 1) := by decide +kernel
theorem dX11_constOf_36 : decode cX11_constOf 36 = .ok (.istore 6, 2) := by decide +kernel
theorem dX11_constOf_38 : decode cX11_constOf 38 = .ok (.iconst 0, 1) := by decide +kernel
theorem dX11_constOf_39 : decode cX11_constOf 39 = .ok (.istore 7, 2) := by decide +kernel
theorem dX11_constOf_41 : decode cX11_constOf 41 = .ok (.iload 7, 2) := by decide +kernel
theorem dX11_constOf_43 : decode cX11_constOf 43 = .ok (.aload_n 0, 1) := by decide +kernel
theorem dX11_constOf_44 : decode cX11_constOf 44 = .ok (.getfield 66, 3) := by decide +kernel
theorem dX11_constOf_47 : decode cX11_constOf 47 = .ok (.iload 6, 2) := by decide +kernel
theorem dX11_constOf_49 : decode cX11_constOf 49 = .ok (.iaload, 1) := by decide +kernel
theorem dX11_constOf_50 : decode cX11_constOf 50 = .ok (.if_icmp .ge 36, 3) := by decide +kernel
theorem dX11_constOf_53 : decode cX11_constOf 53 = .ok (.aload_n 0, 1) := by decide +kernel
theorem dX11_constOf_54 : decode cX11_constOf 54 = .ok (.getfield 69, 3) := by decide +kernel
theorem dX11_constOf_57 : decode cX11_constOf 57 = .ok (.bipush 8, 2) := by decide +kernel
theorem dX11_constOf_59 : decode cX11_constOf 59 = .ok (.iload 6, 2) := by decide +kernel
theorem dX11_constOf_61 : decode cX11_constOf 61 = .ok (.imul, 1) := by decide +kernel
theorem dX11_constOf_62 : decode cX11_constOf 62 = .ok (.iload 7, 2) := by decide +kernel
theorem dX11_constOf_64 : decode cX11_constOf 64 = .ok (.iadd, 1) := by decide +kernel
theorem dX11_constOf_65 : decode cX11_constOf 65 = .ok (.laload, 1) := by decide +kernel
theorem dX11_constOf_66 : decode cX11_constOf 66 = .ok (.lload_n 2, 1) := by decide +kernel
theorem dX11_constOf_67 : decode cX11_constOf 67 = .ok (.lcmp, 1) := by decide +kernel
theorem dX11_constOf_68 : decode cX11_constOf 68 = .ok (.ifCond .ne 12, 3) := by decide +kernel
theorem dX11_constOf_71 : decode cX11_constOf 71 = .ok (.bipush 8, 2) := by decide +kernel
theorem dX11_constOf_73 : decode cX11_constOf 73 = .ok (.iload 4, 2) := by decide +kernel
theorem dX11_constOf_75 : decode cX11_constOf 75 = .ok (.imul, 1) := by decide +kernel
theorem dX11_constOf_76 : decode cX11_constOf 76 = .ok (.iload 7, 2) := by decide +kernel
theorem dX11_constOf_78 : decode cX11_constOf 78 = .ok (.iadd, 1) := by decide +kernel
theorem dX11_constOf_79 : decode cX11_constOf 79 = .ok (.ireturn, 1) := by decide +kernel
theorem dX11_constOf_80 : decode cX11_constOf 80 = .ok (.iinc 7 1, 3) := by decide +kernel
theorem dX11_constOf_83 : decode cX11_constOf 83 = .ok (.goto (-42), 3) := by decide +kernel
theorem dX11_constOf_86 : decode cX11_constOf 86 = .ok (.aload_n 0, 1) := by decide +kernel
theorem dX11_constOf_87 : decode cX11_constOf 87 = .ok (.getfield 60, 3) := by decide +kernel
theorem dX11_constOf_90 : decode cX11_constOf 90 = .ok (.iload 6, 2) := by decide +kernel
theorem dX11_constOf_92 : decode cX11_constOf 92 = .ok (.iaload, 1) := by decide +kernel
theorem dX11_constOf_93 : decode cX11_constOf 93 = .ok (.istore 4, 2) := by decide +kernel
theorem dX11_constOf_95 : decode cX11_constOf 95 = .ok (.iinc 5 1, 3) := by decide +kernel
theorem dX11_constOf_98 : decode cX11_constOf 98 = .ok (.goto (-92), 3) := by decide +kernel
theorem dX11_constOf_101 : decode cX11_constOf 101 = .ok (.iconst (-1), 1) := by decide +kernel
theorem dX11_constOf_102 : decode cX11_constOf 102 = .ok (.ireturn, 1) := by decide +kernel
theorem dX11_isSmall_0 : decode cX11_isSmall 0 = .ok (.lload_n 0, 1) := by decide +kernel
theorem dX11_isSmall_1 : decode cX11_isSmall 1 = .ok (.ldc2_w 375, 3) := by decide +kernel
theorem dX11_isSmall_4 : decode cX11_isSmall 4 = .ok (.lcmp, 1) := by decide +kernel
theorem dX11_isSmall_5 : decode cX11_isSmall 5 = .ok (.ifCond .gt 15, 3) := by decide +kernel
theorem dX11_isSmall_8 : decode cX11_isSmall 8 = .ok (.lload_n 0, 1) := by decide +kernel
theorem dX11_isSmall_9 : decode cX11_isSmall 9 = .ok (.ldc2_w 377, 3) := by decide +kernel
theorem dX11_isSmall_12 : decode cX11_isSmall 12 = .ok (.lcmp, 1) := by decide +kernel
theorem dX11_isSmall_13 : decode cX11_isSmall 13 = .ok (.ifCond .lt 7, 3) := by decide +kernel
theorem dX11_isSmall_16 : decode cX11_isSmall 16 = .ok (.iconst 1, 1) := by decide +kernel
theorem dX11_isSmall_17 : decode cX11_isSmall 17 = .ok (.goto 4, 3) := by decide +kernel
theorem dX11_isSmall_20 : decode cX11_isSmall 20 = .ok (.iconst 0, 1) := by decide +kernel
theorem dX11_isSmall_21 : decode cX11_isSmall 21 = .ok (.ireturn, 1) := by decide +kernel
theorem dX11_comesOut_0 : decode cX11_comesOut 0 = .ok (.iload_n 1, 1) := by decide +kernel
theorem dX11_comesOut_1 : decode cX11_comesOut 1 = .ok (.bipush 8, 2) := by decide +kernel
theorem dX11_comesOut_3 : decode cX11_comesOut 3 = .ok (.idiv, 1) := by decide +kernel
theorem dX11_comesOut_4 : decode cX11_comesOut 4 = .ok (.istore_n 2, 1) := by decide +kernel
theorem dX11_comesOut_5 : decode cX11_comesOut 5 = .ok (.sipush 1200, 3) := by decide +kernel
theorem dX11_comesOut_8 : decode cX11_comesOut 8 = .ok (.bipush 30, 2) := by decide +kernel
theorem dX11_comesOut_10 : decode cX11_comesOut 10 = .ok (.iload_n 2, 1) := by decide +kernel
theorem dX11_comesOut_11 : decode cX11_comesOut 11 = .ok (.iadd, 1) := by decide +kernel
theorem dX11_comesOut_12 : decode cX11_comesOut 12 = .ok (.imul, 1) := by decide +kernel
theorem dX11_comesOut_13 : decode cX11_comesOut 13 = .ok (.istore_n 3, 1) := by decide +kernel
theorem dX11_comesOut_14 : decode cX11_comesOut 14 = .ok (.aload_n 0, 1) := by decide +kernel
theorem dX11_comesOut_15 : decode cX11_comesOut 15 = .ok (.getfield 379, 3) := by decide +kernel
theorem dX11_comesOut_18 : decode cX11_comesOut 18 = .ok (.istore 4, 2) := by decide +kernel
theorem dX11_comesOut_20 : decode cX11_comesOut 20 = .ok (.aload_n 0, 1) := by decide +kernel
theorem dX11_comesOut_21 : decode cX11_comesOut 21 = .ok (.getfield 72, 3) := by decide +kernel
theorem dX11_comesOut_24 : decode cX11_comesOut 24 = .ok (.bipush 8, 2) := by decide +kernel
theorem dX11_comesOut_26 : decode cX11_comesOut 26 = .ok (.bipush 30, 2) := by decide +kernel
theorem dX11_comesOut_28 : decode cX11_comesOut 28 = .ok (.iload_n 2, 1) := by decide +kernel
theorem dX11_comesOut_29 : decode cX11_comesOut 29 = .ok (.iadd, 1) := by decide +kernel
theorem dX11_comesOut_30 : decode cX11_comesOut 30 = .ok (.imul, 1) := by decide +kernel
theorem dX11_comesOut_31 : decode cX11_comesOut 31 = .ok (.iload_n 1, 1) := by decide +kernel
theorem dX11_comesOut_32 : decode cX11_comesOut 32 = .ok (.bipush 8, 2) := by decide +kernel
theorem dX11_comesOut_34 : decode cX11_comesOut 34 = .ok (.irem, 1) := by decide +kernel
theorem dX11_comesOut_35 : decode cX11_comesOut 35 = .ok (.iadd, 1) := by decide +kernel
theorem dX11_comesOut_36 : decode cX11_comesOut 36 = .ok (.iaload, 1) := by decide +kernel
theorem dX11_comesOut_37 : decode cX11_comesOut 37 = .ok (.istore 5, 2) := by decide +kernel
theorem dX11_comesOut_39 : decode cX11_comesOut 39 = .ok (.aload_n 0, 1) := by decide +kernel
theorem dX11_comesOut_40 : decode cX11_comesOut 40 = .ok (.getfield 100, 3) := by decide +kernel
theorem dX11_comesOut_43 : decode cX11_comesOut 43 = .ok (.iload_n 3, 1) := by decide +kernel
theorem dX11_comesOut_44 : decode cX11_comesOut 44 = .ok (.iload 5, 2) := by decide +kernel
theorem dX11_comesOut_46 : decode cX11_comesOut 46 = .ok (.iadd, 1) := by decide +kernel
theorem dX11_comesOut_47 : decode cX11_comesOut 47 = .ok (.iaload, 1) := by decide +kernel
theorem dX11_comesOut_48 : decode cX11_comesOut 48 = .ok (.bipush 11, 2) := by decide +kernel
theorem dX11_comesOut_50 : decode cX11_comesOut 50 = .ok (.if_icmp .eq 306, 3) := by decide +kernel
theorem dX11_comesOut_53 : decode cX11_comesOut 53 = .ok (.aload_n 0, 1) := by decide +kernel
theorem dX11_comesOut_54 : decode cX11_comesOut 54 = .ok (.getfield 100, 3) := by decide +kernel
theorem dX11_comesOut_57 : decode cX11_comesOut 57 = .ok (.iload_n 3, 1) := by decide +kernel
theorem dX11_comesOut_58 : decode cX11_comesOut 58 = .ok (.iload 5, 2) := by decide +kernel
theorem dX11_comesOut_60 : decode cX11_comesOut 60 = .ok (.iadd, 1) := by decide +kernel
theorem dX11_comesOut_61 : decode cX11_comesOut 61 = .ok (.iaload, 1) := by decide +kernel
theorem dX11_comesOut_62 : decode cX11_comesOut 62 = .ok (.istore 6, 2) := by decide +kernel
theorem dX11_comesOut_64 : decode cX11_comesOut 64 = .ok (.iload 6, 2) := by decide +kernel
theorem dX11_comesOut_66 : decode cX11_comesOut 66 = .ok (.ifCond .ne 25, 3) := by decide +kernel
theorem dX11_comesOut_69 : decode cX11_comesOut 69 = .ok (.aload_n 0, 1) := by decide +kernel
theorem dX11_comesOut_70 : decode cX11_comesOut 70 = .ok (.getfield 133, 3) := by decide +kernel
theorem dX11_comesOut_73 : decode cX11_comesOut 73 = .ok (.iload 4, 2) := by decide +kernel
theorem dX11_comesOut_75 : decode cX11_comesOut 75 = .ok (.aload_n 0, 1) := by decide +kernel
theorem dX11_comesOut_76 : decode cX11_comesOut 76 = .ok (.getfield 103, 3) := by decide +kernel
theorem dX11_comesOut_79 : decode cX11_comesOut 79 = .ok (.iload_n 3, 1) := by decide +kernel
theorem dX11_comesOut_80 : decode cX11_comesOut 80 = .ok (.iload 5, 2) := by decide +kernel
theorem dX11_comesOut_82 : decode cX11_comesOut 82 = .ok (.iadd, 1) := by decide +kernel
theorem dX11_comesOut_83 : decode cX11_comesOut 83 = .ok (.laload, 1) := by decide +kernel
theorem dX11_comesOut_84 : decode cX11_comesOut 84 = .ok (.lastore, 1) := by decide +kernel
theorem dX11_comesOut_85 : decode cX11_comesOut 85 = .ok (.iinc 4 1, 3) := by decide +kernel
theorem dX11_comesOut_88 : decode cX11_comesOut 88 = .ok (.goto 245, 3) := by decide +kernel
theorem dX11_comesOut_91 : decode cX11_comesOut 91 = .ok (.iload 6, 2) := by decide +kernel
theorem dX11_comesOut_93 : decode cX11_comesOut 93 = .ok (.bipush 6, 2) := by decide +kernel
theorem dX11_comesOut_95 : decode cX11_comesOut 95 = .ok (.if_icmp .ne 80, 3) := by decide +kernel
theorem dX11_comesOut_98 : decode cX11_comesOut 98 = .ok (.aload_n 0, 1) := by decide +kernel
theorem dX11_comesOut_99 : decode cX11_comesOut 99 = .ok (.aload_n 0, 1) := by decide +kernel
theorem dX11_comesOut_100 : decode cX11_comesOut 100 = .ok (.getfield 106, 3) := by decide +kernel
theorem dX11_comesOut_103 : decode cX11_comesOut 103 = .ok (.iload_n 3, 1) := by decide +kernel
theorem dX11_comesOut_104 : decode cX11_comesOut 104 = .ok (.iload 5, 2) := by decide +kernel
theorem dX11_comesOut_106 : decode cX11_comesOut 106 = .ok (.iadd, 1) := by decide +kernel
theorem dX11_comesOut_107 : decode cX11_comesOut 107 = .ok (.iaload, 1) := by decide +kernel
theorem dX11_comesOut_108 : decode cX11_comesOut 108 = .ok (.ifCond .ge 7, 3) := by decide +kernel
theorem dX11_comesOut_111 : decode cX11_comesOut 111 = .ok (.iload_n 2, 1) := by decide +kernel
theorem dX11_comesOut_112 : decode cX11_comesOut 112 = .ok (.goto 12, 3) := by decide +kernel
theorem dX11_comesOut_115 : decode cX11_comesOut 115 = .ok (.aload_n 0, 1) := by decide +kernel
theorem dX11_comesOut_116 : decode cX11_comesOut 116 = .ok (.getfield 106, 3) := by decide +kernel
theorem dX11_comesOut_119 : decode cX11_comesOut 119 = .ok (.iload_n 3, 1) := by decide +kernel
theorem dX11_comesOut_120 : decode cX11_comesOut 120 = .ok (.iload 5, 2) := by decide +kernel
theorem dX11_comesOut_122 : decode cX11_comesOut 122 = .ok (.iadd, 1) := by decide +kernel
theorem dX11_comesOut_123 : decode cX11_comesOut 123 = .ok (.iaload, 1) := by decide +kernel
theorem dX11_comesOut_124 : decode cX11_comesOut 124 = .ok (.aload_n 0, 1) := by decide +kernel
theorem dX11_comesOut_125 : decode cX11_comesOut 125 = .ok (.getfield 103, 3) := by decide +kernel
theorem dX11_comesOut_128 : decode cX11_comesOut 128 = .ok (.iload_n 3, 1) := by decide +kernel
theorem dX11_comesOut_129 : decode cX11_comesOut 129 = .ok (.iload 5, 2) := by decide +kernel
theorem dX11_comesOut_131 : decode cX11_comesOut 131 = .ok (.iadd, 1) := by decide +kernel
theorem dX11_comesOut_132 : decode cX11_comesOut 132 = .ok (.laload, 1) := by decide +kernel
theorem dX11_comesOut_133 : decode cX11_comesOut 133 = .ok (.invokevirtual 382, 3) := by decide +kernel
theorem dX11_comesOut_136 : decode cX11_comesOut 136 = .ok (.istore 7, 2) := by decide +kernel
theorem dX11_comesOut_138 : decode cX11_comesOut 138 = .ok (.iload 7, 2) := by decide +kernel
theorem dX11_comesOut_140 : decode cX11_comesOut 140 = .ok (.ifCond .lt 13, 3) := by decide +kernel
theorem dX11_comesOut_143 : decode cX11_comesOut 143 = .ok (.aload_n 0, 1) := by decide +kernel
theorem dX11_comesOut_144 : decode cX11_comesOut 144 = .ok (.getfield 127, 3) := by decide +kernel
theorem dX11_comesOut_147 : decode cX11_comesOut 147 = .ok (.iload 7, 2) := by decide +kernel
theorem dX11_comesOut_149 : decode cX11_comesOut 149 = .ok (.baload, 1) := by decide +kernel
theorem dX11_comesOut_150 : decode cX11_comesOut 150 = .ok (.ifCond .ne 5, 3) := by decide +kernel
theorem dX11_comesOut_153 : decode cX11_comesOut 153 = .ok (.iconst 0, 1) := by decide +kernel
theorem dX11_comesOut_154 : decode cX11_comesOut 154 = .ok (.ireturn, 1) := by decide +kernel
theorem dX11_comesOut_155 : decode cX11_comesOut 155 = .ok (.aload_n 0, 1) := by decide +kernel
theorem dX11_comesOut_156 : decode cX11_comesOut 156 = .ok (.getfield 133, 3) := by decide +kernel
theorem dX11_comesOut_159 : decode cX11_comesOut 159 = .ok (.iload 4, 2) := by decide +kernel
theorem dX11_comesOut_161 : decode cX11_comesOut 161 = .ok (.aload_n 0, 1) := by decide +kernel
theorem dX11_comesOut_162 : decode cX11_comesOut 162 = .ok (.getfield 130, 3) := by decide +kernel
theorem dX11_comesOut_165 : decode cX11_comesOut 165 = .ok (.iload 7, 2) := by decide +kernel
theorem dX11_comesOut_167 : decode cX11_comesOut 167 = .ok (.laload, 1) := by decide +kernel
theorem dX11_comesOut_168 : decode cX11_comesOut 168 = .ok (.lastore, 1) := by decide +kernel
theorem dX11_comesOut_169 : decode cX11_comesOut 169 = .ok (.iinc 4 1, 3) := by decide +kernel
theorem dX11_comesOut_172 : decode cX11_comesOut 172 = .ok (.goto 161, 3) := by decide +kernel
theorem dX11_comesOut_175 : decode cX11_comesOut 175 = .ok (.iload 6, 2) := by decide +kernel
theorem dX11_comesOut_177 : decode cX11_comesOut 177 = .ok (.bipush 8, 2) := by decide +kernel
theorem dX11_comesOut_179 : decode cX11_comesOut 179 = .ok (.if_icmp .ne 25, 3) := by decide +kernel
theorem dX11_comesOut_182 : decode cX11_comesOut 182 = .ok (.aload_n 0, 1) := by decide +kernel
theorem dX11_comesOut_183 : decode cX11_comesOut 183 = .ok (.getfield 133, 3) := by decide +kernel
theorem dX11_comesOut_186 : decode cX11_comesOut 186 = .ok (.iload 4, 2) := by decide +kernel
theorem dX11_comesOut_188 : decode cX11_comesOut 188 = .ok (.iconst 1, 1) := by decide +kernel
theorem dX11_comesOut_189 : decode cX11_comesOut 189 = .ok (.isub, 1) := by decide +kernel
theorem dX11_comesOut_190 : decode cX11_comesOut 190 = .ok (.aload_n 0, 1) := by decide +kernel
theorem dX11_comesOut_191 : decode cX11_comesOut 191 = .ok (.getfield 133, 3) := by decide +kernel
theorem dX11_comesOut_194 : decode cX11_comesOut 194 = .ok (.iload 4, 2) := by decide +kernel
theorem dX11_comesOut_196 : decode cX11_comesOut 196 = .ok (.iconst 1, 1) := by decide +kernel
theorem dX11_comesOut_197 : decode cX11_comesOut 197 = .ok (.isub, 1) := by decide +kernel
theorem dX11_comesOut_198 : decode cX11_comesOut 198 = .ok (.laload, 1) := by decide +kernel
theorem dX11_comesOut_199 : decode cX11_comesOut 199 = .ok (.lneg, 1) := by decide +kernel
theorem dX11_comesOut_200 : decode cX11_comesOut 200 = .ok (.lastore, 1) := by decide +kernel
theorem dX11_comesOut_201 : decode cX11_comesOut 201 = .ok (.goto 132, 3) := by decide +kernel
theorem dX11_comesOut_204 : decode cX11_comesOut 204 = .ok (.iinc 4 (-1), 3) := by decide +kernel
theorem dX11_comesOut_207 : decode cX11_comesOut 207 = .ok (.aload_n 0, 1) := by decide +kernel
theorem dX11_comesOut_208 : decode cX11_comesOut 208 = .ok (.getfield 133, 3) := by decide +kernel
theorem dX11_comesOut_211 : decode cX11_comesOut 211 = .ok (.iload 4, 2) := by decide +kernel
theorem dX11_comesOut_213 : decode cX11_comesOut 213 = .ok (.iconst 1, 1) := by decide +kernel
theorem dX11_comesOut_214 : decode cX11_comesOut 214 = .ok (.isub, 1) := by decide +kernel
theorem dX11_comesOut_215 : decode cX11_comesOut 215 = .ok (.laload, 1) := by decide +kernel
theorem dX11_comesOut_216 : decode cX11_comesOut 216 = .ok (.lstore 7, 2) := by decide +kernel
theorem dX11_comesOut_218 : decode cX11_comesOut 218 = .ok (.aload_n 0, 1) := by decide +kernel
theorem dX11_comesOut_219 : decode cX11_comesOut 219 = .ok (.getfield 133, 3) := by decide +kernel
theorem dX11_comesOut_222 : decode cX11_comesOut 222 = .ok (.iload 4, 2) := by decide +kernel
theorem dX11_comesOut_224 : decode cX11_comesOut 224 = .ok (.laload, 1) := by decide +kernel
theorem dX11_comesOut_225 : decode cX11_comesOut 225 = .ok (.lstore 9, 2) := by decide +kernel
theorem dX11_comesOut_227 : decode cX11_comesOut 227 = .ok (.lload 9, 2) := by decide +kernel
theorem dX11_comesOut_229 : decode cX11_comesOut 229 = .ok (.lconst 0, 1) := by decide +kernel
theorem dX11_comesOut_230 : decode cX11_comesOut 230 = .ok (.lcmp, 1) := by decide +kernel
theorem dX11_comesOut_231 : decode cX11_comesOut 231 = .ok (.ifCond .ge 9, 3) := by decide +kernel
theorem dX11_comesOut_234 : decode cX11_comesOut 234 = .ok (.lload 9, 2) := by decide +kernel
theorem dX11_comesOut_236 : decode cX11_comesOut 236 = .ok (.lneg, 1) := by decide +kernel
theorem dX11_comesOut_237 : decode cX11_comesOut 237 = .ok (.goto 5, 3) := by decide +kernel
theorem dX11_comesOut_240 : decode cX11_comesOut 240 = .ok (.lload 9, 2) := by decide +kernel
theorem dX11_comesOut_242 : decode cX11_comesOut 242 = .ok (.lstore 11, 2) := by decide +kernel
theorem dX11_comesOut_244 : decode cX11_comesOut 244 = .ok (.lload 7, 2) := by decide +kernel
theorem dX11_comesOut_246 : decode cX11_comesOut 246 = .ok (.lconst 0, 1) := by decide +kernel
theorem dX11_comesOut_247 : decode cX11_comesOut 247 = .ok (.lcmp, 1) := by decide +kernel
theorem dX11_comesOut_248 : decode cX11_comesOut 248 = .ok (.ifCond .ge 9, 3) := by decide +kernel
theorem dX11_comesOut_251 : decode cX11_comesOut 251 = .ok (.lload 7, 2) := by decide +kernel
theorem dX11_comesOut_253 : decode cX11_comesOut 253 = .ok (.lneg, 1) := by decide +kernel
theorem dX11_comesOut_254 : decode cX11_comesOut 254 = .ok (.goto 5, 3) := by decide +kernel
theorem dX11_comesOut_257 : decode cX11_comesOut 257 = .ok (.lload 7, 2) := by decide +kernel
theorem dX11_comesOut_259 : decode cX11_comesOut 259 = .ok (.lstore 13, 2) := by decide +kernel
theorem dX11_comesOut_261 : decode cX11_comesOut 261 = .ok (.iload 6, 2) := by decide +kernel
theorem dX11_comesOut_263 : decode cX11_comesOut 263 = .ok (.bipush 42, 2) := by decide +kernel
theorem dX11_comesOut_265 : decode cX11_comesOut 265 = .ok (.if_icmp .ne 24, 3) := by decide +kernel
theorem dX11_comesOut_268 : decode cX11_comesOut 268 = .ok (.lload 7, 2) := by decide +kernel
theorem dX11_comesOut_270 : decode cX11_comesOut 270 = .ok (.lconst 0, 1) := by decide +kernel
theorem dX11_comesOut_271 : decode cX11_comesOut 271 = .ok (.lcmp, 1) := by decide +kernel
theorem dX11_comesOut_272 : decode cX11_comesOut 272 = .ok (.ifCond .eq 17, 3) := by decide +kernel
theorem dX11_comesOut_275 : decode cX11_comesOut 275 = .ok (.lload 11, 2) := by decide +kernel
theorem dX11_comesOut_277 : decode cX11_comesOut 277 = .ok (.ldc2_w 375, 3) := by decide +kernel
theorem dX11_comesOut_280 : decode cX11_comesOut 280 = .ok (.lload 13, 2) := by decide +kernel
theorem dX11_comesOut_282 : decode cX11_comesOut 282 = .ok (.ldiv, 1) := by decide +kernel
theorem dX11_comesOut_283 : decode cX11_comesOut 283 = .ok (.lcmp, 1) := by decide +kernel
theorem dX11_comesOut_284 : decode cX11_comesOut 284 = .ok (.ifCond .le 5, 3) := by decide +kernel
theorem dX11_comesOut_287 : decode cX11_comesOut 287 = .ok (.iconst 0, 1) := by decide +kernel
theorem dX11_comesOut_288 : decode cX11_comesOut 288 = .ok (.ireturn, 1) := by decide +kernel
theorem dX11_comesOut_289 : decode cX11_comesOut 289 = .ok (.aload_n 0, 1) := by decide +kernel
theorem dX11_comesOut_290 : decode cX11_comesOut 290 = .ok (.getfield 133, 3) := by decide +kernel
theorem dX11_comesOut_293 : decode cX11_comesOut 293 = .ok (.iload 4, 2) := by decide +kernel
theorem dX11_comesOut_295 : decode cX11_comesOut 295 = .ok (.iconst 1, 1) := by decide +kernel
theorem dX11_comesOut_296 : decode cX11_comesOut 296 = .ok (.isub, 1) := by decide +kernel
theorem dX11_comesOut_297 : decode cX11_comesOut 297 = .ok (.iload 6, 2) := by decide +kernel
theorem dX11_comesOut_299 : decode cX11_comesOut 299 = .ok (.bipush 42, 2) := by decide +kernel
theorem dX11_comesOut_301 : decode cX11_comesOut 301 = .ok (.if_icmp .ne 11, 3) := by decide +kernel
theorem dX11_comesOut_304 : decode cX11_comesOut 304 = .ok (.lload 7, 2) := by decide +kernel
theorem dX11_comesOut_306 : decode cX11_comesOut 306 = .ok (.lload 9, 2) := by decide +kernel
theorem dX11_comesOut_308 : decode cX11_comesOut 308 = .ok (.lmul, 1) := by decide +kernel
theorem dX11_comesOut_309 : decode cX11_comesOut 309 = .ok (.goto 23, 3) := by decide +kernel
theorem dX11_comesOut_312 : decode cX11_comesOut 312 = .ok (.iload 6, 2) := by decide +kernel
theorem dX11_comesOut_314 : decode cX11_comesOut 314 = .ok (.bipush 43, 2) := by decide +kernel
theorem dX11_comesOut_316 : decode cX11_comesOut 316 = .ok (.if_icmp .ne 11, 3) := by decide +kernel
theorem dX11_comesOut_319 : decode cX11_comesOut 319 = .ok (.lload 7, 2) := by decide +kernel
theorem dX11_comesOut_321 : decode cX11_comesOut 321 = .ok (.lload 9, 2) := by decide +kernel
theorem dX11_comesOut_323 : decode cX11_comesOut 323 = .ok (.ladd, 1) := by decide +kernel
theorem dX11_comesOut_324 : decode cX11_comesOut 324 = .ok (.goto 8, 3) := by decide +kernel
theorem dX11_comesOut_327 : decode cX11_comesOut 327 = .ok (.lload 7, 2) := by decide +kernel
theorem dX11_comesOut_329 : decode cX11_comesOut 329 = .ok (.lload 9, 2) := by decide +kernel
theorem dX11_comesOut_331 : decode cX11_comesOut 331 = .ok (.lsub, 1) := by decide +kernel
theorem dX11_comesOut_332 : decode cX11_comesOut 332 = .ok (.lastore, 1) := by decide +kernel
theorem dX11_comesOut_333 : decode cX11_comesOut 333 = .ok (.aload_n 0, 1) := by decide +kernel
theorem dX11_comesOut_334 : decode cX11_comesOut 334 = .ok (.getfield 133, 3) := by decide +kernel
theorem dX11_comesOut_337 : decode cX11_comesOut 337 = .ok (.iload 4, 2) := by decide +kernel
theorem dX11_comesOut_339 : decode cX11_comesOut 339 = .ok (.iconst 1, 1) := by decide +kernel
theorem dX11_comesOut_340 : decode cX11_comesOut 340 = .ok (.isub, 1) := by decide +kernel
theorem dX11_comesOut_341 : decode cX11_comesOut 341 = .ok (.laload, 1) := by decide +kernel
theorem dX11_comesOut_342 : decode cX11_comesOut 342 = .ok (.invokestatic 386, 3) := by decide +kernel
theorem dX11_comesOut_345 : decode cX11_comesOut 345 = .ok (.ifCond .ne 5, 3) := by decide +kernel
theorem dX11_comesOut_348 : decode cX11_comesOut 348 = .ok (.iconst 0, 1) := by decide +kernel
theorem dX11_comesOut_349 : decode cX11_comesOut 349 = .ok (.ireturn, 1) := by decide +kernel
theorem dX11_comesOut_350 : decode cX11_comesOut 350 = .ok (.iinc 5 1, 3) := by decide +kernel
theorem dX11_comesOut_353 : decode cX11_comesOut 353 = .ok (.goto (-314), 3) := by decide +kernel
theorem dX11_comesOut_356 : decode cX11_comesOut 356 = .ok (.aload_n 0, 1) := by decide +kernel
theorem dX11_comesOut_357 : decode cX11_comesOut 357 = .ok (.getfield 130, 3) := by decide +kernel
theorem dX11_comesOut_360 : decode cX11_comesOut 360 = .ok (.iload_n 1, 1) := by decide +kernel
theorem dX11_comesOut_361 : decode cX11_comesOut 361 = .ok (.aload_n 0, 1) := by decide +kernel
theorem dX11_comesOut_362 : decode cX11_comesOut 362 = .ok (.getfield 133, 3) := by decide +kernel
theorem dX11_comesOut_365 : decode cX11_comesOut 365 = .ok (.iload 4, 2) := by decide +kernel
theorem dX11_comesOut_367 : decode cX11_comesOut 367 = .ok (.iconst 1, 1) := by decide +kernel
theorem dX11_comesOut_368 : decode cX11_comesOut 368 = .ok (.isub, 1) := by decide +kernel
theorem dX11_comesOut_369 : decode cX11_comesOut 369 = .ok (.laload, 1) := by decide +kernel
theorem dX11_comesOut_370 : decode cX11_comesOut 370 = .ok (.lastore, 1) := by decide +kernel
theorem dX11_comesOut_371 : decode cX11_comesOut 371 = .ok (.iconst 1, 1) := by decide +kernel
theorem dX11_comesOut_372 : decode cX11_comesOut 372 = .ok (.ireturn, 1) := by decide +kernel
theorem dX11_worksConstants_0 : decode cX11_worksConstants 0 = .ok (.aload_n 0, 1) := by decide +kernel
theorem dX11_worksConstants_1 : decode cX11_worksConstants 1 = .ok (.getfield 136, 3) := by decide +kernel
theorem dX11_worksConstants_4 : decode cX11_worksConstants 4 = .ok (.aload_n 0, 1) := by decide +kernel
theorem dX11_worksConstants_5 : decode cX11_worksConstants 5 = .ok (.getfield 369, 3) := by decide +kernel
theorem dX11_worksConstants_8 : decode cX11_worksConstants 8 = .ok (.if_icmp .ne 4, 3) := by decide +kernel
theorem dX11_worksConstants_11 : decode cX11_worksConstants 11 = .ok (.return_, 1) := by decide +kernel
theorem dX11_worksConstants_12 : decode cX11_worksConstants 12 = .ok (.aload_n 0, 1) := by decide +kernel
theorem dX11_worksConstants_13 : decode cX11_worksConstants 13 = .ok (.aload_n 0, 1) := by decide +kernel
theorem dX11_worksConstants_14 : decode cX11_worksConstants 14 = .ok (.getfield 369, 3) := by decide +kernel
theorem dX11_worksConstants_17 : decode cX11_worksConstants 17 = .ok (.putfield 136, 3) := by decide +kernel
theorem dX11_worksConstants_20 : decode cX11_worksConstants 20 = .ok (.iconst 0, 1) := by decide +kernel
theorem dX11_worksConstants_21 : decode cX11_worksConstants 21 = .ok (.istore_n 1, 1) := by decide +kernel
theorem dX11_worksConstants_22 : decode cX11_worksConstants 22 = .ok (.iload_n 1, 1) := by decide +kernel
theorem dX11_worksConstants_23 : decode cX11_worksConstants 23 = .ok (.sipush 240, 3) := by decide +kernel
theorem dX11_worksConstants_26 : decode cX11_worksConstants 26 = .ok (.if_icmp .ge 16, 3) := by decide +kernel
theorem dX11_worksConstants_29 : decode cX11_worksConstants 29 = .ok (.aload_n 0, 1) := by decide +kernel
theorem dX11_worksConstants_30 : decode cX11_worksConstants 30 = .ok (.getfield 127, 3) := by decide +kernel
theorem dX11_worksConstants_33 : decode cX11_worksConstants 33 = .ok (.iload_n 1, 1) := by decide +kernel
theorem dX11_worksConstants_34 : decode cX11_worksConstants 34 = .ok (.iconst 0, 1) := by decide +kernel
theorem dX11_worksConstants_35 : decode cX11_worksConstants 35 = .ok (.bastore, 1) := by decide +kernel
theorem dX11_worksConstants_36 : decode cX11_worksConstants 36 = .ok (.iinc 1 1, 3) := by decide +kernel
theorem dX11_worksConstants_39 : decode cX11_worksConstants 39 = .ok (.goto (-17), 3) := by decide +kernel
theorem dX11_worksConstants_42 : decode cX11_worksConstants 42 = .ok (.iconst 1, 1) := by decide +kernel
theorem dX11_worksConstants_43 : decode cX11_worksConstants 43 = .ok (.istore_n 1, 1) := by decide +kernel
theorem dX11_worksConstants_44 : decode cX11_worksConstants 44 = .ok (.iload_n 1, 1) := by decide +kernel
theorem dX11_worksConstants_45 : decode cX11_worksConstants 45 = .ok (.ifCond .eq 98, 3) := by decide +kernel
theorem dX11_worksConstants_48 : decode cX11_worksConstants 48 = .ok (.iconst 0, 1) := by decide +kernel
theorem dX11_worksConstants_49 : decode cX11_worksConstants 49 = .ok (.istore_n 1, 1) := by decide +kernel
theorem dX11_worksConstants_50 : decode cX11_worksConstants 50 = .ok (.iconst 0, 1) := by decide +kernel
theorem dX11_worksConstants_51 : decode cX11_worksConstants 51 = .ok (.istore_n 2, 1) := by decide +kernel
theorem dX11_worksConstants_52 : decode cX11_worksConstants 52 = .ok (.iload_n 2, 1) := by decide +kernel
theorem dX11_worksConstants_53 : decode cX11_worksConstants 53 = .ok (.sipush 240, 3) := by decide +kernel
theorem dX11_worksConstants_56 : decode cX11_worksConstants 56 = .ok (.if_icmp .ge 84, 3) := by decide +kernel
theorem dX11_worksConstants_59 : decode cX11_worksConstants 59 = .ok (.iload_n 2, 1) := by decide +kernel
theorem dX11_worksConstants_60 : decode cX11_worksConstants 60 = .ok (.bipush 8, 2) := by decide +kernel
theorem dX11_worksConstants_62 : decode cX11_worksConstants 62 = .ok (.idiv, 1) := by decide +kernel
theorem dX11_worksConstants_63 : decode cX11_worksConstants 63 = .ok (.istore_n 3, 1) := by decide +kernel
theorem dX11_worksConstants_64 : decode cX11_worksConstants 64 = .ok (.aload_n 0, 1) := by decide +kernel
theorem dX11_worksConstants_65 : decode cX11_worksConstants 65 = .ok (.getfield 127, 3) := by decide +kernel
theorem dX11_worksConstants_68 : decode cX11_worksConstants 68 = .ok (.iload_n 2, 1) := by decide +kernel
theorem dX11_worksConstants_69 : decode cX11_worksConstants 69 = .ok (.baload, 1) := by decide +kernel
theorem dX11_worksConstants_70 : decode cX11_worksConstants 70 = .ok (.ifCond .ne 64, 3) := by decide +kernel
theorem dX11_worksConstants_73 : decode cX11_worksConstants 73 = .ok (.aload_n 0, 1) := by decide +kernel
theorem dX11_worksConstants_74 : decode cX11_worksConstants 74 = .ok (.getfield 56, 3) := by decide +kernel
theorem dX11_worksConstants_77 : decode cX11_worksConstants 77 = .ok (.bipush 30, 2) := by decide +kernel
theorem dX11_worksConstants_79 : decode cX11_worksConstants 79 = .ok (.iload_n 3, 1) := by decide +kernel
theorem dX11_worksConstants_80 : decode cX11_worksConstants 80 = .ok (.iadd, 1) := by decide +kernel
theorem dX11_worksConstants_81 : decode cX11_worksConstants 81 = .ok (.baload, 1) := by decide +kernel
theorem dX11_worksConstants_82 : decode cX11_worksConstants 82 = .ok (.ifCond .eq 52, 3) := by decide +kernel
theorem dX11_worksConstants_85 : decode cX11_worksConstants 85 = .ok (.iload_n 2, 1) := by decide +kernel
theorem dX11_worksConstants_86 : decode cX11_worksConstants 86 = .ok (.bipush 8, 2) := by decide +kernel
theorem dX11_worksConstants_88 : decode cX11_worksConstants 88 = .ok (.irem, 1) := by decide +kernel
theorem dX11_worksConstants_89 : decode cX11_worksConstants 89 = .ok (.aload_n 0, 1) := by decide +kernel
theorem dX11_worksConstants_90 : decode cX11_worksConstants 90 = .ok (.getfield 66, 3) := by decide +kernel
theorem dX11_worksConstants_93 : decode cX11_worksConstants 93 = .ok (.bipush 30, 2) := by decide +kernel
theorem dX11_worksConstants_95 : decode cX11_worksConstants 95 = .ok (.iload_n 3, 1) := by decide +kernel
theorem dX11_worksConstants_96 : decode cX11_worksConstants 96 = .ok (.iadd, 1) := by decide +kernel
theorem dX11_worksConstants_97 : decode cX11_worksConstants 97 = .ok (.iaload, 1) := by decide +kernel
theorem dX11_worksConstants_98 : decode cX11_worksConstants 98 = .ok (.if_icmp .lt 6, 3) := by decide +kernel
theorem dX11_worksConstants_101 : decode cX11_worksConstants 101 = .ok (.goto 33, 3) := by decide +kernel
theorem dX11_worksConstants_104 : decode cX11_worksConstants 104 = .ok (.aload_n 0, 1) := by decide +kernel
theorem dX11_worksConstants_105 : decode cX11_worksConstants 105 = .ok (.getfield 127, 3) := by decide +kernel
theorem dX11_worksConstants_108 : decode cX11_worksConstants 108 = .ok (.iload_n 2, 1) := by decide +kernel
theorem dX11_worksConstants_109 : decode cX11_worksConstants 109 = .ok (.aload_n 0, 1) := by decide +kernel
theorem dX11_worksConstants_110 : decode cX11_worksConstants 110 = .ok (.iload_n 2, 1) := by decide +kernel
theorem dX11_worksConstants_111 : decode cX11_worksConstants 111 = .ok (.invokevirtual 389, 3) := by decide +kernel
theorem dX11_worksConstants_114 : decode cX11_worksConstants 114 = .ok (.bastore, 1) := by decide +kernel
theorem dX11_worksConstants_115 : decode cX11_worksConstants 115 = .ok (.iload_n 1, 1) := by decide +kernel
theorem dX11_worksConstants_116 : decode cX11_worksConstants 116 = .ok (.ifCond .ne 12, 3) := by decide +kernel
theorem dX11_worksConstants_119 : decode cX11_worksConstants 119 = .ok (.aload_n 0, 1) := by decide +kernel
theorem dX11_worksConstants_120 : decode cX11_worksConstants 120 = .ok (.getfield 127, 3) := by decide +kernel
theorem dX11_worksConstants_123 : decode cX11_worksConstants 123 = .ok (.iload_n 2, 1) := by decide +kernel
theorem dX11_worksConstants_124 : decode cX11_worksConstants 124 = .ok (.baload, 1) := by decide +kernel
theorem dX11_worksConstants_125 : decode cX11_worksConstants 125 = .ok (.ifCond .eq 7, 3) := by decide +kernel
theorem dX11_worksConstants_128 : decode cX11_worksConstants 128 = .ok (.iconst 1, 1) := by decide +kernel
theorem dX11_worksConstants_129 : decode cX11_worksConstants 129 = .ok (.goto 4, 3) := by decide +kernel
theorem dX11_worksConstants_132 : decode cX11_worksConstants 132 = .ok (.iconst 0, 1) := by decide +kernel
theorem dX11_worksConstants_133 : decode cX11_worksConstants 133 = .ok (.istore_n 1, 1) := by decide +kernel
theorem dX11_worksConstants_134 : decode cX11_worksConstants 134 = .ok (.iinc 2 1, 3) := by decide +kernel
theorem dX11_worksConstants_137 : decode cX11_worksConstants 137 = .ok (.goto (-85), 3) := by decide +kernel
theorem dX11_worksConstants_140 : decode cX11_worksConstants 140 = .ok (.goto (-96), 3) := by decide +kernel
theorem dX11_worksConstants_143 : decode cX11_worksConstants 143 = .ok (.return_, 1) := by decide +kernel
theorem dX11_constant_0 : decode cX11_constant 0 = .ok (.iload_n 1, 1) := by decide +kernel
theorem dX11_constant_1 : decode cX11_constant 1 = .ok (.invokestatic 360, 3) := by decide +kernel
theorem dX11_constant_4 : decode cX11_constant 4 = .ok (.ifCond .eq 39, 3) := by decide +kernel
theorem dX11_constant_7 : decode cX11_constant 7 = .ok (.aload_n 0, 1) := by decide +kernel
theorem dX11_constant_8 : decode cX11_constant 8 = .ok (.getfield 56, 3) := by decide +kernel
theorem dX11_constant_11 : decode cX11_constant 11 = .ok (.bipush 30, 2) := by decide +kernel
theorem dX11_constant_13 : decode cX11_constant 13 = .ok (.iload_n 1, 1) := by decide +kernel
theorem dX11_constant_14 : decode cX11_constant 14 = .ok (.iadd, 1) := by decide +kernel
theorem dX11_constant_15 : decode cX11_constant 15 = .ok (.sipush 1700, 3) := by decide +kernel
theorem dX11_constant_18 : decode cX11_constant 18 = .ok (.isub, 1) := by decide +kernel
theorem dX11_constant_19 : decode cX11_constant 19 = .ok (.baload, 1) := by decide +kernel
theorem dX11_constant_20 : decode cX11_constant 20 = .ok (.ifCond .eq 23, 3) := by decide +kernel
theorem dX11_constant_23 : decode cX11_constant 23 = .ok (.iload_n 2, 1) := by decide +kernel
theorem dX11_constant_24 : decode cX11_constant 24 = .ok (.aload_n 0, 1) := by decide +kernel
theorem dX11_constant_25 : decode cX11_constant 25 = .ok (.getfield 66, 3) := by decide +kernel
theorem dX11_constant_28 : decode cX11_constant 28 = .ok (.bipush 30, 2) := by decide +kernel
theorem dX11_constant_30 : decode cX11_constant 30 = .ok (.iload_n 1, 1) := by decide +kernel
theorem dX11_constant_31 : decode cX11_constant 31 = .ok (.iadd, 1) := by decide +kernel
theorem dX11_constant_32 : decode cX11_constant 32 = .ok (.sipush 1700, 3) := by decide +kernel
theorem dX11_constant_35 : decode cX11_constant 35 = .ok (.isub, 1) := by decide +kernel
theorem dX11_constant_36 : decode cX11_constant 36 = .ok (.iaload, 1) := by decide +kernel
theorem dX11_constant_37 : decode cX11_constant 37 = .ok (.invokestatic 392, 3) := by decide +kernel
theorem dX11_constant_40 : decode cX11_constant 40 = .ok (.ifCond .ne 7, 3) := by decide +kernel
theorem dX11_constant_43 : decode cX11_constant 43 = .ok (.ldc2_w 396, 3) := by decide +kernel
theorem dX11_constant_46 : decode cX11_constant 46 = .ok (.lreturn, 1) := by decide +kernel
theorem dX11_constant_47 : decode cX11_constant 47 = .ok (.aload_n 0, 1) := by decide +kernel
theorem dX11_constant_48 : decode cX11_constant 48 = .ok (.invokevirtual 398, 3) := by decide +kernel
theorem dX11_constant_51 : decode cX11_constant 51 = .ok (.bipush 8, 2) := by decide +kernel
theorem dX11_constant_53 : decode cX11_constant 53 = .ok (.iload_n 1, 1) := by decide +kernel
theorem dX11_constant_54 : decode cX11_constant 54 = .ok (.sipush 1700, 3) := by decide +kernel
theorem dX11_constant_57 : decode cX11_constant 57 = .ok (.isub, 1) := by decide +kernel
theorem dX11_constant_58 : decode cX11_constant 58 = .ok (.imul, 1) := by decide +kernel
theorem dX11_constant_59 : decode cX11_constant 59 = .ok (.iload_n 2, 1) := by decide +kernel
theorem dX11_constant_60 : decode cX11_constant 60 = .ok (.iadd, 1) := by decide +kernel
theorem dX11_constant_61 : decode cX11_constant 61 = .ok (.istore_n 3, 1) := by decide +kernel
theorem dX11_constant_62 : decode cX11_constant 62 = .ok (.aload_n 0, 1) := by decide +kernel
theorem dX11_constant_63 : decode cX11_constant 63 = .ok (.getfield 127, 3) := by decide +kernel
theorem dX11_constant_66 : decode cX11_constant 66 = .ok (.iload_n 3, 1) := by decide +kernel
theorem dX11_constant_67 : decode cX11_constant 67 = .ok (.baload, 1) := by decide +kernel
theorem dX11_constant_68 : decode cX11_constant 68 = .ok (.ifCond .eq 12, 3) := by decide +kernel
theorem dX11_constant_71 : decode cX11_constant 71 = .ok (.aload_n 0, 1) := by decide +kernel
theorem dX11_constant_72 : decode cX11_constant 72 = .ok (.getfield 130, 3) := by decide +kernel
theorem dX11_constant_75 : decode cX11_constant 75 = .ok (.iload_n 3, 1) := by decide +kernel
theorem dX11_constant_76 : decode cX11_constant 76 = .ok (.laload, 1) := by decide +kernel
theorem dX11_constant_77 : decode cX11_constant 77 = .ok (.goto 6, 3) := by decide +kernel
theorem dX11_constant_80 : decode cX11_constant 80 = .ok (.ldc2_w 396, 3) := by decide +kernel
theorem dX11_constant_83 : decode cX11_constant 83 = .ok (.lreturn, 1) := by decide +kernel
theorem dX11_entry_0 : decode cX11_entry 0 = .ok (.iload_n 1, 1) := by decide +kernel
theorem dX11_entry_1 : decode cX11_entry 1 = .ok (.invokestatic 360, 3) := by decide +kernel
theorem dX11_entry_4 : decode cX11_entry 4 = .ok (.ifCond .eq 19, 3) := by decide +kernel
theorem dX11_entry_7 : decode cX11_entry 7 = .ok (.aload_n 0, 1) := by decide +kernel
theorem dX11_entry_8 : decode cX11_entry 8 = .ok (.getfield 56, 3) := by decide +kernel
theorem dX11_entry_11 : decode cX11_entry 11 = .ok (.bipush 30, 2) := by decide +kernel
theorem dX11_entry_13 : decode cX11_entry 13 = .ok (.iload_n 1, 1) := by decide +kernel
theorem dX11_entry_14 : decode cX11_entry 14 = .ok (.iadd, 1) := by decide +kernel
theorem dX11_entry_15 : decode cX11_entry 15 = .ok (.sipush 1700, 3) := by decide +kernel
theorem dX11_entry_18 : decode cX11_entry 18 = .ok (.isub, 1) := by decide +kernel
theorem dX11_entry_19 : decode cX11_entry 19 = .ok (.baload, 1) := by decide +kernel
theorem dX11_entry_20 : decode cX11_entry 20 = .ok (.ifCond .ne 7, 3) := by decide +kernel
theorem dX11_entry_23 : decode cX11_entry 23 = .ok (.ldc2_w 396, 3) := by decide +kernel
theorem dX11_entry_26 : decode cX11_entry 26 = .ok (.lreturn, 1) := by decide +kernel
theorem dX11_entry_27 : decode cX11_entry 27 = .ok (.bipush 30, 2) := by decide +kernel
theorem dX11_entry_29 : decode cX11_entry 29 = .ok (.iload_n 1, 1) := by decide +kernel
theorem dX11_entry_30 : decode cX11_entry 30 = .ok (.iadd, 1) := by decide +kernel
theorem dX11_entry_31 : decode cX11_entry 31 = .ok (.sipush 1700, 3) := by decide +kernel
theorem dX11_entry_34 : decode cX11_entry 34 = .ok (.isub, 1) := by decide +kernel
theorem dX11_entry_35 : decode cX11_entry 35 = .ok (.istore 4, 2) := by decide +kernel
theorem dX11_entry_37 : decode cX11_entry 37 = .ok (.iload_n 2, 1) := by decide +kernel
theorem dX11_entry_38 : decode cX11_entry 38 = .ok (.aload_n 0, 1) := by decide +kernel
theorem dX11_entry_39 : decode cX11_entry 39 = .ok (.getfield 75, 3) := by decide +kernel
theorem dX11_entry_42 : decode cX11_entry 42 = .ok (.iload 4, 2) := by decide +kernel
theorem dX11_entry_44 : decode cX11_entry 44 = .ok (.iaload, 1) := by decide +kernel
theorem dX11_entry_45 : decode cX11_entry 45 = .ok (.invokestatic 392, 3) := by decide +kernel
theorem dX11_entry_48 : decode cX11_entry 48 = .ok (.ifCond .eq 22, 3) := by decide +kernel
theorem dX11_entry_51 : decode cX11_entry 51 = .ok (.iload_n 3, 1) := by decide +kernel
theorem dX11_entry_52 : decode cX11_entry 52 = .ok (.aload_n 0, 1) := by decide +kernel
theorem dX11_entry_53 : decode cX11_entry 53 = .ok (.getfield 81, 3) := by decide +kernel
theorem dX11_entry_56 : decode cX11_entry 56 = .ok (.bipush 6, 2) := by decide +kernel
theorem dX11_entry_58 : decode cX11_entry 58 = .ok (.iload 4, 2) := by decide +kernel
theorem dX11_entry_60 : decode cX11_entry 60 = .ok (.imul, 1) := by decide +kernel
theorem dX11_entry_61 : decode cX11_entry 61 = .ok (.iload_n 2, 1) := by decide +kernel
theorem dX11_entry_62 : decode cX11_entry 62 = .ok (.iadd, 1) := by decide +kernel
theorem dX11_entry_63 : decode cX11_entry 63 = .ok (.iaload, 1) := by decide +kernel
theorem dX11_entry_64 : decode cX11_entry 64 = .ok (.invokestatic 392, 3) := by decide +kernel
theorem dX11_entry_67 : decode cX11_entry 67 = .ok (.ifCond .ne 7, 3) := by decide +kernel
theorem dX11_entry_70 : decode cX11_entry 70 = .ok (.ldc2_w 396, 3) := by decide +kernel
theorem dX11_entry_73 : decode cX11_entry 73 = .ok (.lreturn, 1) := by decide +kernel
theorem dX11_entry_74 : decode cX11_entry 74 = .ok (.aload_n 0, 1) := by decide +kernel
theorem dX11_entry_75 : decode cX11_entry 75 = .ok (.getfield 124, 3) := by decide +kernel
theorem dX11_entry_78 : decode cX11_entry 78 = .ok (.bipush 72, 2) := by decide +kernel
theorem dX11_entry_80 : decode cX11_entry 80 = .ok (.iload_n 1, 1) := by decide +kernel
theorem dX11_entry_81 : decode cX11_entry 81 = .ok (.sipush 1700, 3) := by decide +kernel
theorem dX11_entry_84 : decode cX11_entry 84 = .ok (.isub, 1) := by decide +kernel
theorem dX11_entry_85 : decode cX11_entry 85 = .ok (.imul, 1) := by decide +kernel
theorem dX11_entry_86 : decode cX11_entry 86 = .ok (.bipush 12, 2) := by decide +kernel
theorem dX11_entry_88 : decode cX11_entry 88 = .ok (.iload_n 2, 1) := by decide +kernel
theorem dX11_entry_89 : decode cX11_entry 89 = .ok (.imul, 1) := by decide +kernel
theorem dX11_entry_90 : decode cX11_entry 90 = .ok (.iadd, 1) := by decide +kernel
theorem dX11_entry_91 : decode cX11_entry 91 = .ok (.iload_n 3, 1) := by decide +kernel
theorem dX11_entry_92 : decode cX11_entry 92 = .ok (.iadd, 1) := by decide +kernel
theorem dX11_entry_93 : decode cX11_entry 93 = .ok (.laload, 1) := by decide +kernel
theorem dX11_entry_94 : decode cX11_entry 94 = .ok (.lreturn, 1) := by decide +kernel
theorem dX11_needs_0 : decode cX11_needs 0 = .ok (.aload_n 0, 1) := by decide +kernel
theorem dX11_needs_1 : decode cX11_needs 1 = .ok (.getfield 56, 3) := by decide +kernel
theorem dX11_needs_4 : decode cX11_needs 4 = .ok (.bipush 30, 2) := by decide +kernel
theorem dX11_needs_6 : decode cX11_needs 6 = .ok (.iload_n 1, 1) := by decide +kernel
theorem dX11_needs_7 : decode cX11_needs 7 = .ok (.iadd, 1) := by decide +kernel
theorem dX11_needs_8 : decode cX11_needs 8 = .ok (.baload, 1) := by decide +kernel
theorem dX11_needs_9 : decode cX11_needs 9 = .ok (.ifCond .ne 7, 3) := by decide +kernel
theorem dX11_needs_12 : decode cX11_needs 12 = .ok (.sipush 803, 3) := by decide +kernel
theorem dX11_needs_15 : decode cX11_needs 15 = .ok (.ireturn, 1) := by decide +kernel
theorem dX11_needs_16 : decode cX11_needs 16 = .ok (.aload_n 0, 1) := by decide +kernel
theorem dX11_needs_17 : decode cX11_needs 17 = .ok (.getfield 112, 3) := by decide +kernel
theorem dX11_needs_20 : decode cX11_needs 20 = .ok (.iload_n 1, 1) := by decide +kernel
theorem dX11_needs_21 : decode cX11_needs 21 = .ok (.iaload, 1) := by decide +kernel
theorem dX11_needs_22 : decode cX11_needs 22 = .ok (.iconst 2, 1) := by decide +kernel
theorem dX11_needs_23 : decode cX11_needs 23 = .ok (.if_icmp .eq 13, 3) := by decide +kernel
theorem dX11_needs_26 : decode cX11_needs 26 = .ok (.aload_n 0, 1) := by decide +kernel
theorem dX11_needs_27 : decode cX11_needs 27 = .ok (.getfield 112, 3) := by decide +kernel
theorem dX11_needs_30 : decode cX11_needs 30 = .ok (.iload_n 1, 1) := by decide +kernel
theorem dX11_needs_31 : decode cX11_needs 31 = .ok (.iaload, 1) := by decide +kernel
theorem dX11_needs_32 : decode cX11_needs 32 = .ok (.iconst 4, 1) := by decide +kernel
theorem dX11_needs_33 : decode cX11_needs 33 = .ok (.if_icmp .ne 5, 3) := by decide +kernel
theorem dX11_needs_36 : decode cX11_needs 36 = .ok (.iconst 0, 1) := by decide +kernel
theorem dX11_needs_37 : decode cX11_needs 37 = .ok (.ireturn, 1) := by decide +kernel
theorem dX11_needs_38 : decode cX11_needs 38 = .ok (.aload_n 0, 1) := by decide +kernel
theorem dX11_needs_39 : decode cX11_needs 39 = .ok (.getfield 112, 3) := by decide +kernel
theorem dX11_needs_42 : decode cX11_needs 42 = .ok (.iload_n 1, 1) := by decide +kernel
theorem dX11_needs_43 : decode cX11_needs 43 = .ok (.iaload, 1) := by decide +kernel
theorem dX11_needs_44 : decode cX11_needs 44 = .ok (.iconst 3, 1) := by decide +kernel
theorem dX11_needs_45 : decode cX11_needs 45 = .ok (.if_icmp .ne 7, 3) := by decide +kernel
theorem dX11_needs_48 : decode cX11_needs 48 = .ok (.sipush 804, 3) := by decide +kernel
theorem dX11_needs_51 : decode cX11_needs 51 = .ok (.ireturn, 1) := by decide +kernel
theorem dX11_needs_52 : decode cX11_needs 52 = .ok (.aload_n 0, 1) := by decide +kernel
theorem dX11_needs_53 : decode cX11_needs 53 = .ok (.getfield 112, 3) := by decide +kernel
theorem dX11_needs_56 : decode cX11_needs 56 = .ok (.iload_n 1, 1) := by decide +kernel
theorem dX11_needs_57 : decode cX11_needs 57 = .ok (.iconst 4, 1) := by decide +kernel
theorem dX11_needs_58 : decode cX11_needs 58 = .ok (.iastore, 1) := by decide +kernel
theorem dX11_needs_59 : decode cX11_needs 59 = .ok (.aload_n 0, 1) := by decide +kernel
theorem dX11_needs_60 : decode cX11_needs 60 = .ok (.getfield 401, 3) := by decide +kernel
theorem dX11_needs_63 : decode cX11_needs 63 = .ok (.sipush 300, 3) := by decide +kernel
theorem dX11_needs_66 : decode cX11_needs 66 = .ok (.if_icmp .ge 17, 3) := by decide +kernel
theorem dX11_needs_69 : decode cX11_needs 69 = .ok (.aload_n 0, 1) := by decide +kernel
theorem dX11_needs_70 : decode cX11_needs 70 = .ok (.getfield 139, 3) := by decide +kernel
theorem dX11_needs_73 : decode cX11_needs 73 = .ok (.aload_n 0, 1) := by decide +kernel
theorem dX11_needs_74 : decode cX11_needs 74 = .ok (.getfield 401, 3) := by decide +kernel
theorem dX11_needs_77 : decode cX11_needs 77 = .ok (.sipush 1700, 3) := by decide +kernel
theorem dX11_needs_80 : decode cX11_needs 80 = .ok (.iload_n 1, 1) := by decide +kernel
theorem dX11_needs_81 : decode cX11_needs 81 = .ok (.iadd, 1) := by decide +kernel
theorem dX11_needs_82 : decode cX11_needs 82 = .ok (.iastore, 1) := by decide +kernel
theorem dX11_needs_83 : decode cX11_needs 83 = .ok (.aload_n 0, 1) := by decide +kernel
theorem dX11_needs_84 : decode cX11_needs 84 = .ok (.dup, 1) := by decide +kernel
theorem dX11_needs_85 : decode cX11_needs 85 = .ok (.getfield 401, 3) := by decide +kernel
theorem dX11_needs_88 : decode cX11_needs 88 = .ok (.iconst 1, 1) := by decide +kernel
theorem dX11_needs_89 : decode cX11_needs 89 = .ok (.iadd, 1) := by decide +kernel
theorem dX11_needs_90 : decode cX11_needs 90 = .ok (.putfield 401, 3) := by decide +kernel
theorem dX11_needs_93 : decode cX11_needs 93 = .ok (.aload_n 0, 1) := by decide +kernel
theorem dX11_needs_94 : decode cX11_needs 94 = .ok (.getfield 60, 3) := by decide +kernel
theorem dX11_needs_97 : decode cX11_needs 97 = .ok (.bipush 30, 2) := by decide +kernel
theorem dX11_needs_99 : decode cX11_needs 99 = .ok (.iload_n 1, 1) := by decide +kernel
theorem dX11_needs_100 : decode cX11_needs 100 = .ok (.iadd, 1) := by decide +kernel
theorem dX11_needs_101 : decode cX11_needs 101 = .ok (.iaload, 1) := by decide +kernel
theorem dX11_needs_102 : decode cX11_needs 102 = .ok (.ifCond .lt 19, 3) := by decide +kernel
theorem dX11_needs_105 : decode cX11_needs 105 = .ok (.aload_n 0, 1) := by decide +kernel
theorem dX11_needs_106 : decode cX11_needs 106 = .ok (.aload_n 0, 1) := by decide +kernel
theorem dX11_needs_107 : decode cX11_needs 107 = .ok (.getfield 60, 3) := by decide +kernel
theorem dX11_needs_110 : decode cX11_needs 110 = .ok (.bipush 30, 2) := by decide +kernel
theorem dX11_needs_112 : decode cX11_needs 112 = .ok (.iload_n 1, 1) := by decide +kernel
theorem dX11_needs_113 : decode cX11_needs 113 = .ok (.iadd, 1) := by decide +kernel
theorem dX11_needs_114 : decode cX11_needs 114 = .ok (.iaload, 1) := by decide +kernel
theorem dX11_needs_115 : decode cX11_needs 115 = .ok (.invokevirtual 404, 3) := by decide +kernel
theorem dX11_needs_118 : decode cX11_needs 118 = .ok (.goto 4, 3) := by decide +kernel
theorem dX11_needs_121 : decode cX11_needs 121 = .ok (.iconst 0, 1) := by decide +kernel
theorem dX11_needs_122 : decode cX11_needs 122 = .ok (.istore_n 2, 1) := by decide +kernel
theorem dX11_needs_123 : decode cX11_needs 123 = .ok (.iload_n 2, 1) := by decide +kernel
theorem dX11_needs_124 : decode cX11_needs 124 = .ok (.ifCond .ne 9, 3) := by decide +kernel
theorem dX11_needs_127 : decode cX11_needs 127 = .ok (.aload_n 0, 1) := by decide +kernel
theorem dX11_needs_128 : decode cX11_needs 128 = .ok (.iload_n 1, 1) := by decide +kernel
theorem dX11_needs_129 : decode cX11_needs 129 = .ok (.invokevirtual 407, 3) := by decide +kernel
theorem dX11_needs_132 : decode cX11_needs 132 = .ok (.istore_n 2, 1) := by decide +kernel
theorem dX11_needs_133 : decode cX11_needs 133 = .ok (.aload_n 0, 1) := by decide +kernel
theorem dX11_needs_134 : decode cX11_needs 134 = .ok (.getfield 112, 3) := by decide +kernel
theorem dX11_needs_137 : decode cX11_needs 137 = .ok (.iload_n 1, 1) := by decide +kernel
theorem dX11_needs_138 : decode cX11_needs 138 = .ok (.iload_n 2, 1) := by decide +kernel
theorem dX11_needs_139 : decode cX11_needs 139 = .ok (.ifCond .ne 7, 3) := by decide +kernel
theorem dX11_needs_142 : decode cX11_needs 142 = .ok (.iconst 2, 1) := by decide +kernel
theorem dX11_needs_143 : decode cX11_needs 143 = .ok (.goto 4, 3) := by decide +kernel
theorem dX11_needs_146 : decode cX11_needs 146 = .ok (.iconst 3, 1) := by decide +kernel
theorem dX11_needs_147 : decode cX11_needs 147 = .ok (.iastore, 1) := by decide +kernel
theorem dX11_needs_148 : decode cX11_needs 148 = .ok (.aload_n 0, 1) := by decide +kernel
theorem dX11_needs_149 : decode cX11_needs 149 = .ok (.getfield 118, 3) := by decide +kernel
theorem dX11_needs_152 : decode cX11_needs 152 = .ok (.iload_n 1, 1) := by decide +kernel
theorem dX11_needs_153 : decode cX11_needs 153 = .ok (.iload_n 2, 1) := by decide +kernel
theorem dX11_needs_154 : decode cX11_needs 154 = .ok (.iastore, 1) := by decide +kernel
theorem dX11_needs_155 : decode cX11_needs 155 = .ok (.iload_n 2, 1) := by decide +kernel
theorem dX11_needs_156 : decode cX11_needs 156 = .ok (.ireturn, 1) := by decide +kernel
theorem dX11_does_0 : decode cX11_does 0 = .ok (.bipush 120, 2) := by decide +kernel
theorem dX11_does_2 : decode cX11_does 2 = .ok (.bipush 30, 2) := by decide +kernel
theorem dX11_does_4 : decode cX11_does 4 = .ok (.iload_n 1, 1) := by decide +kernel
theorem dX11_does_5 : decode cX11_does 5 = .ok (.iadd, 1) := by decide +kernel
theorem dX11_does_6 : decode cX11_does 6 = .ok (.imul, 1) := by decide +kernel
theorem dX11_does_7 : decode cX11_does 7 = .ok (.istore_n 2, 1) := by decide +kernel
theorem dX11_does_8 : decode cX11_does 8 = .ok (.aload_n 0, 1) := by decide +kernel
theorem dX11_does_9 : decode cX11_does 9 = .ok (.getfield 84, 3) := by decide +kernel
theorem dX11_does_12 : decode cX11_does 12 = .ok (.bipush 30, 2) := by decide +kernel
theorem dX11_does_14 : decode cX11_does 14 = .ok (.iload_n 1, 1) := by decide +kernel
theorem dX11_does_15 : decode cX11_does 15 = .ok (.iadd, 1) := by decide +kernel
theorem dX11_does_16 : decode cX11_does 16 = .ok (.iaload, 1) := by decide +kernel
theorem dX11_does_17 : decode cX11_does 17 = .ok (.istore_n 3, 1) := by decide +kernel
theorem dX11_does_18 : decode cX11_does 18 = .ok (.iconst 0, 1) := by decide +kernel
theorem dX11_does_19 : decode cX11_does 19 = .ok (.istore 4, 2) := by decide +kernel
theorem dX11_does_21 : decode cX11_does 21 = .ok (.iconst 0, 1) := by decide +kernel
theorem dX11_does_22 : decode cX11_does 22 = .ok (.istore 5, 2) := by decide +kernel
theorem dX11_does_24 : decode cX11_does 24 = .ok (.iload 5, 2) := by decide +kernel
theorem dX11_does_26 : decode cX11_does 26 = .ok (.iload_n 3, 1) := by decide +kernel
theorem dX11_does_27 : decode cX11_does 27 = .ok (.if_icmp .ge 205, 3) := by decide +kernel
theorem dX11_does_30 : decode cX11_does 30 = .ok (.iconst 0, 1) := by decide +kernel
theorem dX11_does_31 : decode cX11_does 31 = .ok (.istore 6, 2) := by decide +kernel
theorem dX11_does_33 : decode cX11_does 33 = .ok (.iload 5, 2) := by decide +kernel
theorem dX11_does_35 : decode cX11_does 35 = .ok (.iconst 1, 1) := by decide +kernel
theorem dX11_does_36 : decode cX11_does 36 = .ok (.iadd, 1) := by decide +kernel
theorem dX11_does_37 : decode cX11_does 37 = .ok (.istore 7, 2) := by decide +kernel
theorem dX11_does_39 : decode cX11_does 39 = .ok (.aload_n 0, 1) := by decide +kernel
theorem dX11_does_40 : decode cX11_does 40 = .ok (.getfield 87, 3) := by decide +kernel
theorem dX11_does_43 : decode cX11_does 43 = .ok (.iload_n 2, 1) := by decide +kernel
theorem dX11_does_44 : decode cX11_does 44 = .ok (.iload 5, 2) := by decide +kernel
theorem dX11_does_46 : decode cX11_does 46 = .ok (.iadd, 1) := by decide +kernel
theorem dX11_does_47 : decode cX11_does 47 = .ok (.iaload, 1) := by decide +kernel
theorem dX11_does_48 : decode cX11_does 48 = .ok (.tableswitch 148 0 3 #[32, 60, 105, 131], 32) := by decide +kernel
theorem dX11_does_80 : decode cX11_does 80 = .ok (.aload_n 0, 1) := by decide +kernel
theorem dX11_does_81 : decode cX11_does 81 = .ok (.iload_n 1, 1) := by decide +kernel
theorem dX11_does_82 : decode cX11_does 82 = .ok (.aload_n 0, 1) := by decide +kernel
theorem dX11_does_83 : decode cX11_does 83 = .ok (.getfield 93, 3) := by decide +kernel
theorem dX11_does_86 : decode cX11_does 86 = .ok (.iload_n 2, 1) := by decide +kernel
theorem dX11_does_87 : decode cX11_does 87 = .ok (.iload 5, 2) := by decide +kernel
theorem dX11_does_89 : decode cX11_does 89 = .ok (.iadd, 1) := by decide +kernel
theorem dX11_does_90 : decode cX11_does 90 = .ok (.iaload, 1) := by decide +kernel
theorem dX11_does_91 : decode cX11_does 91 = .ok (.aload_n 0, 1) := by decide +kernel
theorem dX11_does_92 : decode cX11_does 92 = .ok (.getfield 90, 3) := by decide +kernel
theorem dX11_does_95 : decode cX11_does 95 = .ok (.iload_n 2, 1) := by decide +kernel
theorem dX11_does_96 : decode cX11_does 96 = .ok (.iload 5, 2) := by decide +kernel
theorem dX11_does_98 : decode cX11_does 98 = .ok (.iadd, 1) := by decide +kernel
theorem dX11_does_99 : decode cX11_does 99 = .ok (.iaload, 1) := by decide +kernel
theorem dX11_does_100 : decode cX11_does 100 = .ok (.invokevirtual 410, 3) := by decide +kernel
theorem dX11_does_103 : decode cX11_does 103 = .ok (.istore 6, 2) := by decide +kernel
theorem dX11_does_105 : decode cX11_does 105 = .ok (.goto 91, 3) := by decide +kernel
theorem dX11_does_108 : decode cX11_does 108 = .ok (.aload_n 0, 1) := by decide +kernel
theorem dX11_does_109 : decode cX11_does 109 = .ok (.iload_n 1, 1) := by decide +kernel
theorem dX11_does_110 : decode cX11_does 110 = .ok (.aload_n 0, 1) := by decide +kernel
theorem dX11_does_111 : decode cX11_does 111 = .ok (.getfield 90, 3) := by decide +kernel
theorem dX11_does_114 : decode cX11_does 114 = .ok (.iload_n 2, 1) := by decide +kernel
theorem dX11_does_115 : decode cX11_does 115 = .ok (.iload 5, 2) := by decide +kernel
theorem dX11_does_117 : decode cX11_does 117 = .ok (.iadd, 1) := by decide +kernel
theorem dX11_does_118 : decode cX11_does 118 = .ok (.iaload, 1) := by decide +kernel
theorem dX11_does_119 : decode cX11_does 119 = .ok (.iconst 0, 1) := by decide +kernel
theorem dX11_does_120 : decode cX11_does 120 = .ok (.invokevirtual 414, 3) := by decide +kernel
theorem dX11_does_123 : decode cX11_does 123 = .ok (.istore 6, 2) := by decide +kernel
theorem dX11_does_125 : decode cX11_does 125 = .ok (.iload 6, 2) := by decide +kernel
theorem dX11_does_127 : decode cX11_does 127 = .ok (.ifCond .ne 69, 3) := by decide +kernel
theorem dX11_does_130 : decode cX11_does 130 = .ok (.aload_n 0, 1) := by decide +kernel
theorem dX11_does_131 : decode cX11_does 131 = .ok (.getfield 417, 3) := by decide +kernel
theorem dX11_does_134 : decode cX11_does 134 = .ok (.lconst 0, 1) := by decide +kernel
theorem dX11_does_135 : decode cX11_does 135 = .ok (.lcmp, 1) := by decide +kernel
theorem dX11_does_136 : decode cX11_does 136 = .ok (.ifCond .ne 60, 3) := by decide +kernel
theorem dX11_does_139 : decode cX11_does 139 = .ok (.aload_n 0, 1) := by decide +kernel
theorem dX11_does_140 : decode cX11_does 140 = .ok (.getfield 93, 3) := by decide +kernel
theorem dX11_does_143 : decode cX11_does 143 = .ok (.iload_n 2, 1) := by decide +kernel
theorem dX11_does_144 : decode cX11_does 144 = .ok (.iload 5, 2) := by decide +kernel
theorem dX11_does_146 : decode cX11_does 146 = .ok (.iadd, 1) := by decide +kernel
theorem dX11_does_147 : decode cX11_does 147 = .ok (.iaload, 1) := by decide +kernel
theorem dX11_does_148 : decode cX11_does 148 = .ok (.istore 6, 2) := by decide +kernel
theorem dX11_does_150 : decode cX11_does 150 = .ok (.goto 46, 3) := by decide +kernel
theorem dX11_does_153 : decode cX11_does 153 = .ok (.aload_n 0, 1) := by decide +kernel
theorem dX11_does_154 : decode cX11_does 154 = .ok (.getfield 142, 3) := by decide +kernel
theorem dX11_does_157 : decode cX11_does 157 = .ok (.iconst 3, 1) := by decide +kernel
theorem dX11_does_158 : decode cX11_does 158 = .ok (.iload_n 1, 1) := by decide +kernel
theorem dX11_does_159 : decode cX11_does 159 = .ok (.imul, 1) := by decide +kernel
theorem dX11_does_160 : decode cX11_does 160 = .ok (.iload 4, 2) := by decide +kernel
theorem dX11_does_162 : decode cX11_does 162 = .ok (.iadd, 1) := by decide +kernel
theorem dX11_does_163 : decode cX11_does 163 = .ok (.aload_n 0, 1) := by decide +kernel
theorem dX11_does_164 : decode cX11_does 164 = .ok (.getfield 93, 3) := by decide +kernel
theorem dX11_does_167 : decode cX11_does 167 = .ok (.iload_n 2, 1) := by decide +kernel
theorem dX11_does_168 : decode cX11_does 168 = .ok (.iload 5, 2) := by decide +kernel
theorem dX11_does_170 : decode cX11_does 170 = .ok (.iadd, 1) := by decide +kernel
theorem dX11_does_171 : decode cX11_does 171 = .ok (.iaload, 1) := by decide +kernel
theorem dX11_does_172 : decode cX11_does 172 = .ok (.iastore, 1) := by decide +kernel
theorem dX11_does_173 : decode cX11_does 173 = .ok (.iinc 4 1, 3) := by decide +kernel
theorem dX11_does_176 : decode cX11_does 176 = .ok (.goto 20, 3) := by decide +kernel
theorem dX11_does_179 : decode cX11_does 179 = .ok (.iinc 4 (-1), 3) := by decide +kernel
theorem dX11_does_182 : decode cX11_does 182 = .ok (.aload_n 0, 1) := by decide +kernel
theorem dX11_does_183 : decode cX11_does 183 = .ok (.getfield 93, 3) := by decide +kernel
theorem dX11_does_186 : decode cX11_does 186 = .ok (.iload_n 2, 1) := by decide +kernel
theorem dX11_does_187 : decode cX11_does 187 = .ok (.iload 5, 2) := by decide +kernel
theorem dX11_does_189 : decode cX11_does 189 = .ok (.iadd, 1) := by decide +kernel
theorem dX11_does_190 : decode cX11_does 190 = .ok (.iaload, 1) := by decide +kernel
theorem dX11_does_191 : decode cX11_does 191 = .ok (.istore 7, 2) := by decide +kernel
theorem dX11_does_193 : decode cX11_does 193 = .ok (.goto 3, 3) := by decide +kernel
theorem dX11_does_196 : decode cX11_does 196 = .ok (.iload 6, 2) := by decide +kernel
theorem dX11_does_198 : decode cX11_does 198 = .ok (.ifCond .eq 27, 3) := by decide +kernel
theorem dX11_does_201 : decode cX11_does 201 = .ok (.iload 4, 2) := by decide +kernel
theorem dX11_does_203 : decode cX11_does 203 = .ok (.ifCond .ne 6, 3) := by decide +kernel
theorem dX11_does_206 : decode cX11_does 206 = .ok (.iload 6, 2) := by decide +kernel
theorem dX11_does_208 : decode cX11_does 208 = .ok (.ireturn, 1) := by decide +kernel
theorem dX11_does_209 : decode cX11_does 209 = .ok (.iinc 4 (-1), 3) := by decide +kernel
theorem dX11_does_212 : decode cX11_does 212 = .ok (.aload_n 0, 1) := by decide +kernel
theorem dX11_does_213 : decode cX11_does 213 = .ok (.getfield 142, 3) := by decide +kernel
theorem dX11_does_216 : decode cX11_does 216 = .ok (.iconst 3, 1) := by decide +kernel
theorem dX11_does_217 : decode cX11_does 217 = .ok (.iload_n 1, 1) := by decide +kernel
theorem dX11_does_218 : decode cX11_does 218 = .ok (.imul, 1) := by decide +kernel
theorem dX11_does_219 : decode cX11_does 219 = .ok (.iload 4, 2) := by decide +kernel
theorem dX11_does_221 : decode cX11_does 221 = .ok (.iadd, 1) := by decide +kernel
theorem dX11_does_222 : decode cX11_does 222 = .ok (.iaload, 1) := by decide +kernel
theorem dX11_does_223 : decode cX11_does 223 = .ok (.istore 7, 2) := by decide +kernel
theorem dX11_does_225 : decode cX11_does 225 = .ok (.iload 7, 2) := by decide +kernel
theorem dX11_does_227 : decode cX11_does 227 = .ok (.istore 5, 2) := by decide +kernel
theorem dX11_does_229 : decode cX11_does 229 = .ok (.goto (-205), 3) := by decide +kernel
theorem dX11_does_232 : decode cX11_does 232 = .ok (.iconst 0, 1) := by decide +kernel
theorem dX11_does_233 : decode cX11_does 233 = .ok (.ireturn, 1) := by decide +kernel
theorem dX11_builds_0 : decode cX11_builds 0 = .ok (.aload_n 0, 1) := by decide +kernel
theorem dX11_builds_1 : decode cX11_builds 1 = .ok (.getfield 81, 3) := by decide +kernel
theorem dX11_builds_4 : decode cX11_builds 4 = .ok (.bipush 6, 2) := by decide +kernel
theorem dX11_builds_6 : decode cX11_builds 6 = .ok (.bipush 30, 2) := by decide +kernel
theorem dX11_builds_8 : decode cX11_builds 8 = .ok (.iload_n 1, 1) := by decide +kernel
theorem dX11_builds_9 : decode cX11_builds 9 = .ok (.iadd, 1) := by decide +kernel
theorem dX11_builds_10 : decode cX11_builds 10 = .ok (.imul, 1) := by decide +kernel
theorem dX11_builds_11 : decode cX11_builds 11 = .ok (.iload_n 2, 1) := by decide +kernel
theorem dX11_builds_12 : decode cX11_builds 12 = .ok (.iadd, 1) := by decide +kernel
theorem dX11_builds_13 : decode cX11_builds 13 = .ok (.iaload, 1) := by decide +kernel
theorem dX11_builds_14 : decode cX11_builds 14 = .ok (.istore 4, 2) := by decide +kernel
theorem dX11_builds_16 : decode cX11_builds 16 = .ok (.iconst 0, 1) := by decide +kernel
theorem dX11_builds_17 : decode cX11_builds 17 = .ok (.istore 5, 2) := by decide +kernel
theorem dX11_builds_19 : decode cX11_builds 19 = .ok (.iload 5, 2) := by decide +kernel
theorem dX11_builds_21 : decode cX11_builds 21 = .ok (.iload 4, 2) := by decide +kernel
theorem dX11_builds_23 : decode cX11_builds 23 = .ok (.if_icmp .ge 48, 3) := by decide +kernel
theorem dX11_builds_26 : decode cX11_builds 26 = .ok (.aload_n 0, 1) := by decide +kernel
theorem dX11_builds_27 : decode cX11_builds 27 = .ok (.iload_n 1, 1) := by decide +kernel
theorem dX11_builds_28 : decode cX11_builds 28 = .ok (.iload_n 3, 1) := by decide +kernel
theorem dX11_builds_29 : decode cX11_builds 29 = .ok (.iload 5, 2) := by decide +kernel
theorem dX11_builds_31 : decode cX11_builds 31 = .ok (.invokevirtual 414, 3) := by decide +kernel
theorem dX11_builds_34 : decode cX11_builds 34 = .ok (.istore 6, 2) := by decide +kernel
theorem dX11_builds_36 : decode cX11_builds 36 = .ok (.iload 6, 2) := by decide +kernel
theorem dX11_builds_38 : decode cX11_builds 38 = .ok (.ifCond .eq 6, 3) := by decide +kernel
theorem dX11_builds_41 : decode cX11_builds 41 = .ok (.iload 6, 2) := by decide +kernel
theorem dX11_builds_43 : decode cX11_builds 43 = .ok (.ireturn, 1) := by decide +kernel
theorem dX11_builds_44 : decode cX11_builds 44 = .ok (.aload_n 0, 1) := by decide +kernel
theorem dX11_builds_45 : decode cX11_builds 45 = .ok (.getfield 124, 3) := by decide +kernel
theorem dX11_builds_48 : decode cX11_builds 48 = .ok (.bipush 72, 2) := by decide +kernel
theorem dX11_builds_50 : decode cX11_builds 50 = .ok (.iload_n 1, 1) := by decide +kernel
theorem dX11_builds_51 : decode cX11_builds 51 = .ok (.imul, 1) := by decide +kernel
theorem dX11_builds_52 : decode cX11_builds 52 = .ok (.bipush 12, 2) := by decide +kernel
theorem dX11_builds_54 : decode cX11_builds 54 = .ok (.iload_n 2, 1) := by decide +kernel
theorem dX11_builds_55 : decode cX11_builds 55 = .ok (.imul, 1) := by decide +kernel
theorem dX11_builds_56 : decode cX11_builds 56 = .ok (.iadd, 1) := by decide +kernel
theorem dX11_builds_57 : decode cX11_builds 57 = .ok (.iload 5, 2) := by decide +kernel
theorem dX11_builds_59 : decode cX11_builds 59 = .ok (.iadd, 1) := by decide +kernel
theorem dX11_builds_60 : decode cX11_builds 60 = .ok (.aload_n 0, 1) := by decide +kernel
theorem dX11_builds_61 : decode cX11_builds 61 = .ok (.getfield 417, 3) := by decide +kernel
theorem dX11_builds_64 : decode cX11_builds 64 = .ok (.lastore, 1) := by decide +kernel
theorem dX11_builds_65 : decode cX11_builds 65 = .ok (.iinc 5 1, 3) := by decide +kernel
theorem dX11_builds_68 : decode cX11_builds 68 = .ok (.goto (-49), 3) := by decide +kernel
theorem dX11_builds_71 : decode cX11_builds 71 = .ok (.iconst 0, 1) := by decide +kernel
theorem dX11_builds_72 : decode cX11_builds 72 = .ok (.ireturn, 1) := by decide +kernel
theorem dX11_tableOf_0 : decode cX11_tableOf 0 = .ok (.iload_n 1, 1) := by decide +kernel
theorem dX11_tableOf_1 : decode cX11_tableOf 1 = .ok (.istore 4, 2) := by decide +kernel
theorem dX11_tableOf_3 : decode cX11_tableOf 3 = .ok (.iconst 0, 1) := by decide +kernel
theorem dX11_tableOf_4 : decode cX11_tableOf 4 = .ok (.istore 5, 2) := by decide +kernel
theorem dX11_tableOf_6 : decode cX11_tableOf 6 = .ok (.iload 5, 2) := by decide +kernel
theorem dX11_tableOf_8 : decode cX11_tableOf 8 = .ok (.bipush 30, 2) := by decide +kernel
theorem dX11_tableOf_10 : decode cX11_tableOf 10 = .ok (.if_icmp .gt 91, 3) := by decide +kernel
theorem dX11_tableOf_13 : decode cX11_tableOf 13 = .ok (.iload 4, 2) := by decide +kernel
theorem dX11_tableOf_15 : decode cX11_tableOf 15 = .ok (.ifCond .lt 86, 3) := by decide +kernel
theorem dX11_tableOf_18 : decode cX11_tableOf 18 = .ok (.aload_n 0, 1) := by decide +kernel
theorem dX11_tableOf_19 : decode cX11_tableOf 19 = .ok (.getfield 56, 3) := by decide +kernel
theorem dX11_tableOf_22 : decode cX11_tableOf 22 = .ok (.bipush 30, 2) := by decide +kernel
theorem dX11_tableOf_24 : decode cX11_tableOf 24 = .ok (.iload 4, 2) := by decide +kernel
theorem dX11_tableOf_26 : decode cX11_tableOf 26 = .ok (.iadd, 1) := by decide +kernel
theorem dX11_tableOf_27 : decode cX11_tableOf 27 = .ok (.baload, 1) := by decide +kernel
theorem dX11_tableOf_28 : decode cX11_tableOf 28 = .ok (.ifCond .eq 73, 3) := by decide +kernel
theorem dX11_tableOf_31 : decode cX11_tableOf 31 = .ok (.bipush 30, 2) := by decide +kernel
theorem dX11_tableOf_33 : decode cX11_tableOf 33 = .ok (.iload 4, 2) := by decide +kernel
theorem dX11_tableOf_35 : decode cX11_tableOf 35 = .ok (.iadd, 1) := by decide +kernel
theorem dX11_tableOf_36 : decode cX11_tableOf 36 = .ok (.istore 6, 2) := by decide +kernel
theorem dX11_tableOf_38 : decode cX11_tableOf 38 = .ok (.iconst 0, 1) := by decide +kernel
theorem dX11_tableOf_39 : decode cX11_tableOf 39 = .ok (.istore 7, 2) := by decide +kernel
theorem dX11_tableOf_41 : decode cX11_tableOf 41 = .ok (.iload 7, 2) := by decide +kernel
theorem dX11_tableOf_43 : decode cX11_tableOf 43 = .ok (.aload_n 0, 1) := by decide +kernel
theorem dX11_tableOf_44 : decode cX11_tableOf 44 = .ok (.getfield 75, 3) := by decide +kernel
theorem dX11_tableOf_47 : decode cX11_tableOf 47 = .ok (.iload 6, 2) := by decide +kernel
theorem dX11_tableOf_49 : decode cX11_tableOf 49 = .ok (.iaload, 1) := by decide +kernel
theorem dX11_tableOf_50 : decode cX11_tableOf 50 = .ok (.if_icmp .ge 36, 3) := by decide +kernel
theorem dX11_tableOf_53 : decode cX11_tableOf 53 = .ok (.aload_n 0, 1) := by decide +kernel
theorem dX11_tableOf_54 : decode cX11_tableOf 54 = .ok (.getfield 78, 3) := by decide +kernel
theorem dX11_tableOf_57 : decode cX11_tableOf 57 = .ok (.bipush 6, 2) := by decide +kernel
theorem dX11_tableOf_59 : decode cX11_tableOf 59 = .ok (.iload 6, 2) := by decide +kernel
theorem dX11_tableOf_61 : decode cX11_tableOf 61 = .ok (.imul, 1) := by decide +kernel
theorem dX11_tableOf_62 : decode cX11_tableOf 62 = .ok (.iload 7, 2) := by decide +kernel
theorem dX11_tableOf_64 : decode cX11_tableOf 64 = .ok (.iadd, 1) := by decide +kernel
theorem dX11_tableOf_65 : decode cX11_tableOf 65 = .ok (.laload, 1) := by decide +kernel
theorem dX11_tableOf_66 : decode cX11_tableOf 66 = .ok (.lload_n 2, 1) := by decide +kernel
theorem dX11_tableOf_67 : decode cX11_tableOf 67 = .ok (.lcmp, 1) := by decide +kernel
theorem dX11_tableOf_68 : decode cX11_tableOf 68 = .ok (.ifCond .ne 12, 3) := by decide +kernel
theorem dX11_tableOf_71 : decode cX11_tableOf 71 = .ok (.bipush 6, 2) := by decide +kernel
theorem dX11_tableOf_73 : decode cX11_tableOf 73 = .ok (.iload 4, 2) := by decide +kernel
theorem dX11_tableOf_75 : decode cX11_tableOf 75 = .ok (.imul, 1) := by decide +kernel
theorem dX11_tableOf_76 : decode cX11_tableOf 76 = .ok (.iload 7, 2) := by decide +kernel
theorem dX11_tableOf_78 : decode cX11_tableOf 78 = .ok (.iadd, 1) := by decide +kernel
theorem dX11_tableOf_79 : decode cX11_tableOf 79 = .ok (.ireturn, 1) := by decide +kernel
theorem dX11_tableOf_80 : decode cX11_tableOf 80 = .ok (.iinc 7 1, 3) := by decide +kernel
theorem dX11_tableOf_83 : decode cX11_tableOf 83 = .ok (.goto (-42), 3) := by decide +kernel
theorem dX11_tableOf_86 : decode cX11_tableOf 86 = .ok (.aload_n 0, 1) := by decide +kernel
theorem dX11_tableOf_87 : decode cX11_tableOf 87 = .ok (.getfield 60, 3) := by decide +kernel
theorem dX11_tableOf_90 : decode cX11_tableOf 90 = .ok (.iload 6, 2) := by decide +kernel
theorem dX11_tableOf_92 : decode cX11_tableOf 92 = .ok (.iaload, 1) := by decide +kernel
theorem dX11_tableOf_93 : decode cX11_tableOf 93 = .ok (.istore 4, 2) := by decide +kernel
theorem dX11_tableOf_95 : decode cX11_tableOf 95 = .ok (.iinc 5 1, 3) := by decide +kernel
theorem dX11_tableOf_98 : decode cX11_tableOf 98 = .ok (.goto (-92), 3) := by decide +kernel
theorem dX11_tableOf_101 : decode cX11_tableOf 101 = .ok (.iconst (-1), 1) := by decide +kernel
theorem dX11_tableOf_102 : decode cX11_tableOf 102 = .ok (.ireturn, 1) := by decide +kernel
theorem dX11_looks_0 : decode cX11_looks 0 = .ok (.iload_n 2, 1) := by decide +kernel
theorem dX11_looks_1 : decode cX11_looks 1 = .ok (.ifCond .lt 11, 3) := by decide +kernel
theorem dX11_looks_4 : decode cX11_looks 4 = .ok (.aload_n 0, 1) := by decide +kernel
theorem dX11_looks_5 : decode cX11_looks 5 = .ok (.iload_n 2, 1) := by decide +kernel
theorem dX11_looks_6 : decode cX11_looks 6 = .ok (.invokevirtual 404, 3) := by decide +kernel
theorem dX11_looks_9 : decode cX11_looks 9 = .ok (.goto 4, 3) := by decide +kernel
theorem dX11_looks_12 : decode cX11_looks 12 = .ok (.iconst 0, 1) := by decide +kernel
theorem dX11_looks_13 : decode cX11_looks 13 = .ok (.istore 7, 2) := by decide +kernel
theorem dX11_looks_15 : decode cX11_looks 15 = .ok (.iload 7, 2) := by decide +kernel
theorem dX11_looks_17 : decode cX11_looks 17 = .ok (.ifCond .eq 6, 3) := by decide +kernel
theorem dX11_looks_20 : decode cX11_looks 20 = .ok (.iload 7, 2) := by decide +kernel
theorem dX11_looks_22 : decode cX11_looks 22 = .ok (.ireturn, 1) := by decide +kernel
theorem dX11_looks_23 : decode cX11_looks 23 = .ok (.aload_n 0, 1) := by decide +kernel
theorem dX11_looks_24 : decode cX11_looks 24 = .ok (.iload_n 2, 1) := by decide +kernel
theorem dX11_looks_25 : decode cX11_looks 25 = .ok (.ifCond .lt 7, 3) := by decide +kernel
theorem dX11_looks_28 : decode cX11_looks 28 = .ok (.iload_n 2, 1) := by decide +kernel
theorem dX11_looks_29 : decode cX11_looks 29 = .ok (.goto 4, 3) := by decide +kernel
theorem dX11_looks_32 : decode cX11_looks 32 = .ok (.iload_n 1, 1) := by decide +kernel
theorem dX11_looks_33 : decode cX11_looks 33 = .ok (.lload_n 3, 1) := by decide +kernel
theorem dX11_looks_34 : decode cX11_looks 34 = .ok (.invokevirtual 420, 3) := by decide +kernel
theorem dX11_looks_37 : decode cX11_looks 37 = .ok (.istore 8, 2) := by decide +kernel
theorem dX11_looks_39 : decode cX11_looks 39 = .ok (.iload 8, 2) := by decide +kernel
theorem dX11_looks_41 : decode cX11_looks 41 = .ok (.ifCond .ge 7, 3) := by decide +kernel
theorem dX11_looks_44 : decode cX11_looks 44 = .ok (.sipush 802, 3) := by decide +kernel
theorem dX11_looks_47 : decode cX11_looks 47 = .ok (.ireturn, 1) := by decide +kernel
theorem dX11_looks_48 : decode cX11_looks 48 = .ok (.iload 8, 2) := by decide +kernel
theorem dX11_looks_50 : decode cX11_looks 50 = .ok (.bipush 6, 2) := by decide +kernel
theorem dX11_looks_52 : decode cX11_looks 52 = .ok (.idiv, 1) := by decide +kernel
theorem dX11_looks_53 : decode cX11_looks 53 = .ok (.istore 9, 2) := by decide +kernel
theorem dX11_looks_55 : decode cX11_looks 55 = .ok (.iload 9, 2) := by decide +kernel
theorem dX11_looks_57 : decode cX11_looks 57 = .ok (.iload_n 1, 1) := by decide +kernel
theorem dX11_looks_58 : decode cX11_looks 58 = .ok (.if_icmp .eq 12, 3) := by decide +kernel
theorem dX11_looks_61 : decode cX11_looks 61 = .ok (.aload_n 0, 1) := by decide +kernel
theorem dX11_looks_62 : decode cX11_looks 62 = .ok (.iload 9, 2) := by decide +kernel
theorem dX11_looks_64 : decode cX11_looks 64 = .ok (.invokevirtual 404, 3) := by decide +kernel
theorem dX11_looks_67 : decode cX11_looks 67 = .ok (.goto 4, 3) := by decide +kernel
theorem dX11_looks_70 : decode cX11_looks 70 = .ok (.iconst 0, 1) := by decide +kernel
theorem dX11_looks_71 : decode cX11_looks 71 = .ok (.istore 7, 2) := by decide +kernel
theorem dX11_looks_73 : decode cX11_looks 73 = .ok (.iload 7, 2) := by decide +kernel
theorem dX11_looks_75 : decode cX11_looks 75 = .ok (.ifCond .eq 6, 3) := by decide +kernel
theorem dX11_looks_78 : decode cX11_looks 78 = .ok (.iload 7, 2) := by decide +kernel
theorem dX11_looks_80 : decode cX11_looks 80 = .ok (.ireturn, 1) := by decide +kernel
theorem dX11_looks_81 : decode cX11_looks 81 = .ok (.lload 5, 2) := by decide +kernel
theorem dX11_looks_83 : decode cX11_looks 83 = .ok (.lconst 0, 1) := by decide +kernel
theorem dX11_looks_84 : decode cX11_looks 84 = .ok (.lcmp, 1) := by decide +kernel
theorem dX11_looks_85 : decode cX11_looks 85 = .ok (.ifCond .lt 29, 3) := by decide +kernel
theorem dX11_looks_88 : decode cX11_looks 88 = .ok (.lload 5, 2) := by decide +kernel
theorem dX11_looks_90 : decode cX11_looks 90 = .ok (.aload_n 0, 1) := by decide +kernel
theorem dX11_looks_91 : decode cX11_looks 91 = .ok (.getfield 81, 3) := by decide +kernel
theorem dX11_looks_94 : decode cX11_looks 94 = .ok (.bipush 6, 2) := by decide +kernel
theorem dX11_looks_96 : decode cX11_looks 96 = .ok (.bipush 30, 2) := by decide +kernel
theorem dX11_looks_98 : decode cX11_looks 98 = .ok (.iload 9, 2) := by decide +kernel
theorem dX11_looks_100 : decode cX11_looks 100 = .ok (.iadd, 1) := by decide +kernel
theorem dX11_looks_101 : decode cX11_looks 101 = .ok (.imul, 1) := by decide +kernel
theorem dX11_looks_102 : decode cX11_looks 102 = .ok (.iload 8, 2) := by decide +kernel
theorem dX11_looks_104 : decode cX11_looks 104 = .ok (.bipush 6, 2) := by decide +kernel
theorem dX11_looks_106 : decode cX11_looks 106 = .ok (.irem, 1) := by decide +kernel
theorem dX11_looks_107 : decode cX11_looks 107 = .ok (.iadd, 1) := by decide +kernel
theorem dX11_looks_108 : decode cX11_looks 108 = .ok (.iaload, 1) := by decide +kernel
theorem dX11_looks_109 : decode cX11_looks 109 = .ok (.i2l, 1) := by decide +kernel
theorem dX11_looks_110 : decode cX11_looks 110 = .ok (.lcmp, 1) := by decide +kernel
theorem dX11_looks_111 : decode cX11_looks 111 = .ok (.ifCond .lt 7, 3) := by decide +kernel
theorem dX11_looks_114 : decode cX11_looks 114 = .ok (.sipush 805, 3) := by decide +kernel
theorem dX11_looks_117 : decode cX11_looks 117 = .ok (.ireturn, 1) := by decide +kernel
theorem dX11_looks_118 : decode cX11_looks 118 = .ok (.aload_n 0, 1) := by decide +kernel
theorem dX11_looks_119 : decode cX11_looks 119 = .ok (.getfield 112, 3) := by decide +kernel
theorem dX11_looks_122 : decode cX11_looks 122 = .ok (.iload 9, 2) := by decide +kernel
theorem dX11_looks_124 : decode cX11_looks 124 = .ok (.iaload, 1) := by decide +kernel
theorem dX11_looks_125 : decode cX11_looks 125 = .ok (.iconst 4, 1) := by decide +kernel
theorem dX11_looks_126 : decode cX11_looks 126 = .ok (.if_icmp .ne 20, 3) := by decide +kernel
theorem dX11_looks_129 : decode cX11_looks 129 = .ok (.iload 9, 2) := by decide +kernel
theorem dX11_looks_131 : decode cX11_looks 131 = .ok (.iload_n 1, 1) := by decide +kernel
theorem dX11_looks_132 : decode cX11_looks 132 = .ok (.if_icmp .eq 14, 3) := by decide +kernel
theorem dX11_looks_135 : decode cX11_looks 135 = .ok (.aload_n 0, 1) := by decide +kernel
theorem dX11_looks_136 : decode cX11_looks 136 = .ok (.getfield 121, 3) := by decide +kernel
theorem dX11_looks_139 : decode cX11_looks 139 = .ok (.iload 9, 2) := by decide +kernel
theorem dX11_looks_141 : decode cX11_looks 141 = .ok (.dup2, 1) := by decide +kernel
theorem dX11_looks_142 : decode cX11_looks 142 = .ok (.iaload, 1) := by decide +kernel
theorem dX11_looks_143 : decode cX11_looks 143 = .ok (.iconst 1, 1) := by decide +kernel
theorem dX11_looks_144 : decode cX11_looks 144 = .ok (.iadd, 1) := by decide +kernel
theorem dX11_looks_145 : decode cX11_looks 145 = .ok (.iastore, 1) := by decide +kernel
theorem dX11_looks_146 : decode cX11_looks 146 = .ok (.aload_n 0, 1) := by decide +kernel
theorem dX11_looks_147 : decode cX11_looks 147 = .ok (.aload_n 0, 1) := by decide +kernel
theorem dX11_looks_148 : decode cX11_looks 148 = .ok (.getfield 124, 3) := by decide +kernel
theorem dX11_looks_151 : decode cX11_looks 151 = .ok (.bipush 72, 2) := by decide +kernel
theorem dX11_looks_153 : decode cX11_looks 153 = .ok (.iload 9, 2) := by decide +kernel
theorem dX11_looks_155 : decode cX11_looks 155 = .ok (.imul, 1) := by decide +kernel
theorem dX11_looks_156 : decode cX11_looks 156 = .ok (.bipush 12, 2) := by decide +kernel
theorem dX11_looks_158 : decode cX11_looks 158 = .ok (.iload 8, 2) := by decide +kernel
theorem dX11_looks_160 : decode cX11_looks 160 = .ok (.bipush 6, 2) := by decide +kernel
theorem dX11_looks_162 : decode cX11_looks 162 = .ok (.irem, 1) := by decide +kernel
theorem dX11_looks_163 : decode cX11_looks 163 = .ok (.imul, 1) := by decide +kernel
theorem dX11_looks_164 : decode cX11_looks 164 = .ok (.iadd, 1) := by decide +kernel
theorem dX11_looks_165 : decode cX11_looks 165 = .ok (.lload 5, 2) := by decide +kernel
theorem dX11_looks_167 : decode cX11_looks 167 = .ok (.l2i, 1) := by decide +kernel
theorem dX11_looks_168 : decode cX11_looks 168 = .ok (.iadd, 1) := by decide +kernel
theorem dX11_looks_169 : decode cX11_looks 169 = .ok (.laload, 1) := by decide +kernel
theorem dX11_looks_170 : decode cX11_looks 170 = .ok (.putfield 417, 3) := by decide +kernel
theorem dX11_looks_173 : decode cX11_looks 173 = .ok (.iconst 0, 1) := by decide +kernel
theorem dX11_looks_174 : decode cX11_looks 174 = .ok (.ireturn, 1) := by decide +kernel
theorem dX11_acted_0 : decode cX11_acted 0 = .ok (.iload_n 0, 1) := by decide +kernel
theorem dX11_acted_1 : decode cX11_acted 1 = .ok (.tableswitch 184 37 61 #[144, 184, 184, 184, 184, 123, 115, 184, 119, 184, 127, 184, 184, 184, 184, 184, 184, 184, 184, 184, 184, 184, 184, 172, 160], 115) := by decide +kernel
theorem dX11_acted_116 : decode cX11_acted 116 = .ok (.lload_n 1, 1) := by decide +kernel
theorem dX11_acted_117 : decode cX11_acted 117 = .ok (.lload_n 3, 1) := by decide +kernel
theorem dX11_acted_118 : decode cX11_acted 118 = .ok (.ladd, 1) := by decide +kernel
theorem dX11_acted_119 : decode cX11_acted 119 = .ok (.lreturn, 1) := by decide +kernel
theorem dX11_acted_120 : decode cX11_acted 120 = .ok (.lload_n 1, 1) := by decide +kernel
theorem dX11_acted_121 : decode cX11_acted 121 = .ok (.lload_n 3, 1) := by decide +kernel
theorem dX11_acted_122 : decode cX11_acted 122 = .ok (.lsub, 1) := by decide +kernel
theorem dX11_acted_123 : decode cX11_acted 123 = .ok (.lreturn, 1) := by decide +kernel
theorem dX11_acted_124 : decode cX11_acted 124 = .ok (.lload_n 1, 1) := by decide +kernel
theorem dX11_acted_125 : decode cX11_acted 125 = .ok (.lload_n 3, 1) := by decide +kernel
theorem dX11_acted_126 : decode cX11_acted 126 = .ok (.lmul, 1) := by decide +kernel
theorem dX11_acted_127 : decode cX11_acted 127 = .ok (.lreturn, 1) := by decide +kernel
theorem dX11_acted_128 : decode cX11_acted 128 = .ok (.lload_n 3, 1) := by decide +kernel
theorem dX11_acted_129 : decode cX11_acted 129 = .ok (.ldc2_w 423, 3) := by decide +kernel
theorem dX11_acted_132 : decode cX11_acted 132 = .ok (.lcmp, 1) := by decide +kernel
theorem dX11_acted_133 : decode cX11_acted 133 = .ok (.ifCond .ne 8, 3) := by decide +kernel
theorem dX11_acted_136 : decode cX11_acted 136 = .ok (.lload_n 1, 1) := by decide +kernel
theorem dX11_acted_137 : decode cX11_acted 137 = .ok (.lneg, 1) := by decide +kernel
theorem dX11_acted_138 : decode cX11_acted 138 = .ok (.goto 6, 3) := by decide +kernel
theorem dX11_acted_141 : decode cX11_acted 141 = .ok (.lload_n 1, 1) := by decide +kernel
theorem dX11_acted_142 : decode cX11_acted 142 = .ok (.lload_n 3, 1) := by decide +kernel
theorem dX11_acted_143 : decode cX11_acted 143 = .ok (.ldiv, 1) := by decide +kernel
theorem dX11_acted_144 : decode cX11_acted 144 = .ok (.lreturn, 1) := by decide +kernel
theorem dX11_acted_145 : decode cX11_acted 145 = .ok (.lload_n 3, 1) := by decide +kernel
theorem dX11_acted_146 : decode cX11_acted 146 = .ok (.ldc2_w 423, 3) := by decide +kernel
theorem dX11_acted_149 : decode cX11_acted 149 = .ok (.lcmp, 1) := by decide +kernel
theorem dX11_acted_150 : decode cX11_acted 150 = .ok (.ifCond .ne 7, 3) := by decide +kernel
theorem dX11_acted_153 : decode cX11_acted 153 = .ok (.lconst 0, 1) := by decide +kernel
theorem dX11_acted_154 : decode cX11_acted 154 = .ok (.goto 6, 3) := by decide +kernel
theorem dX11_acted_157 : decode cX11_acted 157 = .ok (.lload_n 1, 1) := by decide +kernel
theorem dX11_acted_158 : decode cX11_acted 158 = .ok (.lload_n 3, 1) := by decide +kernel
theorem dX11_acted_159 : decode cX11_acted 159 = .ok (.lrem, 1) := by decide +kernel
theorem dX11_acted_160 : decode cX11_acted 160 = .ok (.lreturn, 1) := by decide +kernel
theorem dX11_acted_161 : decode cX11_acted 161 = .ok (.lload_n 1, 1) := by decide +kernel
theorem dX11_acted_162 : decode cX11_acted 162 = .ok (.lload_n 3, 1) := by decide +kernel
theorem dX11_acted_163 : decode cX11_acted 163 = .ok (.lcmp, 1) := by decide +kernel
theorem dX11_acted_164 : decode cX11_acted 164 = .ok (.ifCond .ne 7, 3) := by decide +kernel
theorem dX11_acted_167 : decode cX11_acted 167 = .ok (.lconst 1, 1) := by decide +kernel
theorem dX11_acted_168 : decode cX11_acted 168 = .ok (.goto 4, 3) := by decide +kernel
theorem dX11_acted_171 : decode cX11_acted 171 = .ok (.lconst 0, 1) := by decide +kernel
theorem dX11_acted_172 : decode cX11_acted 172 = .ok (.lreturn, 1) := by decide +kernel
theorem dX11_acted_173 : decode cX11_acted 173 = .ok (.lload_n 1, 1) := by decide +kernel
theorem dX11_acted_174 : decode cX11_acted 174 = .ok (.lload_n 3, 1) := by decide +kernel
theorem dX11_acted_175 : decode cX11_acted 175 = .ok (.lcmp, 1) := by decide +kernel
theorem dX11_acted_176 : decode cX11_acted 176 = .ok (.ifCond .ge 7, 3) := by decide +kernel
theorem dX11_acted_179 : decode cX11_acted 179 = .ok (.lconst 1, 1) := by decide +kernel
theorem dX11_acted_180 : decode cX11_acted 180 = .ok (.goto 4, 3) := by decide +kernel
theorem dX11_acted_183 : decode cX11_acted 183 = .ok (.lconst 0, 1) := by decide +kernel
theorem dX11_acted_184 : decode cX11_acted 184 = .ok (.lreturn, 1) := by decide +kernel
theorem dX11_acted_185 : decode cX11_acted 185 = .ok (.lload_n 1, 1) := by decide +kernel
theorem dX11_acted_186 : decode cX11_acted 186 = .ok (.lload_n 3, 1) := by decide +kernel
theorem dX11_acted_187 : decode cX11_acted 187 = .ok (.lcmp, 1) := by decide +kernel
theorem dX11_acted_188 : decode cX11_acted 188 = .ok (.ifCond .le 7, 3) := by decide +kernel
theorem dX11_acted_191 : decode cX11_acted 191 = .ok (.lconst 1, 1) := by decide +kernel
theorem dX11_acted_192 : decode cX11_acted 192 = .ok (.goto 4, 3) := by decide +kernel
theorem dX11_acted_195 : decode cX11_acted 195 = .ok (.lconst 0, 1) := by decide +kernel
theorem dX11_acted_196 : decode cX11_acted 196 = .ok (.lreturn, 1) := by decide +kernel
theorem dX11_told_0 : decode cX11_told 0 = .ok (.iload_n 1, 1) := by decide +kernel
theorem dX11_told_1 : decode cX11_told 1 = .ok (.tableswitch 52 1 4 #[31, 34, 40, 46], 31) := by decide +kernel
theorem dX11_told_32 : decode cX11_told 32 = .ok (.iload_n 2, 1) := by decide +kernel
theorem dX11_told_33 : decode cX11_told 33 = .ok (.i2l, 1) := by decide +kernel
theorem dX11_told_34 : decode cX11_told 34 = .ok (.lreturn, 1) := by decide +kernel
theorem dX11_told_35 : decode cX11_told 35 = .ok (.aload_n 0, 1) := by decide +kernel
theorem dX11_told_36 : decode cX11_told 36 = .ok (.getfield 425, 3) := by decide +kernel
theorem dX11_told_39 : decode cX11_told 39 = .ok (.i2l, 1) := by decide +kernel
theorem dX11_told_40 : decode cX11_told 40 = .ok (.lreturn, 1) := by decide +kernel
theorem dX11_told_41 : decode cX11_told 41 = .ok (.aload_n 0, 1) := by decide +kernel
theorem dX11_told_42 : decode cX11_told 42 = .ok (.getfield 428, 3) := by decide +kernel
theorem dX11_told_45 : decode cX11_told 45 = .ok (.i2l, 1) := by decide +kernel
theorem dX11_told_46 : decode cX11_told 46 = .ok (.lreturn, 1) := by decide +kernel
theorem dX11_told_47 : decode cX11_told 47 = .ok (.aload_n 0, 1) := by decide +kernel
theorem dX11_told_48 : decode cX11_told 48 = .ok (.getfield 431, 3) := by decide +kernel
theorem dX11_told_51 : decode cX11_told 51 = .ok (.i2l, 1) := by decide +kernel
theorem dX11_told_52 : decode cX11_told 52 = .ok (.lreturn, 1) := by decide +kernel
theorem dX11_told_53 : decode cX11_told 53 = .ok (.aload_n 0, 1) := by decide +kernel
theorem dX11_told_54 : decode cX11_told 54 = .ok (.getfield 434, 3) := by decide +kernel
theorem dX11_told_57 : decode cX11_told 57 = .ok (.i2l, 1) := by decide +kernel
theorem dX11_told_58 : decode cX11_told 58 = .ok (.lreturn, 1) := by decide +kernel
theorem dX11_works_0 : decode cX11_works 0 = .ok (.sipush 1200, 3) := by decide +kernel
theorem dX11_works_3 : decode cX11_works 3 = .ok (.bipush 30, 2) := by decide +kernel
theorem dX11_works_5 : decode cX11_works 5 = .ok (.iload_n 1, 1) := by decide +kernel
theorem dX11_works_6 : decode cX11_works 6 = .ok (.iadd, 1) := by decide +kernel
theorem dX11_works_7 : decode cX11_works 7 = .ok (.imul, 1) := by decide +kernel
theorem dX11_works_8 : decode cX11_works 8 = .ok (.istore 4, 2) := by decide +kernel
theorem dX11_works_10 : decode cX11_works 10 = .ok (.aload_n 0, 1) := by decide +kernel
theorem dX11_works_11 : decode cX11_works 11 = .ok (.getfield 379, 3) := by decide +kernel
theorem dX11_works_14 : decode cX11_works 14 = .ok (.istore 5, 2) := by decide +kernel
theorem dX11_works_16 : decode cX11_works 16 = .ok (.iconst 0, 1) := by decide +kernel
theorem dX11_works_17 : decode cX11_works 17 = .ok (.istore 6, 2) := by decide +kernel
theorem dX11_works_19 : decode cX11_works 19 = .ok (.iload_n 2, 1) := by decide +kernel
theorem dX11_works_20 : decode cX11_works 20 = .ok (.istore 7, 2) := by decide +kernel
theorem dX11_works_22 : decode cX11_works 22 = .ok (.aload_n 0, 1) := by decide +kernel
theorem dX11_works_23 : decode cX11_works 23 = .ok (.getfield 100, 3) := by decide +kernel
theorem dX11_works_26 : decode cX11_works 26 = .ok (.iload 4, 2) := by decide +kernel
theorem dX11_works_28 : decode cX11_works 28 = .ok (.iload 7, 2) := by decide +kernel
theorem dX11_works_30 : decode cX11_works 30 = .ok (.iadd, 1) := by decide +kernel
theorem dX11_works_31 : decode cX11_works 31 = .ok (.iaload, 1) := by decide +kernel
theorem dX11_works_32 : decode cX11_works 32 = .ok (.bipush 11, 2) := by decide +kernel
theorem dX11_works_34 : decode cX11_works 34 = .ok (.if_icmp .eq 408, 3) := by decide +kernel
theorem dX11_works_37 : decode cX11_works 37 = .ok (.iload 6, 2) := by decide +kernel
theorem dX11_works_39 : decode cX11_works 39 = .ok (.ifCond .ne 403, 3) := by decide +kernel
theorem dX11_works_42 : decode cX11_works 42 = .ok (.aload_n 0, 1) := by decide +kernel
theorem dX11_works_43 : decode cX11_works 43 = .ok (.getfield 100, 3) := by decide +kernel
theorem dX11_works_46 : decode cX11_works 46 = .ok (.iload 4, 2) := by decide +kernel
theorem dX11_works_48 : decode cX11_works 48 = .ok (.iload 7, 2) := by decide +kernel
theorem dX11_works_50 : decode cX11_works 50 = .ok (.iadd, 1) := by decide +kernel
theorem dX11_works_51 : decode cX11_works 51 = .ok (.iaload, 1) := by decide +kernel
theorem dX11_works_52 : decode cX11_works 52 = .ok (.istore 8, 2) := by decide +kernel
theorem dX11_works_54 : decode cX11_works 54 = .ok (.aload_n 0, 1) := by decide +kernel
theorem dX11_works_55 : decode cX11_works 55 = .ok (.getfield 103, 3) := by decide +kernel
theorem dX11_works_58 : decode cX11_works 58 = .ok (.iload 4, 2) := by decide +kernel
theorem dX11_works_60 : decode cX11_works 60 = .ok (.iload 7, 2) := by decide +kernel
theorem dX11_works_62 : decode cX11_works 62 = .ok (.iadd, 1) := by decide +kernel
theorem dX11_works_63 : decode cX11_works 63 = .ok (.laload, 1) := by decide +kernel
theorem dX11_works_64 : decode cX11_works 64 = .ok (.lstore 9, 2) := by decide +kernel
theorem dX11_works_66 : decode cX11_works 66 = .ok (.aload_n 0, 1) := by decide +kernel
theorem dX11_works_67 : decode cX11_works 67 = .ok (.getfield 106, 3) := by decide +kernel
theorem dX11_works_70 : decode cX11_works 70 = .ok (.iload 4, 2) := by decide +kernel
theorem dX11_works_72 : decode cX11_works 72 = .ok (.iload 7, 2) := by decide +kernel
theorem dX11_works_74 : decode cX11_works 74 = .ok (.iadd, 1) := by decide +kernel
theorem dX11_works_75 : decode cX11_works 75 = .ok (.iaload, 1) := by decide +kernel
theorem dX11_works_76 : decode cX11_works 76 = .ok (.istore 11, 2) := by decide +kernel
theorem dX11_works_78 : decode cX11_works 78 = .ok (.iinc 7 1, 3) := by decide +kernel
theorem dX11_works_81 : decode cX11_works 81 = .ok (.iload 8, 2) := by decide +kernel
theorem dX11_works_83 : decode cX11_works 83 = .ok (.ifCond .eq 15, 3) := by decide +kernel
theorem dX11_works_86 : decode cX11_works 86 = .ok (.iload 8, 2) := by decide +kernel
theorem dX11_works_88 : decode cX11_works 88 = .ok (.iconst 1, 1) := by decide +kernel
theorem dX11_works_89 : decode cX11_works 89 = .ok (.if_icmp .lt 48, 3) := by decide +kernel
theorem dX11_works_92 : decode cX11_works 92 = .ok (.iload 8, 2) := by decide +kernel
theorem dX11_works_94 : decode cX11_works 94 = .ok (.iconst 5, 1) := by decide +kernel
theorem dX11_works_95 : decode cX11_works 95 = .ok (.if_icmp .gt 42, 3) := by decide +kernel
theorem dX11_works_98 : decode cX11_works 98 = .ok (.aload_n 0, 1) := by decide +kernel
theorem dX11_works_99 : decode cX11_works 99 = .ok (.getfield 133, 3) := by decide +kernel
theorem dX11_works_102 : decode cX11_works 102 = .ok (.aload_n 0, 1) := by decide +kernel
theorem dX11_works_103 : decode cX11_works 103 = .ok (.getfield 379, 3) := by decide +kernel
theorem dX11_works_106 : decode cX11_works 106 = .ok (.iload 8, 2) := by decide +kernel
theorem dX11_works_108 : decode cX11_works 108 = .ok (.ifCond .ne 8, 3) := by decide +kernel
theorem dX11_works_111 : decode cX11_works 111 = .ok (.lload 9, 2) := by decide +kernel
theorem dX11_works_113 : decode cX11_works 113 = .ok (.goto 10, 3) := by decide +kernel
theorem dX11_works_116 : decode cX11_works 116 = .ok (.aload_n 0, 1) := by decide +kernel
theorem dX11_works_117 : decode cX11_works 117 = .ok (.iload 8, 2) := by decide +kernel
theorem dX11_works_119 : decode cX11_works 119 = .ok (.iload_n 3, 1) := by decide +kernel
theorem dX11_works_120 : decode cX11_works 120 = .ok (.invokevirtual 437, 3) := by decide +kernel
theorem dX11_works_123 : decode cX11_works 123 = .ok (.lastore, 1) := by decide +kernel
theorem dX11_works_124 : decode cX11_works 124 = .ok (.aload_n 0, 1) := by decide +kernel
theorem dX11_works_125 : decode cX11_works 125 = .ok (.dup, 1) := by decide +kernel
theorem dX11_works_126 : decode cX11_works 126 = .ok (.getfield 379, 3) := by decide +kernel
theorem dX11_works_129 : decode cX11_works 129 = .ok (.iconst 1, 1) := by decide +kernel
theorem dX11_works_130 : decode cX11_works 130 = .ok (.iadd, 1) := by decide +kernel
theorem dX11_works_131 : decode cX11_works 131 = .ok (.putfield 379, 3) := by decide +kernel
theorem dX11_works_134 : decode cX11_works 134 = .ok (.goto 305, 3) := by decide +kernel
theorem dX11_works_137 : decode cX11_works 137 = .ok (.iload 8, 2) := by decide +kernel
theorem dX11_works_139 : decode cX11_works 139 = .ok (.bipush 6, 2) := by decide +kernel
theorem dX11_works_141 : decode cX11_works 141 = .ok (.if_icmp .ne 78, 3) := by decide +kernel
theorem dX11_works_144 : decode cX11_works 144 = .ok (.aload_n 0, 1) := by decide +kernel
theorem dX11_works_145 : decode cX11_works 145 = .ok (.invokevirtual 398, 3) := by decide +kernel
theorem dX11_works_148 : decode cX11_works 148 = .ok (.aload_n 0, 1) := by decide +kernel
theorem dX11_works_149 : decode cX11_works 149 = .ok (.iload 11, 2) := by decide +kernel
theorem dX11_works_151 : decode cX11_works 151 = .ok (.ifCond .ge 7, 3) := by decide +kernel
theorem dX11_works_154 : decode cX11_works 154 = .ok (.iload_n 1, 1) := by decide +kernel
theorem dX11_works_155 : decode cX11_works 155 = .ok (.goto 5, 3) := by decide +kernel
theorem dX11_works_158 : decode cX11_works 158 = .ok (.iload 11, 2) := by decide +kernel
theorem dX11_works_160 : decode cX11_works 160 = .ok (.lload 9, 2) := by decide +kernel
theorem dX11_works_162 : decode cX11_works 162 = .ok (.invokevirtual 382, 3) := by decide +kernel
theorem dX11_works_165 : decode cX11_works 165 = .ok (.istore 12, 2) := by decide +kernel
theorem dX11_works_167 : decode cX11_works 167 = .ok (.iload 12, 2) := by decide +kernel
theorem dX11_works_169 : decode cX11_works 169 = .ok (.ifCond .lt 13, 3) := by decide +kernel
theorem dX11_works_172 : decode cX11_works 172 = .ok (.aload_n 0, 1) := by decide +kernel
theorem dX11_works_173 : decode cX11_works 173 = .ok (.getfield 127, 3) := by decide +kernel
theorem dX11_works_176 : decode cX11_works 176 = .ok (.iload 12, 2) := by decide +kernel
theorem dX11_works_178 : decode cX11_works 178 = .ok (.baload, 1) := by decide +kernel
theorem dX11_works_179 : decode cX11_works 179 = .ok (.ifCond .ne 11, 3) := by decide +kernel
theorem dX11_works_182 : decode cX11_works 182 = .ok (.sipush 802, 3) := by decide +kernel
theorem dX11_works_185 : decode cX11_works 185 = .ok (.istore 6, 2) := by decide +kernel
theorem dX11_works_187 : decode cX11_works 187 = .ok (.goto 29, 3) := by decide +kernel
theorem dX11_works_190 : decode cX11_works 190 = .ok (.aload_n 0, 1) := by decide +kernel
theorem dX11_works_191 : decode cX11_works 191 = .ok (.getfield 133, 3) := by decide +kernel
theorem dX11_works_194 : decode cX11_works 194 = .ok (.aload_n 0, 1) := by decide +kernel
theorem dX11_works_195 : decode cX11_works 195 = .ok (.getfield 379, 3) := by decide +kernel
theorem dX11_works_198 : decode cX11_works 198 = .ok (.aload_n 0, 1) := by decide +kernel
theorem dX11_works_199 : decode cX11_works 199 = .ok (.getfield 130, 3) := by decide +kernel
theorem dX11_works_202 : decode cX11_works 202 = .ok (.iload 12, 2) := by decide +kernel
theorem dX11_works_204 : decode cX11_works 204 = .ok (.laload, 1) := by decide +kernel
theorem dX11_works_205 : decode cX11_works 205 = .ok (.lastore, 1) := by decide +kernel
theorem dX11_works_206 : decode cX11_works 206 = .ok (.aload_n 0, 1) := by decide +kernel
theorem dX11_works_207 : decode cX11_works 207 = .ok (.dup, 1) := by decide +kernel
theorem dX11_works_208 : decode cX11_works 208 = .ok (.getfield 379, 3) := by decide +kernel
theorem dX11_works_211 : decode cX11_works 211 = .ok (.iconst 1, 1) := by decide +kernel
theorem dX11_works_212 : decode cX11_works 212 = .ok (.iadd, 1) := by decide +kernel
theorem dX11_works_213 : decode cX11_works 213 = .ok (.putfield 379, 3) := by decide +kernel
theorem dX11_works_216 : decode cX11_works 216 = .ok (.goto 223, 3) := by decide +kernel
theorem dX11_works_219 : decode cX11_works 219 = .ok (.iload 8, 2) := by decide +kernel
theorem dX11_works_221 : decode cX11_works 221 = .ok (.bipush 7, 2) := by decide +kernel
theorem dX11_works_223 : decode cX11_works 223 = .ok (.if_icmp .ne 47, 3) := by decide +kernel
theorem dX11_works_226 : decode cX11_works 226 = .ok (.aload_n 0, 1) := by decide +kernel
theorem dX11_works_227 : decode cX11_works 227 = .ok (.getfield 133, 3) := by decide +kernel
theorem dX11_works_230 : decode cX11_works 230 = .ok (.aload_n 0, 1) := by decide +kernel
theorem dX11_works_231 : decode cX11_works 231 = .ok (.getfield 379, 3) := by decide +kernel
theorem dX11_works_234 : decode cX11_works 234 = .ok (.iconst 1, 1) := by decide +kernel
theorem dX11_works_235 : decode cX11_works 235 = .ok (.isub, 1) := by decide +kernel
theorem dX11_works_236 : decode cX11_works 236 = .ok (.laload, 1) := by decide +kernel
theorem dX11_works_237 : decode cX11_works 237 = .ok (.lstore 12, 2) := by decide +kernel
theorem dX11_works_239 : decode cX11_works 239 = .ok (.aload_n 0, 1) := by decide +kernel
theorem dX11_works_240 : decode cX11_works 240 = .ok (.iload_n 1, 1) := by decide +kernel
theorem dX11_works_241 : decode cX11_works 241 = .ok (.iload 11, 2) := by decide +kernel
theorem dX11_works_243 : decode cX11_works 243 = .ok (.lload 9, 2) := by decide +kernel
theorem dX11_works_245 : decode cX11_works 245 = .ok (.lload 12, 2) := by decide +kernel
theorem dX11_works_247 : decode cX11_works 247 = .ok (.invokevirtual 441, 3) := by decide +kernel
theorem dX11_works_250 : decode cX11_works 250 = .ok (.istore 6, 2) := by decide +kernel
theorem dX11_works_252 : decode cX11_works 252 = .ok (.aload_n 0, 1) := by decide +kernel
theorem dX11_works_253 : decode cX11_works 253 = .ok (.getfield 133, 3) := by decide +kernel
theorem dX11_works_256 : decode cX11_works 256 = .ok (.aload_n 0, 1) := by decide +kernel
theorem dX11_works_257 : decode cX11_works 257 = .ok (.getfield 379, 3) := by decide +kernel
theorem dX11_works_260 : decode cX11_works 260 = .ok (.iconst 1, 1) := by decide +kernel
theorem dX11_works_261 : decode cX11_works 261 = .ok (.isub, 1) := by decide +kernel
theorem dX11_works_262 : decode cX11_works 262 = .ok (.aload_n 0, 1) := by decide +kernel
theorem dX11_works_263 : decode cX11_works 263 = .ok (.getfield 417, 3) := by decide +kernel
theorem dX11_works_266 : decode cX11_works 266 = .ok (.lastore, 1) := by decide +kernel
theorem dX11_works_267 : decode cX11_works 267 = .ok (.goto 172, 3) := by decide +kernel
theorem dX11_works_270 : decode cX11_works 270 = .ok (.iload 8, 2) := by decide +kernel
theorem dX11_works_272 : decode cX11_works 272 = .ok (.bipush 8, 2) := by decide +kernel
theorem dX11_works_274 : decode cX11_works 274 = .ok (.if_icmp .ne 29, 3) := by decide +kernel
theorem dX11_works_277 : decode cX11_works 277 = .ok (.aload_n 0, 1) := by decide +kernel
theorem dX11_works_278 : decode cX11_works 278 = .ok (.getfield 133, 3) := by decide +kernel
theorem dX11_works_281 : decode cX11_works 281 = .ok (.aload_n 0, 1) := by decide +kernel
theorem dX11_works_282 : decode cX11_works 282 = .ok (.getfield 379, 3) := by decide +kernel
theorem dX11_works_285 : decode cX11_works 285 = .ok (.iconst 1, 1) := by decide +kernel
theorem dX11_works_286 : decode cX11_works 286 = .ok (.isub, 1) := by decide +kernel
theorem dX11_works_287 : decode cX11_works 287 = .ok (.aload_n 0, 1) := by decide +kernel
theorem dX11_works_288 : decode cX11_works 288 = .ok (.getfield 133, 3) := by decide +kernel
theorem dX11_works_291 : decode cX11_works 291 = .ok (.aload_n 0, 1) := by decide +kernel
theorem dX11_works_292 : decode cX11_works 292 = .ok (.getfield 379, 3) := by decide +kernel
theorem dX11_works_295 : decode cX11_works 295 = .ok (.iconst 1, 1) := by decide +kernel
theorem dX11_works_296 : decode cX11_works 296 = .ok (.isub, 1) := by decide +kernel
theorem dX11_works_297 : decode cX11_works 297 = .ok (.laload, 1) := by decide +kernel
theorem dX11_works_298 : decode cX11_works 298 = .ok (.lneg, 1) := by decide +kernel
theorem dX11_works_299 : decode cX11_works 299 = .ok (.lastore, 1) := by decide +kernel
theorem dX11_works_300 : decode cX11_works 300 = .ok (.goto 139, 3) := by decide +kernel
theorem dX11_works_303 : decode cX11_works 303 = .ok (.iload 8, 2) := by decide +kernel
theorem dX11_works_305 : decode cX11_works 305 = .ok (.bipush 10, 2) := by decide +kernel
theorem dX11_works_307 : decode cX11_works 307 = .ok (.if_icmp .ne 11, 3) := by decide +kernel
theorem dX11_works_310 : decode cX11_works 310 = .ok (.lload 9, 2) := by decide +kernel
theorem dX11_works_312 : decode cX11_works 312 = .ok (.l2i, 1) := by decide +kernel
theorem dX11_works_313 : decode cX11_works 313 = .ok (.istore 7, 2) := by decide +kernel
theorem dX11_works_315 : decode cX11_works 315 = .ok (.goto 124, 3) := by decide +kernel
theorem dX11_works_318 : decode cX11_works 318 = .ok (.iload 8, 2) := by decide +kernel
theorem dX11_works_320 : decode cX11_works 320 = .ok (.bipush 9, 2) := by decide +kernel
theorem dX11_works_322 : decode cX11_works 322 = .ok (.if_icmp .ne 35, 3) := by decide +kernel
theorem dX11_works_325 : decode cX11_works 325 = .ok (.aload_n 0, 1) := by decide +kernel
theorem dX11_works_326 : decode cX11_works 326 = .ok (.dup, 1) := by decide +kernel
theorem dX11_works_327 : decode cX11_works 327 = .ok (.getfield 379, 3) := by decide +kernel
theorem dX11_works_330 : decode cX11_works 330 = .ok (.iconst 1, 1) := by decide +kernel
theorem dX11_works_331 : decode cX11_works 331 = .ok (.isub, 1) := by decide +kernel
theorem dX11_works_332 : decode cX11_works 332 = .ok (.putfield 379, 3) := by decide +kernel
theorem dX11_works_335 : decode cX11_works 335 = .ok (.aload_n 0, 1) := by decide +kernel
theorem dX11_works_336 : decode cX11_works 336 = .ok (.getfield 133, 3) := by decide +kernel
theorem dX11_works_339 : decode cX11_works 339 = .ok (.aload_n 0, 1) := by decide +kernel
theorem dX11_works_340 : decode cX11_works 340 = .ok (.getfield 379, 3) := by decide +kernel
theorem dX11_works_343 : decode cX11_works 343 = .ok (.laload, 1) := by decide +kernel
theorem dX11_works_344 : decode cX11_works 344 = .ok (.lconst 0, 1) := by decide +kernel
theorem dX11_works_345 : decode cX11_works 345 = .ok (.lcmp, 1) := by decide +kernel
theorem dX11_works_346 : decode cX11_works 346 = .ok (.ifCond .ne 93, 3) := by decide +kernel
theorem dX11_works_349 : decode cX11_works 349 = .ok (.lload 9, 2) := by decide +kernel
theorem dX11_works_351 : decode cX11_works 351 = .ok (.l2i, 1) := by decide +kernel
theorem dX11_works_352 : decode cX11_works 352 = .ok (.istore 7, 2) := by decide +kernel
theorem dX11_works_354 : decode cX11_works 354 = .ok (.goto 85, 3) := by decide +kernel
theorem dX11_works_357 : decode cX11_works 357 = .ok (.aload_n 0, 1) := by decide +kernel
theorem dX11_works_358 : decode cX11_works 358 = .ok (.dup, 1) := by decide +kernel
theorem dX11_works_359 : decode cX11_works 359 = .ok (.getfield 379, 3) := by decide +kernel
theorem dX11_works_362 : decode cX11_works 362 = .ok (.iconst 1, 1) := by decide +kernel
theorem dX11_works_363 : decode cX11_works 363 = .ok (.isub, 1) := by decide +kernel
theorem dX11_works_364 : decode cX11_works 364 = .ok (.putfield 379, 3) := by decide +kernel
theorem dX11_works_367 : decode cX11_works 367 = .ok (.iload 8, 2) := by decide +kernel
theorem dX11_works_369 : decode cX11_works 369 = .ok (.bipush 47, 2) := by decide +kernel
theorem dX11_works_371 : decode cX11_works 371 = .ok (.if_icmp .eq 10, 3) := by decide +kernel
theorem dX11_works_374 : decode cX11_works 374 = .ok (.iload 8, 2) := by decide +kernel
theorem dX11_works_376 : decode cX11_works 376 = .ok (.bipush 37, 2) := by decide +kernel
theorem dX11_works_378 : decode cX11_works 378 = .ok (.if_icmp .ne 25, 3) := by decide +kernel
theorem dX11_works_381 : decode cX11_works 381 = .ok (.aload_n 0, 1) := by decide +kernel
theorem dX11_works_382 : decode cX11_works 382 = .ok (.getfield 133, 3) := by decide +kernel
theorem dX11_works_385 : decode cX11_works 385 = .ok (.aload_n 0, 1) := by decide +kernel
theorem dX11_works_386 : decode cX11_works 386 = .ok (.getfield 379, 3) := by decide +kernel
theorem dX11_works_389 : decode cX11_works 389 = .ok (.laload, 1) := by decide +kernel
theorem dX11_works_390 : decode cX11_works 390 = .ok (.lconst 0, 1) := by decide +kernel
theorem dX11_works_391 : decode cX11_works 391 = .ok (.lcmp, 1) := by decide +kernel
theorem dX11_works_392 : decode cX11_works 392 = .ok (.ifCond .ne 11, 3) := by decide +kernel
theorem dX11_works_395 : decode cX11_works 395 = .ok (.sipush 801, 3) := by decide +kernel
theorem dX11_works_398 : decode cX11_works 398 = .ok (.istore 6, 2) := by decide +kernel
theorem dX11_works_400 : decode cX11_works 400 = .ok (.goto 39, 3) := by decide +kernel
theorem dX11_works_403 : decode cX11_works 403 = .ok (.aload_n 0, 1) := by decide +kernel
theorem dX11_works_404 : decode cX11_works 404 = .ok (.getfield 133, 3) := by decide +kernel
theorem dX11_works_407 : decode cX11_works 407 = .ok (.aload_n 0, 1) := by decide +kernel
theorem dX11_works_408 : decode cX11_works 408 = .ok (.getfield 379, 3) := by decide +kernel
theorem dX11_works_411 : decode cX11_works 411 = .ok (.iconst 1, 1) := by decide +kernel
theorem dX11_works_412 : decode cX11_works 412 = .ok (.isub, 1) := by decide +kernel
theorem dX11_works_413 : decode cX11_works 413 = .ok (.iload 8, 2) := by decide +kernel
theorem dX11_works_415 : decode cX11_works 415 = .ok (.aload_n 0, 1) := by decide +kernel
theorem dX11_works_416 : decode cX11_works 416 = .ok (.getfield 133, 3) := by decide +kernel
theorem dX11_works_419 : decode cX11_works 419 = .ok (.aload_n 0, 1) := by decide +kernel
theorem dX11_works_420 : decode cX11_works 420 = .ok (.getfield 379, 3) := by decide +kernel
theorem dX11_works_423 : decode cX11_works 423 = .ok (.iconst 1, 1) := by decide +kernel
theorem dX11_works_424 : decode cX11_works 424 = .ok (.isub, 1) := by decide +kernel
theorem dX11_works_425 : decode cX11_works 425 = .ok (.laload, 1) := by decide +kernel
theorem dX11_works_426 : decode cX11_works 426 = .ok (.aload_n 0, 1) := by decide +kernel
theorem dX11_works_427 : decode cX11_works 427 = .ok (.getfield 133, 3) := by decide +kernel
theorem dX11_works_430 : decode cX11_works 430 = .ok (.aload_n 0, 1) := by decide +kernel
theorem dX11_works_431 : decode cX11_works 431 = .ok (.getfield 379, 3) := by decide +kernel
theorem dX11_works_434 : decode cX11_works 434 = .ok (.laload, 1) := by decide +kernel
theorem dX11_works_435 : decode cX11_works 435 = .ok (.invokestatic 445, 3) := by decide +kernel
theorem dX11_works_438 : decode cX11_works 438 = .ok (.lastore, 1) := by decide +kernel
theorem dX11_works_439 : decode cX11_works 439 = .ok (.goto (-417), 3) := by decide +kernel
theorem dX11_works_442 : decode cX11_works 442 = .ok (.iload 6, 2) := by decide +kernel
theorem dX11_works_444 : decode cX11_works 444 = .ok (.ifCond .ne 18, 3) := by decide +kernel
theorem dX11_works_447 : decode cX11_works 447 = .ok (.aload_n 0, 1) := by decide +kernel
theorem dX11_works_448 : decode cX11_works 448 = .ok (.aload_n 0, 1) := by decide +kernel
theorem dX11_works_449 : decode cX11_works 449 = .ok (.getfield 133, 3) := by decide +kernel
theorem dX11_works_452 : decode cX11_works 452 = .ok (.aload_n 0, 1) := by decide +kernel
theorem dX11_works_453 : decode cX11_works 453 = .ok (.getfield 379, 3) := by decide +kernel
theorem dX11_works_456 : decode cX11_works 456 = .ok (.iconst 1, 1) := by decide +kernel
theorem dX11_works_457 : decode cX11_works 457 = .ok (.isub, 1) := by decide +kernel
theorem dX11_works_458 : decode cX11_works 458 = .ok (.laload, 1) := by decide +kernel
theorem dX11_works_459 : decode cX11_works 459 = .ok (.putfield 417, 3) := by decide +kernel
theorem dX11_works_462 : decode cX11_works 462 = .ok (.aload_n 0, 1) := by decide +kernel
theorem dX11_works_463 : decode cX11_works 463 = .ok (.iload 5, 2) := by decide +kernel
theorem dX11_works_465 : decode cX11_works 465 = .ok (.putfield 379, 3) := by decide +kernel
theorem dX11_works_468 : decode cX11_works 468 = .ok (.iload 6, 2) := by decide +kernel
theorem dX11_works_470 : decode cX11_works 470 = .ok (.ireturn, 1) := by decide +kernel
theorem dX11_need_0 : decode cX11_need 0 = .ok (.iload_n 1, 1) := by decide +kernel
theorem dX11_need_1 : decode cX11_need 1 = .ok (.invokestatic 360, 3) := by decide +kernel
theorem dX11_need_4 : decode cX11_need 4 = .ok (.ifCond .eq 15, 3) := by decide +kernel
theorem dX11_need_7 : decode cX11_need 7 = .ok (.aload_n 0, 1) := by decide +kernel
theorem dX11_need_8 : decode cX11_need 8 = .ok (.iload_n 1, 1) := by decide +kernel
theorem dX11_need_9 : decode cX11_need 9 = .ok (.sipush 1700, 3) := by decide +kernel
theorem dX11_need_12 : decode cX11_need 12 = .ok (.isub, 1) := by decide +kernel
theorem dX11_need_13 : decode cX11_need 13 = .ok (.invokevirtual 404, 3) := by decide +kernel
theorem dX11_need_16 : decode cX11_need 16 = .ok (.goto 4, 3) := by decide +kernel
theorem dX11_need_19 : decode cX11_need 19 = .ok (.iconst (-1), 1) := by decide +kernel
theorem dX11_need_20 : decode cX11_need 20 = .ok (.ireturn, 1) := by decide +kernel
theorem dX11_started_0 : decode cX11_started 0 = .ok (.iload_n 1, 1) := by decide +kernel
theorem dX11_started_1 : decode cX11_started 1 = .ok (.aload_n 0, 1) := by decide +kernel
theorem dX11_started_2 : decode cX11_started 2 = .ok (.getfield 401, 3) := by decide +kernel
theorem dX11_started_5 : decode cX11_started 5 = .ok (.sipush 300, 3) := by decide +kernel
theorem dX11_started_8 : decode cX11_started 8 = .ok (.if_icmp .ge 10, 3) := by decide +kernel
theorem dX11_started_11 : decode cX11_started 11 = .ok (.aload_n 0, 1) := by decide +kernel
theorem dX11_started_12 : decode cX11_started 12 = .ok (.getfield 401, 3) := by decide +kernel
theorem dX11_started_15 : decode cX11_started 15 = .ok (.goto 6, 3) := by decide +kernel
theorem dX11_started_18 : decode cX11_started 18 = .ok (.sipush 300, 3) := by decide +kernel
theorem dX11_started_21 : decode cX11_started 21 = .ok (.invokestatic 392, 3) := by decide +kernel
theorem dX11_started_24 : decode cX11_started 24 = .ok (.ifCond .eq 12, 3) := by decide +kernel
theorem dX11_started_27 : decode cX11_started 27 = .ok (.aload_n 0, 1) := by decide +kernel
theorem dX11_started_28 : decode cX11_started 28 = .ok (.getfield 139, 3) := by decide +kernel
theorem dX11_started_31 : decode cX11_started 31 = .ok (.iload_n 1, 1) := by decide +kernel
theorem dX11_started_32 : decode cX11_started 32 = .ok (.iaload, 1) := by decide +kernel
theorem dX11_started_33 : decode cX11_started 33 = .ok (.goto 4, 3) := by decide +kernel
theorem dX11_started_36 : decode cX11_started 36 = .ok (.iconst (-1), 1) := by decide +kernel
theorem dX11_started_37 : decode cX11_started 37 = .ok (.ireturn, 1) := by decide +kernel
theorem dX11_voyage_0 : decode cX11_voyage 0 = .ok (.aload_n 0, 1) := by decide +kernel
theorem dX11_voyage_1 : decode cX11_voyage 1 = .ok (.getfield 449, 3) := by decide +kernel
theorem dX11_voyage_4 : decode cX11_voyage 4 = .ok (.bipush 20, 2) := by decide +kernel
theorem dX11_voyage_6 : decode cX11_voyage 6 = .ok (.if_icmp .eq 22, 3) := by decide +kernel
theorem dX11_voyage_9 : decode cX11_voyage 9 = .ok (.iload_n 1, 1) := by decide +kernel
theorem dX11_voyage_10 : decode cX11_voyage 10 = .ok (.ldc_w 452, 3) := by decide +kernel
theorem dX11_voyage_13 : decode cX11_voyage 13 = .ok (.invokestatic 392, 3) := by decide +kernel
theorem dX11_voyage_16 : decode cX11_voyage 16 = .ok (.ifCond .eq 12, 3) := by decide +kernel
theorem dX11_voyage_19 : decode cX11_voyage 19 = .ok (.iload_n 2, 1) := by decide +kernel
theorem dX11_voyage_20 : decode cX11_voyage 20 = .ok (.bipush 10, 2) := by decide +kernel
theorem dX11_voyage_22 : decode cX11_voyage 22 = .ok (.invokestatic 392, 3) := by decide +kernel
theorem dX11_voyage_25 : decode cX11_voyage 25 = .ok (.ifCond .ne 5, 3) := by decide +kernel
theorem dX11_voyage_28 : decode cX11_voyage 28 = .ok (.iconst (-1), 1) := by decide +kernel
theorem dX11_voyage_29 : decode cX11_voyage 29 = .ok (.ireturn, 1) := by decide +kernel
theorem dX11_voyage_30 : decode cX11_voyage 30 = .ok (.aload_n 0, 1) := by decide +kernel
theorem dX11_voyage_31 : decode cX11_voyage 31 = .ok (.getfield 145, 3) := by decide +kernel
theorem dX11_voyage_34 : decode cX11_voyage 34 = .ok (.aload_n 0, 1) := by decide +kernel
theorem dX11_voyage_35 : decode cX11_voyage 35 = .ok (.getfield 449, 3) := by decide +kernel
theorem dX11_voyage_38 : decode cX11_voyage 38 = .ok (.iload_n 1, 1) := by decide +kernel
theorem dX11_voyage_39 : decode cX11_voyage 39 = .ok (.iastore, 1) := by decide +kernel
theorem dX11_voyage_40 : decode cX11_voyage 40 = .ok (.aload_n 0, 1) := by decide +kernel
theorem dX11_voyage_41 : decode cX11_voyage 41 = .ok (.getfield 148, 3) := by decide +kernel
theorem dX11_voyage_44 : decode cX11_voyage 44 = .ok (.aload_n 0, 1) := by decide +kernel
theorem dX11_voyage_45 : decode cX11_voyage 45 = .ok (.getfield 449, 3) := by decide +kernel
theorem dX11_voyage_48 : decode cX11_voyage 48 = .ok (.iload_n 2, 1) := by decide +kernel
theorem dX11_voyage_49 : decode cX11_voyage 49 = .ok (.iastore, 1) := by decide +kernel
theorem dX11_voyage_50 : decode cX11_voyage 50 = .ok (.aload_n 0, 1) := by decide +kernel
theorem dX11_voyage_51 : decode cX11_voyage 51 = .ok (.getfield 163, 3) := by decide +kernel
theorem dX11_voyage_54 : decode cX11_voyage 54 = .ok (.aload_n 0, 1) := by decide +kernel
theorem dX11_voyage_55 : decode cX11_voyage 55 = .ok (.getfield 449, 3) := by decide +kernel
theorem dX11_voyage_58 : decode cX11_voyage 58 = .ok (.iconst (-1), 1) := by decide +kernel
theorem dX11_voyage_59 : decode cX11_voyage 59 = .ok (.iastore, 1) := by decide +kernel
theorem dX11_voyage_60 : decode cX11_voyage 60 = .ok (.aload_n 0, 1) := by decide +kernel
theorem dX11_voyage_61 : decode cX11_voyage 61 = .ok (.dup, 1) := by decide +kernel
theorem dX11_voyage_62 : decode cX11_voyage 62 = .ok (.getfield 449, 3) := by decide +kernel
theorem dX11_voyage_65 : decode cX11_voyage 65 = .ok (.iconst 1, 1) := by decide +kernel
theorem dX11_voyage_66 : decode cX11_voyage 66 = .ok (.iadd, 1) := by decide +kernel
theorem dX11_voyage_67 : decode cX11_voyage 67 = .ok (.putfield 449, 3) := by decide +kernel
theorem dX11_voyage_70 : decode cX11_voyage 70 = .ok (.aload_n 0, 1) := by decide +kernel
theorem dX11_voyage_71 : decode cX11_voyage 71 = .ok (.getfield 449, 3) := by decide +kernel
theorem dX11_voyage_74 : decode cX11_voyage 74 = .ok (.iconst 1, 1) := by decide +kernel
theorem dX11_voyage_75 : decode cX11_voyage 75 = .ok (.isub, 1) := by decide +kernel
theorem dX11_voyage_76 : decode cX11_voyage 76 = .ok (.ireturn, 1) := by decide +kernel
theorem dX11_lock_0 : decode cX11_lock 0 = .ok (.iload_n 1, 1) := by decide +kernel
theorem dX11_lock_1 : decode cX11_lock 1 = .ok (.aload_n 0, 1) := by decide +kernel
theorem dX11_lock_2 : decode cX11_lock 2 = .ok (.getfield 449, 3) := by decide +kernel
theorem dX11_lock_5 : decode cX11_lock 5 = .ok (.invokestatic 392, 3) := by decide +kernel
theorem dX11_lock_8 : decode cX11_lock 8 = .ok (.ifCond .eq 44, 3) := by decide +kernel
theorem dX11_lock_11 : decode cX11_lock 11 = .ok (.aload_n 0, 1) := by decide +kernel
theorem dX11_lock_12 : decode cX11_lock 12 = .ok (.getfield 151, 3) := by decide +kernel
theorem dX11_lock_15 : decode cX11_lock 15 = .ok (.iload_n 1, 1) := by decide +kernel
theorem dX11_lock_16 : decode cX11_lock 16 = .ok (.iaload, 1) := by decide +kernel
theorem dX11_lock_17 : decode cX11_lock 17 = .ok (.bipush 8, 2) := by decide +kernel
theorem dX11_lock_19 : decode cX11_lock 19 = .ok (.if_icmp .eq 33, 3) := by decide +kernel
theorem dX11_lock_22 : decode cX11_lock 22 = .ok (.iload_n 2, 1) := by decide +kernel
theorem dX11_lock_23 : decode cX11_lock 23 = .ok (.bipush 100, 2) := by decide +kernel
theorem dX11_lock_25 : decode cX11_lock 25 = .ok (.invokestatic 392, 3) := by decide +kernel
theorem dX11_lock_28 : decode cX11_lock 28 = .ok (.ifCond .eq 24, 3) := by decide +kernel
theorem dX11_lock_31 : decode cX11_lock 31 = .ok (.iload_n 3, 1) := by decide +kernel
theorem dX11_lock_32 : decode cX11_lock 32 = .ok (.invokestatic 360, 3) := by decide +kernel
theorem dX11_lock_35 : decode cX11_lock 35 = .ok (.ifCond .eq 17, 3) := by decide +kernel
theorem dX11_lock_38 : decode cX11_lock 38 = .ok (.iload 4, 2) := by decide +kernel
theorem dX11_lock_40 : decode cX11_lock 40 = .ok (.iconst 1, 1) := by decide +kernel
theorem dX11_lock_41 : decode cX11_lock 41 = .ok (.if_icmp .lt 11, 3) := by decide +kernel
theorem dX11_lock_44 : decode cX11_lock 44 = .ok (.iload 4, 2) := by decide +kernel
theorem dX11_lock_46 : decode cX11_lock 46 = .ok (.sipush 366, 3) := by decide +kernel
theorem dX11_lock_49 : decode cX11_lock 49 = .ok (.if_icmp .le 5, 3) := by decide +kernel
theorem dX11_lock_52 : decode cX11_lock 52 = .ok (.iconst (-1), 1) := by decide +kernel
theorem dX11_lock_53 : decode cX11_lock 53 = .ok (.ireturn, 1) := by decide +kernel
theorem dX11_lock_54 : decode cX11_lock 54 = .ok (.bipush 8, 2) := by decide +kernel
theorem dX11_lock_56 : decode cX11_lock 56 = .ok (.iload_n 1, 1) := by decide +kernel
theorem dX11_lock_57 : decode cX11_lock 57 = .ok (.imul, 1) := by decide +kernel
theorem dX11_lock_58 : decode cX11_lock 58 = .ok (.aload_n 0, 1) := by decide +kernel
theorem dX11_lock_59 : decode cX11_lock 59 = .ok (.getfield 151, 3) := by decide +kernel
theorem dX11_lock_62 : decode cX11_lock 62 = .ok (.iload_n 1, 1) := by decide +kernel
theorem dX11_lock_63 : decode cX11_lock 63 = .ok (.iaload, 1) := by decide +kernel
theorem dX11_lock_64 : decode cX11_lock 64 = .ok (.iadd, 1) := by decide +kernel
theorem dX11_lock_65 : decode cX11_lock 65 = .ok (.istore 5, 2) := by decide +kernel
theorem dX11_lock_67 : decode cX11_lock 67 = .ok (.aload_n 0, 1) := by decide +kernel
theorem dX11_lock_68 : decode cX11_lock 68 = .ok (.getfield 154, 3) := by decide +kernel
theorem dX11_lock_71 : decode cX11_lock 71 = .ok (.iload 5, 2) := by decide +kernel
theorem dX11_lock_73 : decode cX11_lock 73 = .ok (.iload_n 2, 1) := by decide +kernel
theorem dX11_lock_74 : decode cX11_lock 74 = .ok (.iastore, 1) := by decide +kernel
theorem dX11_lock_75 : decode cX11_lock 75 = .ok (.aload_n 0, 1) := by decide +kernel
theorem dX11_lock_76 : decode cX11_lock 76 = .ok (.getfield 157, 3) := by decide +kernel
theorem dX11_lock_79 : decode cX11_lock 79 = .ok (.iload 5, 2) := by decide +kernel
theorem dX11_lock_81 : decode cX11_lock 81 = .ok (.iload_n 3, 1) := by decide +kernel
theorem dX11_lock_82 : decode cX11_lock 82 = .ok (.sipush 1700, 3) := by decide +kernel
theorem dX11_lock_85 : decode cX11_lock 85 = .ok (.isub, 1) := by decide +kernel
theorem dX11_lock_86 : decode cX11_lock 86 = .ok (.iastore, 1) := by decide +kernel
theorem dX11_lock_87 : decode cX11_lock 87 = .ok (.aload_n 0, 1) := by decide +kernel
theorem dX11_lock_88 : decode cX11_lock 88 = .ok (.getfield 160, 3) := by decide +kernel
theorem dX11_lock_91 : decode cX11_lock 91 = .ok (.iload 5, 2) := by decide +kernel
theorem dX11_lock_93 : decode cX11_lock 93 = .ok (.iload 4, 2) := by decide +kernel
theorem dX11_lock_95 : decode cX11_lock 95 = .ok (.iastore, 1) := by decide +kernel
theorem dX11_lock_96 : decode cX11_lock 96 = .ok (.aload_n 0, 1) := by decide +kernel
theorem dX11_lock_97 : decode cX11_lock 97 = .ok (.getfield 151, 3) := by decide +kernel
theorem dX11_lock_100 : decode cX11_lock 100 = .ok (.iload_n 1, 1) := by decide +kernel
theorem dX11_lock_101 : decode cX11_lock 101 = .ok (.dup2, 1) := by decide +kernel
theorem dX11_lock_102 : decode cX11_lock 102 = .ok (.iaload, 1) := by decide +kernel
theorem dX11_lock_103 : decode cX11_lock 103 = .ok (.iconst 1, 1) := by decide +kernel
theorem dX11_lock_104 : decode cX11_lock 104 = .ok (.iadd, 1) := by decide +kernel
theorem dX11_lock_105 : decode cX11_lock 105 = .ok (.iastore, 1) := by decide +kernel
theorem dX11_lock_106 : decode cX11_lock 106 = .ok (.aload_n 0, 1) := by decide +kernel
theorem dX11_lock_107 : decode cX11_lock 107 = .ok (.getfield 151, 3) := by decide +kernel
theorem dX11_lock_110 : decode cX11_lock 110 = .ok (.iload_n 1, 1) := by decide +kernel
theorem dX11_lock_111 : decode cX11_lock 111 = .ok (.iaload, 1) := by decide +kernel
theorem dX11_lock_112 : decode cX11_lock 112 = .ok (.ireturn, 1) := by decide +kernel
theorem dX11_lined_0 : decode cX11_lined 0 = .ok (.aload_n 0, 1) := by decide +kernel
theorem dX11_lined_1 : decode cX11_lined 1 = .ok (.getfield 157, 3) := by decide +kernel
theorem dX11_lined_4 : decode cX11_lined 4 = .ok (.iload_n 1, 1) := by decide +kernel
theorem dX11_lined_5 : decode cX11_lined 5 = .ok (.iaload, 1) := by decide +kernel
theorem dX11_lined_6 : decode cX11_lined 6 = .ok (.istore_n 2, 1) := by decide +kernel
theorem dX11_lined_7 : decode cX11_lined 7 = .ok (.aload_n 0, 1) := by decide +kernel
theorem dX11_lined_8 : decode cX11_lined 8 = .ok (.iload_n 2, 1) := by decide +kernel
theorem dX11_lined_9 : decode cX11_lined 9 = .ok (.invokevirtual 404, 3) := by decide +kernel
theorem dX11_lined_12 : decode cX11_lined 12 = .ok (.istore_n 3, 1) := by decide +kernel
theorem dX11_lined_13 : decode cX11_lined 13 = .ok (.iload_n 3, 1) := by decide +kernel
theorem dX11_lined_14 : decode cX11_lined 14 = .ok (.ifCond .eq 5, 3) := by decide +kernel
theorem dX11_lined_17 : decode cX11_lined 17 = .ok (.iload_n 3, 1) := by decide +kernel
theorem dX11_lined_18 : decode cX11_lined 18 = .ok (.ireturn, 1) := by decide +kernel
theorem dX11_lined_19 : decode cX11_lined 19 = .ok (.iload_n 2, 1) := by decide +kernel
theorem dX11_lined_20 : decode cX11_lined 20 = .ok (.istore 4, 2) := by decide +kernel
theorem dX11_lined_22 : decode cX11_lined 22 = .ok (.iconst 0, 1) := by decide +kernel
theorem dX11_lined_23 : decode cX11_lined 23 = .ok (.istore 5, 2) := by decide +kernel
theorem dX11_lined_25 : decode cX11_lined 25 = .ok (.iload 5, 2) := by decide +kernel
theorem dX11_lined_27 : decode cX11_lined 27 = .ok (.bipush 30, 2) := by decide +kernel
theorem dX11_lined_29 : decode cX11_lined 29 = .ok (.if_icmp .gt 52, 3) := by decide +kernel
theorem dX11_lined_32 : decode cX11_lined 32 = .ok (.iload 4, 2) := by decide +kernel
theorem dX11_lined_34 : decode cX11_lined 34 = .ok (.ifCond .lt 47, 3) := by decide +kernel
theorem dX11_lined_37 : decode cX11_lined 37 = .ok (.aload_n 0, 1) := by decide +kernel
theorem dX11_lined_38 : decode cX11_lined 38 = .ok (.getfield 56, 3) := by decide +kernel
theorem dX11_lined_41 : decode cX11_lined 41 = .ok (.bipush 30, 2) := by decide +kernel
theorem dX11_lined_43 : decode cX11_lined 43 = .ok (.iload 4, 2) := by decide +kernel
theorem dX11_lined_45 : decode cX11_lined 45 = .ok (.iadd, 1) := by decide +kernel
theorem dX11_lined_46 : decode cX11_lined 46 = .ok (.baload, 1) := by decide +kernel
theorem dX11_lined_47 : decode cX11_lined 47 = .ok (.ifCond .eq 34, 3) := by decide +kernel
theorem dX11_lined_50 : decode cX11_lined 50 = .ok (.aload_n 0, 1) := by decide +kernel
theorem dX11_lined_51 : decode cX11_lined 51 = .ok (.getfield 96, 3) := by decide +kernel
theorem dX11_lined_54 : decode cX11_lined 54 = .ok (.bipush 30, 2) := by decide +kernel
theorem dX11_lined_56 : decode cX11_lined 56 = .ok (.iload 4, 2) := by decide +kernel
theorem dX11_lined_58 : decode cX11_lined 58 = .ok (.iadd, 1) := by decide +kernel
theorem dX11_lined_59 : decode cX11_lined 59 = .ok (.iaload, 1) := by decide +kernel
theorem dX11_lined_60 : decode cX11_lined 60 = .ok (.ifCond .ge 21, 3) := by decide +kernel
theorem dX11_lined_63 : decode cX11_lined 63 = .ok (.aload_n 0, 1) := by decide +kernel
theorem dX11_lined_64 : decode cX11_lined 64 = .ok (.getfield 60, 3) := by decide +kernel
theorem dX11_lined_67 : decode cX11_lined 67 = .ok (.bipush 30, 2) := by decide +kernel
theorem dX11_lined_69 : decode cX11_lined 69 = .ok (.iload 4, 2) := by decide +kernel
theorem dX11_lined_71 : decode cX11_lined 71 = .ok (.iadd, 1) := by decide +kernel
theorem dX11_lined_72 : decode cX11_lined 72 = .ok (.iaload, 1) := by decide +kernel
theorem dX11_lined_73 : decode cX11_lined 73 = .ok (.istore 4, 2) := by decide +kernel
theorem dX11_lined_75 : decode cX11_lined 75 = .ok (.iinc 5 1, 3) := by decide +kernel
theorem dX11_lined_78 : decode cX11_lined 78 = .ok (.goto (-53), 3) := by decide +kernel
theorem dX11_lined_81 : decode cX11_lined 81 = .ok (.iload 4, 2) := by decide +kernel
theorem dX11_lined_83 : decode cX11_lined 83 = .ok (.ifCond .lt 29, 3) := by decide +kernel
theorem dX11_lined_86 : decode cX11_lined 86 = .ok (.aload_n 0, 1) := by decide +kernel
theorem dX11_lined_87 : decode cX11_lined 87 = .ok (.getfield 56, 3) := by decide +kernel
theorem dX11_lined_90 : decode cX11_lined 90 = .ok (.bipush 30, 2) := by decide +kernel
theorem dX11_lined_92 : decode cX11_lined 92 = .ok (.iload 4, 2) := by decide +kernel
theorem dX11_lined_94 : decode cX11_lined 94 = .ok (.iadd, 1) := by decide +kernel
theorem dX11_lined_95 : decode cX11_lined 95 = .ok (.baload, 1) := by decide +kernel
theorem dX11_lined_96 : decode cX11_lined 96 = .ok (.ifCond .eq 16, 3) := by decide +kernel
theorem dX11_lined_99 : decode cX11_lined 99 = .ok (.aload_n 0, 1) := by decide +kernel
theorem dX11_lined_100 : decode cX11_lined 100 = .ok (.getfield 96, 3) := by decide +kernel
theorem dX11_lined_103 : decode cX11_lined 103 = .ok (.bipush 30, 2) := by decide +kernel
theorem dX11_lined_105 : decode cX11_lined 105 = .ok (.iload 4, 2) := by decide +kernel
theorem dX11_lined_107 : decode cX11_lined 107 = .ok (.iadd, 1) := by decide +kernel
theorem dX11_lined_108 : decode cX11_lined 108 = .ok (.iaload, 1) := by decide +kernel
theorem dX11_lined_109 : decode cX11_lined 109 = .ok (.ifCond .ge 7, 3) := by decide +kernel
theorem dX11_lined_112 : decode cX11_lined 112 = .ok (.sipush 802, 3) := by decide +kernel
theorem dX11_lined_115 : decode cX11_lined 115 = .ok (.ireturn, 1) := by decide +kernel
theorem dX11_lined_116 : decode cX11_lined 116 = .ok (.aload_n 0, 1) := by decide +kernel
theorem dX11_lined_117 : decode cX11_lined 117 = .ok (.aload_n 0, 1) := by decide +kernel
theorem dX11_lined_118 : decode cX11_lined 118 = .ok (.getfield 154, 3) := by decide +kernel
theorem dX11_lined_121 : decode cX11_lined 121 = .ok (.iload_n 1, 1) := by decide +kernel
theorem dX11_lined_122 : decode cX11_lined 122 = .ok (.iaload, 1) := by decide +kernel
theorem dX11_lined_123 : decode cX11_lined 123 = .ok (.putfield 431, 3) := by decide +kernel
theorem dX11_lined_126 : decode cX11_lined 126 = .ok (.aload_n 0, 1) := by decide +kernel
theorem dX11_lined_127 : decode cX11_lined 127 = .ok (.aload_n 0, 1) := by decide +kernel
theorem dX11_lined_128 : decode cX11_lined 128 = .ok (.getfield 160, 3) := by decide +kernel
theorem dX11_lined_131 : decode cX11_lined 131 = .ok (.iload_n 1, 1) := by decide +kernel
theorem dX11_lined_132 : decode cX11_lined 132 = .ok (.iaload, 1) := by decide +kernel
theorem dX11_lined_133 : decode cX11_lined 133 = .ok (.putfield 434, 3) := by decide +kernel
theorem dX11_lined_136 : decode cX11_lined 136 = .ok (.aload_n 0, 1) := by decide +kernel
theorem dX11_lined_137 : decode cX11_lined 137 = .ok (.iload 4, 2) := by decide +kernel
theorem dX11_lined_139 : decode cX11_lined 139 = .ok (.aload_n 0, 1) := by decide +kernel
theorem dX11_lined_140 : decode cX11_lined 140 = .ok (.getfield 96, 3) := by decide +kernel
theorem dX11_lined_143 : decode cX11_lined 143 = .ok (.bipush 30, 2) := by decide +kernel
theorem dX11_lined_145 : decode cX11_lined 145 = .ok (.iload 4, 2) := by decide +kernel
theorem dX11_lined_147 : decode cX11_lined 147 = .ok (.iadd, 1) := by decide +kernel
theorem dX11_lined_148 : decode cX11_lined 148 = .ok (.iaload, 1) := by decide +kernel
theorem dX11_lined_149 : decode cX11_lined 149 = .ok (.iconst 0, 1) := by decide +kernel
theorem dX11_lined_150 : decode cX11_lined 150 = .ok (.invokevirtual 414, 3) := by decide +kernel
theorem dX11_lined_153 : decode cX11_lined 153 = .ok (.ireturn, 1) := by decide +kernel
theorem dX11_bill_0 : decode cX11_bill 0 = .ok (.iload_n 1, 1) := by decide +kernel
theorem dX11_bill_1 : decode cX11_bill 1 = .ok (.aload_n 0, 1) := by decide +kernel
theorem dX11_bill_2 : decode cX11_bill 2 = .ok (.getfield 449, 3) := by decide +kernel
theorem dX11_bill_5 : decode cX11_bill 5 = .ok (.invokestatic 392, 3) := by decide +kernel
theorem dX11_bill_8 : decode cX11_bill 8 = .ok (.ifCond .eq 12, 3) := by decide +kernel
theorem dX11_bill_11 : decode cX11_bill 11 = .ok (.aload_n 0, 1) := by decide +kernel
theorem dX11_bill_12 : decode cX11_bill 12 = .ok (.getfield 151, 3) := by decide +kernel
theorem dX11_bill_15 : decode cX11_bill 15 = .ok (.iload_n 1, 1) := by decide +kernel
theorem dX11_bill_16 : decode cX11_bill 16 = .ok (.iaload, 1) := by decide +kernel
theorem dX11_bill_17 : decode cX11_bill 17 = .ok (.ifCond .ne 5, 3) := by decide +kernel
theorem dX11_bill_20 : decode cX11_bill 20 = .ok (.iconst (-1), 1) := by decide +kernel
theorem dX11_bill_21 : decode cX11_bill 21 = .ok (.ireturn, 1) := by decide +kernel
theorem dX11_bill_22 : decode cX11_bill 22 = .ok (.aload_n 0, 1) := by decide +kernel
theorem dX11_bill_23 : decode cX11_bill 23 = .ok (.aload_n 0, 1) := by decide +kernel
theorem dX11_bill_24 : decode cX11_bill 24 = .ok (.getfield 145, 3) := by decide +kernel
theorem dX11_bill_27 : decode cX11_bill 27 = .ok (.iload_n 1, 1) := by decide +kernel
theorem dX11_bill_28 : decode cX11_bill 28 = .ok (.iaload, 1) := by decide +kernel
theorem dX11_bill_29 : decode cX11_bill 29 = .ok (.putfield 425, 3) := by decide +kernel
theorem dX11_bill_32 : decode cX11_bill 32 = .ok (.aload_n 0, 1) := by decide +kernel
theorem dX11_bill_33 : decode cX11_bill 33 = .ok (.aload_n 0, 1) := by decide +kernel
theorem dX11_bill_34 : decode cX11_bill 34 = .ok (.getfield 148, 3) := by decide +kernel
theorem dX11_bill_37 : decode cX11_bill 37 = .ok (.iload_n 1, 1) := by decide +kernel
theorem dX11_bill_38 : decode cX11_bill 38 = .ok (.iaload, 1) := by decide +kernel
theorem dX11_bill_39 : decode cX11_bill 39 = .ok (.putfield 428, 3) := by decide +kernel
theorem dX11_bill_42 : decode cX11_bill 42 = .ok (.aload_n 0, 1) := by decide +kernel
theorem dX11_bill_43 : decode cX11_bill 43 = .ok (.getfield 163, 3) := by decide +kernel
theorem dX11_bill_46 : decode cX11_bill 46 = .ok (.iload_n 1, 1) := by decide +kernel
theorem dX11_bill_47 : decode cX11_bill 47 = .ok (.iconst (-1), 1) := by decide +kernel
theorem dX11_bill_48 : decode cX11_bill 48 = .ok (.iastore, 1) := by decide +kernel
theorem dX11_bill_49 : decode cX11_bill 49 = .ok (.lconst 0, 1) := by decide +kernel
theorem dX11_bill_50 : decode cX11_bill 50 = .ok (.lstore_n 2, 1) := by decide +kernel
theorem dX11_bill_51 : decode cX11_bill 51 = .ok (.iconst 0, 1) := by decide +kernel
theorem dX11_bill_52 : decode cX11_bill 52 = .ok (.istore 4, 2) := by decide +kernel
theorem dX11_bill_54 : decode cX11_bill 54 = .ok (.iload 4, 2) := by decide +kernel
theorem dX11_bill_56 : decode cX11_bill 56 = .ok (.aload_n 0, 1) := by decide +kernel
theorem dX11_bill_57 : decode cX11_bill 57 = .ok (.getfield 151, 3) := by decide +kernel
theorem dX11_bill_60 : decode cX11_bill 60 = .ok (.iload_n 1, 1) := by decide +kernel
theorem dX11_bill_61 : decode cX11_bill 61 = .ok (.iaload, 1) := by decide +kernel
theorem dX11_bill_62 : decode cX11_bill 62 = .ok (.if_icmp .ge 63, 3) := by decide +kernel
theorem dX11_bill_65 : decode cX11_bill 65 = .ok (.aload_n 0, 1) := by decide +kernel
theorem dX11_bill_66 : decode cX11_bill 66 = .ok (.bipush 8, 2) := by decide +kernel
theorem dX11_bill_68 : decode cX11_bill 68 = .ok (.iload_n 1, 1) := by decide +kernel
theorem dX11_bill_69 : decode cX11_bill 69 = .ok (.imul, 1) := by decide +kernel
theorem dX11_bill_70 : decode cX11_bill 70 = .ok (.iload 4, 2) := by decide +kernel
theorem dX11_bill_72 : decode cX11_bill 72 = .ok (.iadd, 1) := by decide +kernel
theorem dX11_bill_73 : decode cX11_bill 73 = .ok (.invokevirtual 453, 3) := by decide +kernel
theorem dX11_bill_76 : decode cX11_bill 76 = .ok (.istore 5, 2) := by decide +kernel
theorem dX11_bill_78 : decode cX11_bill 78 = .ok (.iload 5, 2) := by decide +kernel
theorem dX11_bill_80 : decode cX11_bill 80 = .ok (.ifCond .eq 16, 3) := by decide +kernel
theorem dX11_bill_83 : decode cX11_bill 83 = .ok (.aload_n 0, 1) := by decide +kernel
theorem dX11_bill_84 : decode cX11_bill 84 = .ok (.dup, 1) := by decide +kernel
theorem dX11_bill_85 : decode cX11_bill 85 = .ok (.getfield 456, 3) := by decide +kernel
theorem dX11_bill_88 : decode cX11_bill 88 = .ok (.iconst 1, 1) := by decide +kernel
theorem dX11_bill_89 : decode cX11_bill 89 = .ok (.iadd, 1) := by decide +kernel
theorem dX11_bill_90 : decode cX11_bill 90 = .ok (.putfield 456, 3) := by decide +kernel
theorem dX11_bill_93 : decode cX11_bill 93 = .ok (.iload 5, 2) := by decide +kernel
theorem dX11_bill_95 : decode cX11_bill 95 = .ok (.ireturn, 1) := by decide +kernel
theorem dX11_bill_96 : decode cX11_bill 96 = .ok (.aload_n 0, 1) := by decide +kernel
theorem dX11_bill_97 : decode cX11_bill 97 = .ok (.getfield 169, 3) := by decide +kernel
theorem dX11_bill_100 : decode cX11_bill 100 = .ok (.bipush 8, 2) := by decide +kernel
theorem dX11_bill_102 : decode cX11_bill 102 = .ok (.iload_n 1, 1) := by decide +kernel
theorem dX11_bill_103 : decode cX11_bill 103 = .ok (.imul, 1) := by decide +kernel
theorem dX11_bill_104 : decode cX11_bill 104 = .ok (.iload 4, 2) := by decide +kernel
theorem dX11_bill_106 : decode cX11_bill 106 = .ok (.iadd, 1) := by decide +kernel
theorem dX11_bill_107 : decode cX11_bill 107 = .ok (.aload_n 0, 1) := by decide +kernel
theorem dX11_bill_108 : decode cX11_bill 108 = .ok (.getfield 417, 3) := by decide +kernel
theorem dX11_bill_111 : decode cX11_bill 111 = .ok (.lastore, 1) := by decide +kernel
theorem dX11_bill_112 : decode cX11_bill 112 = .ok (.lload_n 2, 1) := by decide +kernel
theorem dX11_bill_113 : decode cX11_bill 113 = .ok (.aload_n 0, 1) := by decide +kernel
theorem dX11_bill_114 : decode cX11_bill 114 = .ok (.getfield 417, 3) := by decide +kernel
theorem dX11_bill_117 : decode cX11_bill 117 = .ok (.ladd, 1) := by decide +kernel
theorem dX11_bill_118 : decode cX11_bill 118 = .ok (.lstore_n 2, 1) := by decide +kernel
theorem dX11_bill_119 : decode cX11_bill 119 = .ok (.iinc 4 1, 3) := by decide +kernel
theorem dX11_bill_122 : decode cX11_bill 122 = .ok (.goto (-68), 3) := by decide +kernel
theorem dX11_bill_125 : decode cX11_bill 125 = .ok (.aload_n 0, 1) := by decide +kernel
theorem dX11_bill_126 : decode cX11_bill 126 = .ok (.getfield 166, 3) := by decide +kernel
theorem dX11_bill_129 : decode cX11_bill 129 = .ok (.iload_n 1, 1) := by decide +kernel
theorem dX11_bill_130 : decode cX11_bill 130 = .ok (.lload_n 2, 1) := by decide +kernel
theorem dX11_bill_131 : decode cX11_bill 131 = .ok (.lastore, 1) := by decide +kernel
theorem dX11_bill_132 : decode cX11_bill 132 = .ok (.aload_n 0, 1) := by decide +kernel
theorem dX11_bill_133 : decode cX11_bill 133 = .ok (.getfield 163, 3) := by decide +kernel
theorem dX11_bill_136 : decode cX11_bill 136 = .ok (.iload_n 1, 1) := by decide +kernel
theorem dX11_bill_137 : decode cX11_bill 137 = .ok (.aload_n 0, 1) := by decide +kernel
theorem dX11_bill_138 : decode cX11_bill 138 = .ok (.getfield 151, 3) := by decide +kernel
theorem dX11_bill_141 : decode cX11_bill 141 = .ok (.iload_n 1, 1) := by decide +kernel
theorem dX11_bill_142 : decode cX11_bill 142 = .ok (.iaload, 1) := by decide +kernel
theorem dX11_bill_143 : decode cX11_bill 143 = .ok (.iastore, 1) := by decide +kernel
theorem dX11_bill_144 : decode cX11_bill 144 = .ok (.aload_n 0, 1) := by decide +kernel
theorem dX11_bill_145 : decode cX11_bill 145 = .ok (.dup, 1) := by decide +kernel
theorem dX11_bill_146 : decode cX11_bill 146 = .ok (.getfield 459, 3) := by decide +kernel
theorem dX11_bill_149 : decode cX11_bill 149 = .ok (.iconst 1, 1) := by decide +kernel
theorem dX11_bill_150 : decode cX11_bill 150 = .ok (.iadd, 1) := by decide +kernel
theorem dX11_bill_151 : decode cX11_bill 151 = .ok (.putfield 459, 3) := by decide +kernel
theorem dX11_bill_154 : decode cX11_bill 154 = .ok (.iconst 0, 1) := by decide +kernel
theorem dX11_bill_155 : decode cX11_bill 155 = .ok (.ireturn, 1) := by decide +kernel
theorem dX11_line_0 : decode cX11_line 0 = .ok (.iload_n 1, 1) := by decide +kernel
theorem dX11_line_1 : decode cX11_line 1 = .ok (.aload_n 0, 1) := by decide +kernel
theorem dX11_line_2 : decode cX11_line 2 = .ok (.getfield 449, 3) := by decide +kernel
theorem dX11_line_5 : decode cX11_line 5 = .ok (.invokestatic 392, 3) := by decide +kernel
theorem dX11_line_8 : decode cX11_line 8 = .ok (.ifCond .eq 26, 3) := by decide +kernel
theorem dX11_line_11 : decode cX11_line 11 = .ok (.aload_n 0, 1) := by decide +kernel
theorem dX11_line_12 : decode cX11_line 12 = .ok (.getfield 163, 3) := by decide +kernel
theorem dX11_line_15 : decode cX11_line 15 = .ok (.iload_n 1, 1) := by decide +kernel
theorem dX11_line_16 : decode cX11_line 16 = .ok (.iaload, 1) := by decide +kernel
theorem dX11_line_17 : decode cX11_line 17 = .ok (.ifCond .lt 17, 3) := by decide +kernel
theorem dX11_line_20 : decode cX11_line 20 = .ok (.iload_n 2, 1) := by decide +kernel
theorem dX11_line_21 : decode cX11_line 21 = .ok (.ifCond .lt 13, 3) := by decide +kernel
theorem dX11_line_24 : decode cX11_line 24 = .ok (.iload_n 2, 1) := by decide +kernel
theorem dX11_line_25 : decode cX11_line 25 = .ok (.aload_n 0, 1) := by decide +kernel
theorem dX11_line_26 : decode cX11_line 26 = .ok (.getfield 163, 3) := by decide +kernel
theorem dX11_line_29 : decode cX11_line 29 = .ok (.iload_n 1, 1) := by decide +kernel
theorem dX11_line_30 : decode cX11_line 30 = .ok (.iaload, 1) := by decide +kernel
theorem dX11_line_31 : decode cX11_line 31 = .ok (.if_icmp .le 7, 3) := by decide +kernel
theorem dX11_line_34 : decode cX11_line 34 = .ok (.ldc2_w 396, 3) := by decide +kernel
theorem dX11_line_37 : decode cX11_line 37 = .ok (.lreturn, 1) := by decide +kernel
theorem dX11_line_38 : decode cX11_line 38 = .ok (.iload_n 2, 1) := by decide +kernel
theorem dX11_line_39 : decode cX11_line 39 = .ok (.ifCond .ne 12, 3) := by decide +kernel
theorem dX11_line_42 : decode cX11_line 42 = .ok (.aload_n 0, 1) := by decide +kernel
theorem dX11_line_43 : decode cX11_line 43 = .ok (.getfield 166, 3) := by decide +kernel
theorem dX11_line_46 : decode cX11_line 46 = .ok (.iload_n 1, 1) := by decide +kernel
theorem dX11_line_47 : decode cX11_line 47 = .ok (.laload, 1) := by decide +kernel
theorem dX11_line_48 : decode cX11_line 48 = .ok (.goto 16, 3) := by decide +kernel
theorem dX11_line_51 : decode cX11_line 51 = .ok (.aload_n 0, 1) := by decide +kernel
theorem dX11_line_52 : decode cX11_line 52 = .ok (.getfield 169, 3) := by decide +kernel
theorem dX11_line_55 : decode cX11_line 55 = .ok (.bipush 8, 2) := by decide +kernel
theorem dX11_line_57 : decode cX11_line 57 = .ok (.iload_n 1, 1) := by decide +kernel
theorem dX11_line_58 : decode cX11_line 58 = .ok (.imul, 1) := by decide +kernel
theorem dX11_line_59 : decode cX11_line 59 = .ok (.iload_n 2, 1) := by decide +kernel
theorem dX11_line_60 : decode cX11_line 60 = .ok (.iadd, 1) := by decide +kernel
theorem dX11_line_61 : decode cX11_line 61 = .ok (.iconst 1, 1) := by decide +kernel
theorem dX11_line_62 : decode cX11_line 62 = .ok (.isub, 1) := by decide +kernel
theorem dX11_line_63 : decode cX11_line 63 = .ok (.laload, 1) := by decide +kernel
theorem dX11_line_64 : decode cX11_line 64 = .ok (.lreturn, 1) := by decide +kernel
theorem dX11_count_0 : decode cX11_count 0 = .ok (.iload_n 1, 1) := by decide +kernel
theorem dX11_count_1 : decode cX11_count 1 = .ok (.tableswitch 60 0 4 #[35, 40, 45, 50, 55], 35) := by decide +kernel
theorem dX11_count_36 : decode cX11_count 36 = .ok (.aload_n 0, 1) := by decide +kernel
theorem dX11_count_37 : decode cX11_count 37 = .ok (.getfield 369, 3) := by decide +kernel
theorem dX11_count_40 : decode cX11_count 40 = .ok (.ireturn, 1) := by decide +kernel
theorem dX11_count_41 : decode cX11_count 41 = .ok (.aload_n 0, 1) := by decide +kernel
theorem dX11_count_42 : decode cX11_count 42 = .ok (.getfield 401, 3) := by decide +kernel
theorem dX11_count_45 : decode cX11_count 45 = .ok (.ireturn, 1) := by decide +kernel
theorem dX11_count_46 : decode cX11_count 46 = .ok (.aload_n 0, 1) := by decide +kernel
theorem dX11_count_47 : decode cX11_count 47 = .ok (.getfield 459, 3) := by decide +kernel
theorem dX11_count_50 : decode cX11_count 50 = .ok (.ireturn, 1) := by decide +kernel
theorem dX11_count_51 : decode cX11_count 51 = .ok (.aload_n 0, 1) := by decide +kernel
theorem dX11_count_52 : decode cX11_count 52 = .ok (.getfield 456, 3) := by decide +kernel
theorem dX11_count_55 : decode cX11_count 55 = .ok (.ireturn, 1) := by decide +kernel
theorem dX11_count_56 : decode cX11_count 56 = .ok (.aload_n 0, 1) := by decide +kernel
theorem dX11_count_57 : decode cX11_count 57 = .ok (.getfield 449, 3) := by decide +kernel
theorem dX11_count_60 : decode cX11_count 60 = .ok (.ireturn, 1) := by decide +kernel
theorem dX11_count_61 : decode cX11_count 61 = .ok (.iconst (-1), 1) := by decide +kernel
theorem dX11_count_62 : decode cX11_count 62 = .ok (.ireturn, 1) := by decide +kernel
