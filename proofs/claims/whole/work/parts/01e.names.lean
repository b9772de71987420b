theorem dX13_init_0 : decode cX13_init 0 = .ok (.aload_n 0, 1) := by decide +kernel
theorem dX13_init_1 : decode cX13_init 1 = .ok (.invokespecial 1, 3) := by decide +kernel
theorem dX13_init_4 : decode cX13_init 4 = .ok (.aload_n 0, 1) := by decide +kernel
theorem dX13_init_5 : decode cX13_init 5 = .ok (.iconst (-1), 1) := by decide +kernel
theorem dX13_init_6 : decode cX13_init 6 = .ok (.putfield 7, 3) := by decide +kernel
theorem dX13_init_9 : decode cX13_init 9 = .ok (.aload_n 0, 1) := by decide +kernel
theorem dX13_init_10 : decode cX13_init 10 = .ok (.iconst (-1), 1) := by decide +kernel
theorem dX13_init_11 : decode cX13_init 11 = .ok (.putfield 13, 3) := by decide +kernel
theorem dX13_init_14 : decode cX13_init 14 = .ok (.aload_n 0, 1) := by decide +kernel
theorem dX13_init_15 : decode cX13_init 15 = .ok (.bipush 83, 2) := by decide +kernel
theorem dX13_init_17 : decode cX13_init 17 = .ok (.newarray .int, 2) := by decide +kernel
theorem dX13_init_19 : decode cX13_init 19 = .ok (.putfield 16, 3) := by decide +kernel
theorem dX13_init_22 : decode cX13_init 22 = .ok (.aload_n 0, 1) := by decide +kernel
theorem dX13_init_23 : decode cX13_init 23 = .ok (.bipush 83, 2) := by decide +kernel
theorem dX13_init_25 : decode cX13_init 25 = .ok (.newarray .int, 2) := by decide +kernel
theorem dX13_init_27 : decode cX13_init 27 = .ok (.putfield 20, 3) := by decide +kernel
theorem dX13_init_30 : decode cX13_init 30 = .ok (.aload_n 0, 1) := by decide +kernel
theorem dX13_init_31 : decode cX13_init 31 = .ok (.bipush 83, 2) := by decide +kernel
theorem dX13_init_33 : decode cX13_init 33 = .ok (.newarray .int, 2) := by decide +kernel
theorem dX13_init_35 : decode cX13_init 35 = .ok (.putfield 23, 3) := by decide +kernel
theorem dX13_init_38 : decode cX13_init 38 = .ok (.aload_n 0, 1) := by decide +kernel
theorem dX13_init_39 : decode cX13_init 39 = .ok (.sipush 664, 3) := by decide +kernel
theorem dX13_init_42 : decode cX13_init 42 = .ok (.newarray .int, 2) := by decide +kernel
theorem dX13_init_44 : decode cX13_init 44 = .ok (.putfield 26, 3) := by decide +kernel
theorem dX13_init_47 : decode cX13_init 47 = .ok (.aload_n 0, 1) := by decide +kernel
theorem dX13_init_48 : decode cX13_init 48 = .ok (.bipush 10, 2) := by decide +kernel
theorem dX13_init_50 : decode cX13_init 50 = .ok (.newarray .int, 2) := by decide +kernel
theorem dX13_init_52 : decode cX13_init 52 = .ok (.putfield 29, 3) := by decide +kernel
theorem dX13_init_55 : decode cX13_init 55 = .ok (.aload_n 0, 1) := by decide +kernel
theorem dX13_init_56 : decode cX13_init 56 = .ok (.bipush 10, 2) := by decide +kernel
theorem dX13_init_58 : decode cX13_init 58 = .ok (.newarray .float, 2) := by decide +kernel
theorem dX13_init_60 : decode cX13_init 60 = .ok (.putfield 32, 3) := by decide +kernel
theorem dX13_init_63 : decode cX13_init 63 = .ok (.aload_n 0, 1) := by decide +kernel
theorem dX13_init_64 : decode cX13_init 64 = .ok (.bipush 10, 2) := by decide +kernel
theorem dX13_init_66 : decode cX13_init 66 = .ok (.newarray .float, 2) := by decide +kernel
theorem dX13_init_68 : decode cX13_init 68 = .ok (.putfield 36, 3) := by decide +kernel
theorem dX13_init_71 : decode cX13_init 71 = .ok (.aload_n 0, 1) := by decide +kernel
theorem dX13_init_72 : decode cX13_init 72 = .ok (.bipush 10, 2) := by decide +kernel
theorem dX13_init_74 : decode cX13_init 74 = .ok (.newarray .float, 2) := by decide +kernel
theorem dX13_init_76 : decode cX13_init 76 = .ok (.putfield 39, 3) := by decide +kernel
theorem dX13_init_79 : decode cX13_init 79 = .ok (.aload_n 0, 1) := by decide +kernel
theorem dX13_init_80 : decode cX13_init 80 = .ok (.bipush 80, 2) := by decide +kernel
theorem dX13_init_82 : decode cX13_init 82 = .ok (.newarray .float, 2) := by decide +kernel
theorem dX13_init_84 : decode cX13_init 84 = .ok (.putfield 42, 3) := by decide +kernel
theorem dX13_init_87 : decode cX13_init 87 = .ok (.aload_n 0, 1) := by decide +kernel
theorem dX13_init_88 : decode cX13_init 88 = .ok (.bipush 10, 2) := by decide +kernel
theorem dX13_init_90 : decode cX13_init 90 = .ok (.newarray .float, 2) := by decide +kernel
theorem dX13_init_92 : decode cX13_init 92 = .ok (.putfield 45, 3) := by decide +kernel
theorem dX13_init_95 : decode cX13_init 95 = .ok (.aload_n 0, 1) := by decide +kernel
theorem dX13_init_96 : decode cX13_init 96 = .ok (.bipush 10, 2) := by decide +kernel
theorem dX13_init_98 : decode cX13_init 98 = .ok (.newarray .float, 2) := by decide +kernel
theorem dX13_init_100 : decode cX13_init 100 = .ok (.putfield 48, 3) := by decide +kernel
theorem dX13_init_103 : decode cX13_init 103 = .ok (.aload_n 0, 1) := by decide +kernel
theorem dX13_init_104 : decode cX13_init 104 = .ok (.bipush 10, 2) := by decide +kernel
theorem dX13_init_106 : decode cX13_init 106 = .ok (.newarray .long, 2) := by decide +kernel
theorem dX13_init_108 : decode cX13_init 108 = .ok (.putfield 51, 3) := by decide +kernel
theorem dX13_init_111 : decode cX13_init 111 = .ok (.aload_n 0, 1) := by decide +kernel
theorem dX13_init_112 : decode cX13_init 112 = .ok (.bipush 10, 2) := by decide +kernel
theorem dX13_init_114 : decode cX13_init 114 = .ok (.newarray .long, 2) := by decide +kernel
theorem dX13_init_116 : decode cX13_init 116 = .ok (.putfield 55, 3) := by decide +kernel
theorem dX13_init_119 : decode cX13_init 119 = .ok (.aload_n 0, 1) := by decide +kernel
theorem dX13_init_120 : decode cX13_init 120 = .ok (.bipush 60, 2) := by decide +kernel
theorem dX13_init_122 : decode cX13_init 122 = .ok (.newarray .int, 2) := by decide +kernel
theorem dX13_init_124 : decode cX13_init 124 = .ok (.putfield 58, 3) := by decide +kernel
theorem dX13_init_127 : decode cX13_init 127 = .ok (.aload_n 0, 1) := by decide +kernel
theorem dX13_init_128 : decode cX13_init 128 = .ok (.bipush 24, 2) := by decide +kernel
theorem dX13_init_130 : decode cX13_init 130 = .ok (.newarray .int, 2) := by decide +kernel
theorem dX13_init_132 : decode cX13_init 132 = .ok (.putfield 61, 3) := by decide +kernel
theorem dX13_init_135 : decode cX13_init 135 = .ok (.aload_n 0, 1) := by decide +kernel
theorem dX13_init_136 : decode cX13_init 136 = .ok (.bipush 10, 2) := by decide +kernel
theorem dX13_init_138 : decode cX13_init 138 = .ok (.newarray .int, 2) := by decide +kernel
theorem dX13_init_140 : decode cX13_init 140 = .ok (.putfield 64, 3) := by decide +kernel
theorem dX13_init_143 : decode cX13_init 143 = .ok (.aload_n 0, 1) := by decide +kernel
theorem dX13_init_144 : decode cX13_init 144 = .ok (.bipush 59, 2) := by decide +kernel
theorem dX13_init_146 : decode cX13_init 146 = .ok (.newarray .int, 2) := by decide +kernel
theorem dX13_init_148 : decode cX13_init 148 = .ok (.dup, 1) := by decide +kernel
theorem dX13_init_149 : decode cX13_init 149 = .ok (.iconst 0, 1) := by decide +kernel
theorem dX13_init_150 : decode cX13_init 150 = .ok (.bipush 99, 2) := by decide +kernel
theorem dX13_init_152 : decode cX13_init 152 = .ok (.iastore, 1) := by decide +kernel
theorem dX13_init_153 : decode cX13_init 153 = .ok (.dup, 1) := by decide +kernel
theorem dX13_init_154 : decode cX13_init 154 = .ok (.iconst 1, 1) := by decide +kernel
theorem dX13_init_155 : decode cX13_init 155 = .ok (.bipush 108, 2) := by decide +kernel
theorem dX13_init_157 : decode cX13_init 157 = .ok (.iastore, 1) := by decide +kernel
theorem dX13_init_158 : decode cX13_init 158 = .ok (.dup, 1) := by decide +kernel
theorem dX13_init_159 : decode cX13_init 159 = .ok (.iconst 2, 1) := by decide +kernel
theorem dX13_init_160 : decode cX13_init 160 = .ok (.bipush 97, 2) := by decide +kernel
theorem dX13_init_162 : decode cX13_init 162 = .ok (.iastore, 1) := by decide +kernel
theorem dX13_init_163 : decode cX13_init 163 = .ok (.dup, 1) := by decide +kernel
theorem dX13_init_164 : decode cX13_init 164 = .ok (.iconst 3, 1) := by decide +kernel
theorem dX13_init_165 : decode cX13_init 165 = .ok (.bipush 105, 2) := by decide +kernel
theorem dX13_init_167 : decode cX13_init 167 = .ok (.iastore, 1) := by decide +kernel
theorem dX13_init_168 : decode cX13_init 168 = .ok (.dup, 1) := by decide +kernel
theorem dX13_init_169 : decode cX13_init 169 = .ok (.iconst 4, 1) := by decide +kernel
theorem dX13_init_170 : decode cX13_init 170 = .ok (.bipush 109, 2) := by decide +kernel
theorem dX13_init_172 : decode cX13_init 172 = .ok (.iastore, 1) := by decide +kernel
theorem dX13_init_173 : decode cX13_init 173 = .ok (.dup, 1) := by decide +kernel
theorem dX13_init_174 : decode cX13_init 174 = .ok (.iconst 5, 1) := by decide +kernel
theorem dX13_init_175 : decode cX13_init 175 = .ok (.bipush 32, 2) := by decide +kernel
theorem dX13_init_177 : decode cX13_init 177 = .ok (.iastore, 1) := by decide +kernel
theorem dX13_init_178 : decode cX13_init 178 = .ok (.dup, 1) := by decide +kernel
theorem dX13_init_179 : decode cX13_init 179 = .ok (.bipush 6, 2) := by decide +kernel
theorem dX13_init_181 : decode cX13_init 181 = .ok (.bipush 97, 2) := by decide +kernel
theorem dX13_init_183 : decode cX13_init 183 = .ok (.iastore, 1) := by decide +kernel
theorem dX13_init_184 : decode cX13_init 184 = .ok (.dup, 1) := by decide +kernel
theorem dX13_init_185 : decode cX13_init 185 = .ok (.bipush 7, 2) := by decide +kernel
theorem dX13_init_187 : decode cX13_init 187 = .ok (.bipush 116, 2) := by decide +kernel
theorem dX13_init_189 : decode cX13_init 189 = .ok (.iastore, 1) := by decide +kernel
theorem dX13_init_190 : decode cX13_init 190 = .ok (.dup, 1) := by decide +kernel
theorem dX13_init_191 : decode cX13_init 191 = .ok (.bipush 8, 2) := by decide +kernel
theorem dX13_init_193 : decode cX13_init 193 = .ok (.bipush 116, 2) := by decide +kernel
theorem dX13_init_195 : decode cX13_init 195 = .ok (.iastore, 1) := by decide +kernel
theorem dX13_init_196 : decode cX13_init 196 = .ok (.dup, 1) := by decide +kernel
theorem dX13_init_197 : decode cX13_init 197 = .ok (.bipush 9, 2) := by decide +kernel
theorem dX13_init_199 : decode cX13_init 199 = .ok (.bipush 97, 2) := by decide +kernel
theorem dX13_init_201 : decode cX13_init 201 = .ok (.iastore, 1) := by decide +kernel
theorem dX13_init_202 : decode cX13_init 202 = .ok (.dup, 1) := by decide +kernel
theorem dX13_init_203 : decode cX13_init 203 = .ok (.bipush 10, 2) := by decide +kernel
theorem dX13_init_205 : decode cX13_init 205 = .ok (.bipush 99, 2) := by decide +kernel
theorem dX13_init_207 : decode cX13_init 207 = .ok (.iastore, 1) := by decide +kernel
theorem dX13_init_208 : decode cX13_init 208 = .ok (.dup, 1) := by decide +kernel
theorem dX13_init_209 : decode cX13_init 209 = .ok (.bipush 11, 2) := by decide +kernel
theorem dX13_init_211 : decode cX13_init 211 = .ok (.bipush 107, 2) := by decide +kernel
theorem dX13_init_213 : decode cX13_init 213 = .ok (.iastore, 1) := by decide +kernel
theorem dX13_init_214 : decode cX13_init 214 = .ok (.dup, 1) := by decide +kernel
theorem dX13_init_215 : decode cX13_init 215 = .ok (.bipush 12, 2) := by decide +kernel
theorem dX13_init_217 : decode cX13_init 217 = .ok (.bipush 32, 2) := by decide +kernel
theorem dX13_init_219 : decode cX13_init 219 = .ok (.iastore, 1) := by decide +kernel
theorem dX13_init_220 : decode cX13_init 220 = .ok (.dup, 1) := by decide +kernel
theorem dX13_init_221 : decode cX13_init 221 = .ok (.bipush 13, 2) := by decide +kernel
theorem dX13_init_223 : decode cX13_init 223 = .ok (.bipush 99, 2) := by decide +kernel
theorem dX13_init_225 : decode cX13_init 225 = .ok (.iastore, 1) := by decide +kernel
theorem dX13_init_226 : decode cX13_init 226 = .ok (.dup, 1) := by decide +kernel
theorem dX13_init_227 : decode cX13_init 227 = .ok (.bipush 14, 2) := by decide +kernel
theorem dX13_init_229 : decode cX13_init 229 = .ok (.bipush 97, 2) := by decide +kernel
theorem dX13_init_231 : decode cX13_init 231 = .ok (.iastore, 1) := by decide +kernel
theorem dX13_init_232 : decode cX13_init 232 = .ok (.dup, 1) := by decide +kernel
theorem dX13_init_233 : decode cX13_init 233 = .ok (.bipush 15, 2) := by decide +kernel
theorem dX13_init_235 : decode cX13_init 235 = .ok (.bipush 108, 2) := by decide +kernel
theorem dX13_init_237 : decode cX13_init 237 = .ok (.iastore, 1) := by decide +kernel
theorem dX13_init_238 : decode cX13_init 238 = .ok (.dup, 1) := by decide +kernel
theorem dX13_init_239 : decode cX13_init 239 = .ok (.bipush 16, 2) := by decide +kernel
theorem dX13_init_241 : decode cX13_init 241 = .ok (.bipush 109, 2) := by decide +kernel
theorem dX13_init_243 : decode cX13_init 243 = .ok (.iastore, 1) := by decide +kernel
theorem dX13_init_244 : decode cX13_init 244 = .ok (.dup, 1) := by decide +kernel
theorem dX13_init_245 : decode cX13_init 245 = .ok (.bipush 17, 2) := by decide +kernel
theorem dX13_init_247 : decode cX13_init 247 = .ok (.bipush 32, 2) := by decide +kernel
theorem dX13_init_249 : decode cX13_init 249 = .ok (.iastore, 1) := by decide +kernel
theorem dX13_init_250 : decode cX13_init 250 = .ok (.dup, 1) := by decide +kernel
theorem dX13_init_251 : decode cX13_init 251 = .ok (.bipush 18, 2) := by decide +kernel
theorem dX13_init_253 : decode cX13_init 253 = .ok (.bipush 108, 2) := by decide +kernel
theorem dX13_init_255 : decode cX13_init 255 = .ok (.iastore, 1) := by decide +kernel
theorem dX13_init_256 : decode cX13_init 256 = .ok (.dup, 1) := by decide +kernel
theorem dX13_init_257 : decode cX13_init 257 = .ok (.bipush 19, 2) := by decide +kernel
theorem dX13_init_259 : decode cX13_init 259 = .ok (.bipush 97, 2) := by decide +kernel
theorem dX13_init_261 : decode cX13_init 261 = .ok (.iastore, 1) := by decide +kernel
theorem dX13_init_262 : decode cX13_init 262 = .ok (.dup, 1) := by decide +kernel
theorem dX13_init_263 : decode cX13_init 263 = .ok (.bipush 20, 2) := by decide +kernel
theorem dX13_init_265 : decode cX13_init 265 = .ok (.bipush 121, 2) := by decide +kernel
theorem dX13_init_267 : decode cX13_init 267 = .ok (.iastore, 1) := by decide +kernel
theorem dX13_init_268 : decode cX13_init 268 = .ok (.dup, 1) := by decide +kernel
theorem dX13_init_269 : decode cX13_init 269 = .ok (.bipush 21, 2) := by decide +kernel
theorem dX13_init_271 : decode cX13_init 271 = .ok (.bipush 101, 2) := by decide +kernel
theorem dX13_init_273 : decode cX13_init 273 = .ok (.iastore, 1) := by decide +kernel
theorem dX13_init_274 : decode cX13_init 274 = .ok (.dup, 1) := by decide +kernel
theorem dX13_init_275 : decode cX13_init 275 = .ok (.bipush 22, 2) := by decide +kernel
theorem dX13_init_277 : decode cX13_init 277 = .ok (.bipush 114, 2) := by decide +kernel
theorem dX13_init_279 : decode cX13_init 279 = .ok (.iastore, 1) := by decide +kernel
theorem dX13_init_280 : decode cX13_init 280 = .ok (.dup, 1) := by decide +kernel
theorem dX13_init_281 : decode cX13_init 281 = .ok (.bipush 23, 2) := by decide +kernel
theorem dX13_init_283 : decode cX13_init 283 = .ok (.bipush 32, 2) := by decide +kernel
theorem dX13_init_285 : decode cX13_init 285 = .ok (.iastore, 1) := by decide +kernel
theorem dX13_init_286 : decode cX13_init 286 = .ok (.dup, 1) := by decide +kernel
theorem dX13_init_287 : decode cX13_init 287 = .ok (.bipush 24, 2) := by decide +kernel
theorem dX13_init_289 : decode cX13_init 289 = .ok (.bipush 114, 2) := by decide +kernel
theorem dX13_init_291 : decode cX13_init 291 = .ok (.iastore, 1) := by decide +kernel
theorem dX13_init_292 : decode cX13_init 292 = .ok (.dup, 1) := by decide +kernel
theorem dX13_init_293 : decode cX13_init 293 = .ok (.bipush 25, 2) := by decide +kernel
theorem dX13_init_295 : decode cX13_init 295 = .ok (.bipush 97, 2) := by decide +kernel
theorem dX13_init_297 : decode cX13_init 297 = .ok (.iastore, 1) := by decide +kernel
theorem dX13_init_298 : decode cX13_init 298 = .ok (.dup, 1) := by decide +kernel
theorem dX13_init_299 : decode cX13_init 299 = .ok (.bipush 26, 2) := by decide +kernel
theorem dX13_init_301 : decode cX13_init 301 = .ok (.bipush 99, 2) := by decide +kernel
theorem dX13_init_303 : decode cX13_init 303 = .ok (.iastore, 1) := by decide +kernel
theorem dX13_init_304 : decode cX13_init 304 = .ok (.dup, 1) := by decide +kernel
theorem dX13_init_305 : decode cX13_init 305 = .ok (.bipush 27, 2) := by decide +kernel
theorem dX13_init_307 : decode cX13_init 307 = .ok (.bipush 107, 2) := by decide +kernel
theorem dX13_init_309 : decode cX13_init 309 = .ok (.iastore, 1) := by decide +kernel
theorem dX13_init_310 : decode cX13_init 310 = .ok (.dup, 1) := by decide +kernel
theorem dX13_init_311 : decode cX13_init 311 = .ok (.bipush 28, 2) := by decide +kernel
theorem dX13_init_313 : decode cX13_init 313 = .ok (.bipush 32, 2) := by decide +kernel
theorem dX13_init_315 : decode cX13_init 315 = .ok (.iastore, 1) := by decide +kernel
theorem dX13_init_316 : decode cX13_init 316 = .ok (.dup, 1) := by decide +kernel
theorem dX13_init_317 : decode cX13_init 317 = .ok (.bipush 29, 2) := by decide +kernel
theorem dX13_init_319 : decode cX13_init 319 = .ok (.bipush 105, 2) := by decide +kernel
theorem dX13_init_321 : decode cX13_init 321 = .ok (.iastore, 1) := by decide +kernel
theorem dX13_init_322 : decode cX13_init 322 = .ok (.dup, 1) := by decide +kernel
theorem dX13_init_323 : decode cX13_init 323 = .ok (.bipush 30, 2) := by decide +kernel
theorem dX13_init_325 : decode cX13_init 325 = .ok (.bipush 110, 2) := by decide +kernel
theorem dX13_init_327 : decode cX13_init 327 = .ok (.iastore, 1) := by decide +kernel
theorem dX13_init_328 : decode cX13_init 328 = .ok (.dup, 1) := by decide +kernel
theorem dX13_init_329 : decode cX13_init 329 = .ok (.bipush 31, 2) := by decide +kernel
theorem dX13_init_331 : decode cX13_init 331 = .ok (.bipush 115, 2) := by decide +kernel
theorem dX13_init_333 : decode cX13_init 333 = .ok (.iastore, 1) := by decide +kernel
theorem dX13_init_334 : decode cX13_init 334 = .ok (.dup, 1) := by decide +kernel
theorem dX13_init_335 : decode cX13_init 335 = .ok (.bipush 32, 2) := by decide +kernel
theorem dX13_init_337 : decode cX13_init 337 = .ok (.bipush 101, 2) := by decide +kernel
theorem dX13_init_339 : decode cX13_init 339 = .ok (.iastore, 1) := by decide +kernel
theorem dX13_init_340 : decode cX13_init 340 = .ok (.dup, 1) := by decide +kernel
theorem dX13_init_341 : decode cX13_init 341 = .ok (.bipush 33, 2) := by decide +kernel
theorem dX13_init_343 : decode cX13_init 343 = .ok (.bipush 114, 2) := by decide +kernel
theorem dX13_init_345 : decode cX13_init 345 = .ok (.iastore, 1) := by decide +kernel
theorem dX13_init_346 : decode cX13_init 346 = .ok (.dup, 1) := by decide +kernel
theorem dX13_init_347 : decode cX13_init 347 = .ok (.bipush 34, 2) := by decide +kernel
theorem dX13_init_349 : decode cX13_init 349 = .ok (.bipush 116, 2) := by decide +kernel
theorem dX13_init_351 : decode cX13_init 351 = .ok (.iastore, 1) := by decide +kernel
theorem dX13_init_352 : decode cX13_init 352 = .ok (.dup, 1) := by decide +kernel
theorem dX13_init_353 : decode cX13_init 353 = .ok (.bipush 35, 2) := by decide +kernel
theorem dX13_init_355 : decode cX13_init 355 = .ok (.bipush 32, 2) := by decide +kernel
theorem dX13_init_357 : decode cX13_init 357 = .ok (.iastore, 1) := by decide +kernel
theorem dX13_init_358 : decode cX13_init 358 = .ok (.dup, 1) := by decide +kernel
theorem dX13_init_359 : decode cX13_init 359 = .ok (.bipush 36, 2) := by decide +kernel
theorem dX13_init_361 : decode cX13_init 361 = .ok (.bipush 100, 2) := by decide +kernel
theorem dX13_init_363 : decode cX13_init 363 = .ok (.iastore, 1) := by decide +kernel
theorem dX13_init_364 : decode cX13_init 364 = .ok (.dup, 1) := by decide +kernel
theorem dX13_init_365 : decode cX13_init 365 = .ok (.bipush 37, 2) := by decide +kernel
theorem dX13_init_367 : decode cX13_init 367 = .ok (.bipush 114, 2) := by decide +kernel
theorem dX13_init_369 : decode cX13_init 369 = .ok (.iastore, 1) := by decide +kernel
theorem dX13_init_370 : decode cX13_init 370 = .ok (.dup, 1) := by decide +kernel
theorem dX13_init_371 : decode cX13_init 371 = .ok (.bipush 38, 2) := by decide +kernel
theorem dX13_init_373 : decode cX13_init 373 = .ok (.bipush 97, 2) := by decide +kernel
theorem dX13_init_375 : decode cX13_init 375 = .ok (.iastore, 1) := by decide +kernel
theorem dX13_init_376 : decode cX13_init 376 = .ok (.dup, 1) := by decide +kernel
theorem dX13_init_377 : decode cX13_init 377 = .ok (.bipush 39, 2) := by decide +kernel
theorem dX13_init_379 : decode cX13_init 379 = .ok (.bipush 119, 2) := by decide +kernel
theorem dX13_init_381 : decode cX13_init 381 = .ok (.iastore, 1) := by decide +kernel
theorem dX13_init_382 : decode cX13_init 382 = .ok (.dup, 1) := by decide +kernel
theorem dX13_init_383 : decode cX13_init 383 = .ok (.bipush 40, 2) := by decide +kernel
theorem dX13_init_385 : decode cX13_init 385 = .ok (.bipush 32, 2) := by decide +kernel
theorem dX13_init_387 : decode cX13_init 387 = .ok (.iastore, 1) := by decide +kernel
theorem dX13_init_388 : decode cX13_init 388 = .ok (.dup, 1) := by decide +kernel
theorem dX13_init_389 : decode cX13_init 389 = .ok (.bipush 41, 2) := by decide +kernel
theorem dX13_init_391 : decode cX13_init 391 = .ok (.bipush 101, 2) := by decide +kernel
theorem dX13_init_393 : decode cX13_init 393 = .ok (.iastore, 1) := by decide +kernel
theorem dX13_init_394 : decode cX13_init 394 = .ok (.dup, 1) := by decide +kernel
theorem dX13_init_395 : decode cX13_init 395 = .ok (.bipush 42, 2) := by decide +kernel
theorem dX13_init_397 : decode cX13_init 397 = .ok (.bipush 120, 2) := by decide +kernel
theorem dX13_init_399 : decode cX13_init 399 = .ok (.iastore, 1) := by decide +kernel
theorem dX13_init_400 : decode cX13_init 400 = .ok (.dup, 1) := by decide +kernel
theorem dX13_init_401 : decode cX13_init 401 = .ok (.bipush 43, 2) := by decide +kernel
theorem dX13_init_403 : decode cX13_init 403 = .ok (.bipush 99, 2) := by decide +kernel
theorem dX13_init_405 : decode cX13_init 405 = .ok (.iastore, 1) := by decide +kernel
theorem dX13_init_406 : decode cX13_init 406 = .ok (.dup, 1) := by decide +kernel
theorem dX13_init_407 : decode cX13_init 407 = .ok (.bipush 44, 2) := by decide +kernel
theorem dX13_init_409 : decode cX13_init 409 = .ok (.bipush 105, 2) := by decide +kernel
theorem dX13_init_411 : decode cX13_init 411 = .ok (.iastore, 1) := by decide +kernel
theorem dX13_init_412 : decode cX13_init 412 = .ok (.dup, 1) := by decide +kernel
theorem dX13_init_413 : decode cX13_init 413 = .ok (.bipush 45, 2) := by decide +kernel
theorem dX13_init_415 : decode cX13_init 415 = .ok (.bipush 116, 2) := by decide +kernel
theorem dX13_init_417 : decode cX13_init 417 = .ok (.iastore, 1) := by decide +kernel
theorem dX13_init_418 : decode cX13_init 418 = .ok (.dup, 1) := by decide +kernel
theorem dX13_init_419 : decode cX13_init 419 = .ok (.bipush 46, 2) := by decide +kernel
theorem dX13_init_421 : decode cX13_init 421 = .ok (.bipush 101, 2) := by decide +kernel
theorem dX13_init_423 : decode cX13_init 423 = .ok (.iastore, 1) := by decide +kernel
theorem dX13_init_424 : decode cX13_init 424 = .ok (.dup, 1) := by decide +kernel
theorem dX13_init_425 : decode cX13_init 425 = .ok (.bipush 47, 2) := by decide +kernel
theorem dX13_init_427 : decode cX13_init 427 = .ok (.bipush 32, 2) := by decide +kernel
theorem dX13_init_429 : decode cX13_init 429 = .ok (.iastore, 1) := by decide +kernel
theorem dX13_init_430 : decode cX13_init 430 = .ok (.dup, 1) := by decide +kernel
theorem dX13_init_431 : decode cX13_init 431 = .ok (.bipush 48, 2) := by decide +kernel
theorem dX13_init_433 : decode cX13_init 433 = .ok (.bipush 108, 2) := by decide +kernel
theorem dX13_init_435 : decode cX13_init 435 = .ok (.iastore, 1) := by decide +kernel
theorem dX13_init_436 : decode cX13_init 436 = .ok (.dup, 1) := by decide +kernel
theorem dX13_init_437 : decode cX13_init 437 = .ok (.bipush 49, 2) := by decide +kernel
theorem dX13_init_439 : decode cX13_init 439 = .ok (.bipush 105, 2) := by decide +kernel
theorem dX13_init_441 : decode cX13_init 441 = .ok (.iastore, 1) := by decide +kernel
theorem dX13_init_442 : decode cX13_init 442 = .ok (.dup, 1) := by decide +kernel
theorem dX13_init_443 : decode cX13_init 443 = .ok (.bipush 50, 2) := by decide +kernel
theorem dX13_init_445 : decode cX13_init 445 = .ok (.bipush 109, 2) := by decide +kernel
theorem dX13_init_447 : decode cX13_init 447 = .ok (.iastore, 1) := by decide +kernel
theorem dX13_init_448 : decode cX13_init 448 = .ok (.dup, 1) := by decide +kernel
theorem dX13_init_449 : decode cX13_init 449 = .ok (.bipush 51, 2) := by decide +kernel
theorem dX13_init_451 : decode cX13_init 451 = .ok (.bipush 105, 2) := by decide +kernel
theorem dX13_init_453 : decode cX13_init 453 = .ok (.iastore, 1) := by decide +kernel
theorem dX13_init_454 : decode cX13_init 454 = .ok (.dup, 1) := by decide +kernel
theorem dX13_init_455 : decode cX13_init 455 = .ok (.bipush 52, 2) := by decide +kernel
theorem dX13_init_457 : decode cX13_init 457 = .ok (.bipush 116, 2) := by decide +kernel
theorem dX13_init_459 : decode cX13_init 459 = .ok (.iastore, 1) := by decide +kernel
theorem dX13_init_460 : decode cX13_init 460 = .ok (.dup, 1) := by decide +kernel
theorem dX13_init_461 : decode cX13_init 461 = .ok (.bipush 53, 2) := by decide +kernel
theorem dX13_init_463 : decode cX13_init 463 = .ok (.bipush 32, 2) := by decide +kernel
theorem dX13_init_465 : decode cX13_init 465 = .ok (.iastore, 1) := by decide +kernel
theorem dX13_init_466 : decode cX13_init 466 = .ok (.dup, 1) := by decide +kernel
theorem dX13_init_467 : decode cX13_init 467 = .ok (.bipush 54, 2) := by decide +kernel
theorem dX13_init_469 : decode cX13_init 469 = .ok (.bipush 112, 2) := by decide +kernel
theorem dX13_init_471 : decode cX13_init 471 = .ok (.iastore, 1) := by decide +kernel
theorem dX13_init_472 : decode cX13_init 472 = .ok (.dup, 1) := by decide +kernel
theorem dX13_init_473 : decode cX13_init 473 = .ok (.bipush 55, 2) := by decide +kernel
theorem dX13_init_475 : decode cX13_init 475 = .ok (.bipush 97, 2) := by decide +kernel
theorem dX13_init_477 : decode cX13_init 477 = .ok (.iastore, 1) := by decide +kernel
theorem dX13_init_478 : decode cX13_init 478 = .ok (.dup, 1) := by decide +kernel
theorem dX13_init_479 : decode cX13_init 479 = .ok (.bipush 56, 2) := by decide +kernel
theorem dX13_init_481 : decode cX13_init 481 = .ok (.bipush 115, 2) := by decide +kernel
theorem dX13_init_483 : decode cX13_init 483 = .ok (.iastore, 1) := by decide +kernel
theorem dX13_init_484 : decode cX13_init 484 = .ok (.dup, 1) := by decide +kernel
theorem dX13_init_485 : decode cX13_init 485 = .ok (.bipush 57, 2) := by decide +kernel
theorem dX13_init_487 : decode cX13_init 487 = .ok (.bipush 115, 2) := by decide +kernel
theorem dX13_init_489 : decode cX13_init 489 = .ok (.iastore, 1) := by decide +kernel
theorem dX13_init_490 : decode cX13_init 490 = .ok (.dup, 1) := by decide +kernel
theorem dX13_init_491 : decode cX13_init 491 = .ok (.bipush 58, 2) := by decide +kernel
theorem dX13_init_493 : decode cX13_init 493 = .ok (.bipush 32, 2) := by decide +kernel
theorem dX13_init_495 : decode cX13_init 495 = .ok (.iastore, 1) := by decide +kernel
theorem dX13_init_496 : decode cX13_init 496 = .ok (.putfield 67, 3) := by decide +kernel
theorem dX13_init_499 : decode cX13_init 499 = .ok (.aload_n 0, 1) := by decide +kernel
theorem dX13_init_500 : decode cX13_init 500 = .ok (.bipush 11, 2) := by decide +kernel
theorem dX13_init_502 : decode cX13_init 502 = .ok (.newarray .int, 2) := by decide +kernel
theorem dX13_init_504 : decode cX13_init 504 = .ok (.dup, 1) := by decide +kernel
theorem dX13_init_505 : decode cX13_init 505 = .ok (.iconst 0, 1) := by decide +kernel
theorem dX13_init_506 : decode cX13_init 506 = .ok (.iconst 0, 1) := by decide +kernel
theorem dX13_init_507 : decode cX13_init 507 = .ok (.iastore, 1) := by decide +kernel
theorem dX13_init_508 : decode cX13_init 508 = .ok (.dup, 1) := by decide +kernel
theorem dX13_init_509 : decode cX13_init 509 = .ok (.iconst 1, 1) := by decide +kernel
theorem dX13_init_510 : decode cX13_init 510 = .ok (.bipush 6, 2) := by decide +kernel
theorem dX13_init_512 : decode cX13_init 512 = .ok (.iastore, 1) := by decide +kernel
theorem dX13_init_513 : decode cX13_init 513 = .ok (.dup, 1) := by decide +kernel
theorem dX13_init_514 : decode cX13_init 514 = .ok (.iconst 2, 1) := by decide +kernel
theorem dX13_init_515 : decode cX13_init 515 = .ok (.bipush 13, 2) := by decide +kernel
theorem dX13_init_517 : decode cX13_init 517 = .ok (.iastore, 1) := by decide +kernel
theorem dX13_init_518 : decode cX13_init 518 = .ok (.dup, 1) := by decide +kernel
theorem dX13_init_519 : decode cX13_init 519 = .ok (.iconst 3, 1) := by decide +kernel
theorem dX13_init_520 : decode cX13_init 520 = .ok (.bipush 18, 2) := by decide +kernel
theorem dX13_init_522 : decode cX13_init 522 = .ok (.iastore, 1) := by decide +kernel
theorem dX13_init_523 : decode cX13_init 523 = .ok (.dup, 1) := by decide +kernel
theorem dX13_init_524 : decode cX13_init 524 = .ok (.iconst 4, 1) := by decide +kernel
theorem dX13_init_525 : decode cX13_init 525 = .ok (.bipush 24, 2) := by decide +kernel
theorem dX13_init_527 : decode cX13_init 527 = .ok (.iastore, 1) := by decide +kernel
theorem dX13_init_528 : decode cX13_init 528 = .ok (.dup, 1) := by decide +kernel
theorem dX13_init_529 : decode cX13_init 529 = .ok (.iconst 5, 1) := by decide +kernel
theorem dX13_init_530 : decode cX13_init 530 = .ok (.bipush 29, 2) := by decide +kernel
theorem dX13_init_532 : decode cX13_init 532 = .ok (.iastore, 1) := by decide +kernel
theorem dX13_init_533 : decode cX13_init 533 = .ok (.dup, 1) := by decide +kernel
theorem dX13_init_534 : decode cX13_init 534 = .ok (.bipush 6, 2) := by decide +kernel
theorem dX13_init_536 : decode cX13_init 536 = .ok (.bipush 36, 2) := by decide +kernel
theorem dX13_init_538 : decode cX13_init 538 = .ok (.iastore, 1) := by decide +kernel
theorem dX13_init_539 : decode cX13_init 539 = .ok (.dup, 1) := by decide +kernel
theorem dX13_init_540 : decode cX13_init 540 = .ok (.bipush 7, 2) := by decide +kernel
theorem dX13_init_542 : decode cX13_init 542 = .ok (.bipush 41, 2) := by decide +kernel
theorem dX13_init_544 : decode cX13_init 544 = .ok (.iastore, 1) := by decide +kernel
theorem dX13_init_545 : decode cX13_init 545 = .ok (.dup, 1) := by decide +kernel
theorem dX13_init_546 : decode cX13_init 546 = .ok (.bipush 8, 2) := by decide +kernel
theorem dX13_init_548 : decode cX13_init 548 = .ok (.bipush 48, 2) := by decide +kernel
theorem dX13_init_550 : decode cX13_init 550 = .ok (.iastore, 1) := by decide +kernel
theorem dX13_init_551 : decode cX13_init 551 = .ok (.dup, 1) := by decide +kernel
theorem dX13_init_552 : decode cX13_init 552 = .ok (.bipush 9, 2) := by decide +kernel
theorem dX13_init_554 : decode cX13_init 554 = .ok (.bipush 54, 2) := by decide +kernel
theorem dX13_init_556 : decode cX13_init 556 = .ok (.iastore, 1) := by decide +kernel
theorem dX13_init_557 : decode cX13_init 557 = .ok (.dup, 1) := by decide +kernel
theorem dX13_init_558 : decode cX13_init 558 = .ok (.bipush 10, 2) := by decide +kernel
theorem dX13_init_560 : decode cX13_init 560 = .ok (.bipush 59, 2) := by decide +kernel
theorem dX13_init_562 : decode cX13_init 562 = .ok (.iastore, 1) := by decide +kernel
theorem dX13_init_563 : decode cX13_init 563 = .ok (.putfield 70, 3) := by decide +kernel
theorem dX13_init_566 : decode cX13_init 566 = .ok (.aload_n 0, 1) := by decide +kernel
theorem dX13_init_567 : decode cX13_init 567 = .ok (.getfield 16, 3) := by decide +kernel
theorem dX13_init_570 : decode cX13_init 570 = .ok (.iconst 1, 1) := by decide +kernel
theorem dX13_init_571 : decode cX13_init 571 = .ok (.sipush 1000, 3) := by decide +kernel
theorem dX13_init_574 : decode cX13_init 574 = .ok (.iastore, 1) := by decide +kernel
theorem dX13_init_575 : decode cX13_init 575 = .ok (.iconst 0, 1) := by decide +kernel
theorem dX13_init_576 : decode cX13_init 576 = .ok (.istore_n 1, 1) := by decide +kernel
theorem dX13_init_577 : decode cX13_init 577 = .ok (.iload_n 1, 1) := by decide +kernel
theorem dX13_init_578 : decode cX13_init 578 = .ok (.iconst 4, 1) := by decide +kernel
theorem dX13_init_579 : decode cX13_init 579 = .ok (.if_icmp .ge 21, 3) := by decide +kernel
theorem dX13_init_582 : decode cX13_init 582 = .ok (.aload_n 0, 1) := by decide +kernel
theorem dX13_init_583 : decode cX13_init 583 = .ok (.getfield 16, 3) := by decide +kernel
theorem dX13_init_586 : decode cX13_init 586 = .ok (.iload_n 1, 1) := by decide +kernel
theorem dX13_init_587 : decode cX13_init 587 = .ok (.iconst 0, 1) := by decide +kernel
theorem dX13_init_588 : decode cX13_init 588 = .ok (.invokestatic 73, 3) := by decide +kernel
theorem dX13_init_591 : decode cX13_init 591 = .ok (.bipush 97, 2) := by decide +kernel
theorem dX13_init_593 : decode cX13_init 593 = .ok (.iastore, 1) := by decide +kernel
theorem dX13_init_594 : decode cX13_init 594 = .ok (.iinc 1 1, 3) := by decide +kernel
theorem dX13_init_597 : decode cX13_init 597 = .ok (.goto (-20), 3) := by decide +kernel
theorem dX13_init_600 : decode cX13_init 600 = .ok (.return_, 1) := by decide +kernel
theorem dX13_thrown_0 : decode cX13_thrown 0 = .ok (.aload_n 0, 1) := by decide +kernel
theorem dX13_thrown_1 : decode cX13_thrown 1 = .ok (.getfield 77, 3) := by decide +kernel
theorem dX13_thrown_4 : decode cX13_thrown 4 = .ok (.ireturn, 1) := by decide +kernel
theorem dX13_fail_0 : decode cX13_fail 0 = .ok (.aload_n 0, 1) := by decide +kernel
theorem dX13_fail_1 : decode cX13_fail 1 = .ok (.iload_n 1, 1) := by decide +kernel
theorem dX13_fail_2 : decode cX13_fail 2 = .ok (.putfield 77, 3) := by decide +kernel
theorem dX13_fail_5 : decode cX13_fail 5 = .ok (.iconst 0, 1) := by decide +kernel
theorem dX13_fail_6 : decode cX13_fail 6 = .ok (.ireturn, 1) := by decide +kernel
theorem dX13_isIn_0 : decode cX13_isIn 0 = .ok (.iload_n 0, 1) := by decide +kernel
theorem dX13_isIn_1 : decode cX13_isIn 1 = .ok (.iload_n 1, 1) := by decide +kernel
theorem dX13_isIn_2 : decode cX13_isIn 2 = .ok (.if_icmp .lt 12, 3) := by decide +kernel
theorem dX13_isIn_5 : decode cX13_isIn 5 = .ok (.iload_n 0, 1) := by decide +kernel
theorem dX13_isIn_6 : decode cX13_isIn 6 = .ok (.iload_n 2, 1) := by decide +kernel
theorem dX13_isIn_7 : decode cX13_isIn 7 = .ok (.if_icmp .gt 7, 3) := by decide +kernel
theorem dX13_isIn_10 : decode cX13_isIn 10 = .ok (.iconst 1, 1) := by decide +kernel
theorem dX13_isIn_11 : decode cX13_isIn 11 = .ok (.goto 4, 3) := by decide +kernel
theorem dX13_isIn_14 : decode cX13_isIn 14 = .ok (.iconst 0, 1) := by decide +kernel
theorem dX13_isIn_15 : decode cX13_isIn 15 = .ok (.ireturn, 1) := by decide +kernel
theorem dX13_lays_0 : decode cX13_lays 0 = .ok (.iconst 0, 1) := by decide +kernel
theorem dX13_lays_1 : decode cX13_lays 1 = .ok (.istore_n 2, 1) := by decide +kernel
theorem dX13_lays_2 : decode cX13_lays 2 = .ok (.iload_n 2, 1) := by decide +kernel
theorem dX13_lays_3 : decode cX13_lays 3 = .ok (.bipush 83, 2) := by decide +kernel
theorem dX13_lays_5 : decode cX13_lays 5 = .ok (.if_icmp .ge 15, 3) := by decide +kernel
theorem dX13_lays_8 : decode cX13_lays 8 = .ok (.aload_n 0, 1) := by decide +kernel
theorem dX13_lays_9 : decode cX13_lays 9 = .ok (.iload_n 2, 1) := by decide +kernel
theorem dX13_lays_10 : decode cX13_lays 10 = .ok (.aload_n 1, 1) := by decide +kernel
theorem dX13_lays_11 : decode cX13_lays 11 = .ok (.iload_n 2, 1) := by decide +kernel
theorem dX13_lays_12 : decode cX13_lays 12 = .ok (.iaload, 1) := by decide +kernel
theorem dX13_lays_13 : decode cX13_lays 13 = .ok (.iastore, 1) := by decide +kernel
theorem dX13_lays_14 : decode cX13_lays 14 = .ok (.iinc 2 1, 3) := by decide +kernel
theorem dX13_lays_17 : decode cX13_lays 17 = .ok (.goto (-15), 3) := by decide +kernel
theorem dX13_lays_20 : decode cX13_lays 20 = .ok (.return_, 1) := by decide +kernel
theorem dX13_flows_0 : decode cX13_flows 0 = .ok (.iconst 0, 1) := by decide +kernel
theorem dX13_flows_1 : decode cX13_flows 1 = .ok (.istore_n 2, 1) := by decide +kernel
theorem dX13_flows_2 : decode cX13_flows 2 = .ok (.iload_n 2, 1) := by decide +kernel
theorem dX13_flows_3 : decode cX13_flows 3 = .ok (.bipush 10, 2) := by decide +kernel
theorem dX13_flows_5 : decode cX13_flows 5 = .ok (.if_icmp .ge 15, 3) := by decide +kernel
theorem dX13_flows_8 : decode cX13_flows 8 = .ok (.aload_n 0, 1) := by decide +kernel
theorem dX13_flows_9 : decode cX13_flows 9 = .ok (.iload_n 2, 1) := by decide +kernel
theorem dX13_flows_10 : decode cX13_flows 10 = .ok (.aload_n 1, 1) := by decide +kernel
theorem dX13_flows_11 : decode cX13_flows 11 = .ok (.iload_n 2, 1) := by decide +kernel
theorem dX13_flows_12 : decode cX13_flows 12 = .ok (.faload, 1) := by decide +kernel
theorem dX13_flows_13 : decode cX13_flows 13 = .ok (.fastore, 1) := by decide +kernel
theorem dX13_flows_14 : decode cX13_flows 14 = .ok (.iinc 2 1, 3) := by decide +kernel
theorem dX13_flows_17 : decode cX13_flows 17 = .ok (.goto (-15), 3) := by decide +kernel
theorem dX13_flows_20 : decode cX13_flows 20 = .ok (.return_, 1) := by decide +kernel
set_option maxRecDepth 20000 in
theorem ggX13_begins_X13_lays : GoodIn wsX13_begins wsX13_lays := goodIn_ca (goodIn_r _ [9] rfl (by decide +kernel)) (goodIn_sub (fun _ h => List.mem_cons_of_mem _ (List.mem_append_right _ h)) (by decide +kernel))
set_option maxRecDepth 20000 in
theorem gX13_begins_X13_lays : GoodIn wsX13_begins (va_wsS RX13 80 yX13_lays wsX13_lays) := goodIn_app (goodIn_of _ (by decide +kernel)) ggX13_begins_X13_lays
set_option maxRecDepth 20000 in
theorem ggX13_begins_X13_flows : GoodIn wsX13_begins wsX13_flows := goodIn_ca (goodIn_r _ [12] rfl (by decide +kernel)) (goodIn_sub (fun _ h => List.mem_cons_of_mem _ (List.mem_append_right _ h)) (by decide +kernel))
set_option maxRecDepth 20000 in
theorem gX13_begins_X13_flows : GoodIn wsX13_begins (va_wsS RX13 84 yX13_flows wsX13_flows) := goodIn_app (goodIn_of _ (by decide +kernel)) ggX13_begins_X13_flows
theorem dX13_begins_0 : decode cX13_begins 0 = .ok (.aload_n 0, 1) := by decide +kernel
theorem dX13_begins_1 : decode cX13_begins 1 = .ok (.iconst 0, 1) := by decide +kernel
theorem dX13_begins_2 : decode cX13_begins 2 = .ok (.putfield 77, 3) := by decide +kernel
theorem dX13_begins_5 : decode cX13_begins 5 = .ok (.aload_n 0, 1) := by decide +kernel
theorem dX13_begins_6 : decode cX13_begins 6 = .ok (.getfield 20, 3) := by decide +kernel
theorem dX13_begins_9 : decode cX13_begins 9 = .ok (.aload_n 0, 1) := by decide +kernel
theorem dX13_begins_10 : decode cX13_begins 10 = .ok (.getfield 16, 3) := by decide +kernel
theorem dX13_begins_13 : decode cX13_begins 13 = .ok (.invokestatic 80, 3) := by decide +kernel
theorem dX13_begins_16 : decode cX13_begins 16 = .ok (.aload_n 0, 1) := by decide +kernel
theorem dX13_begins_17 : decode cX13_begins 17 = .ok (.getfield 36, 3) := by decide +kernel
theorem dX13_begins_20 : decode cX13_begins 20 = .ok (.aload_n 0, 1) := by decide +kernel
theorem dX13_begins_21 : decode cX13_begins 21 = .ok (.getfield 32, 3) := by decide +kernel
theorem dX13_begins_24 : decode cX13_begins 24 = .ok (.invokestatic 84, 3) := by decide +kernel
theorem dX13_begins_27 : decode cX13_begins 27 = .ok (.return_, 1) := by decide +kernel
set_option maxRecDepth 20000 in
theorem ggX13_ends_X13_lays : GoodIn wsX13_ends wsX13_lays := goodIn_ca (goodIn_r _ [12] rfl (by decide +kernel)) (goodIn_sub (fun _ h => List.mem_cons_of_mem _ (List.mem_append_right _ h)) (by decide +kernel))
set_option maxRecDepth 20000 in
theorem gX13_ends_X13_lays : GoodIn wsX13_ends (va_wsS RX13 80 yX13_lays wsX13_lays) := goodIn_app (goodIn_of _ (by decide +kernel)) ggX13_ends_X13_lays
set_option maxRecDepth 20000 in
theorem ggX13_ends_X13_flows : GoodIn wsX13_ends wsX13_flows := goodIn_ca (goodIn_r _ [15] rfl (by decide +kernel)) (goodIn_sub (fun _ h => List.mem_cons_of_mem _ (List.mem_append_right _ h)) (by decide +kernel))
set_option maxRecDepth 20000 in
theorem gX13_ends_X13_flows : GoodIn wsX13_ends (va_wsS RX13 84 yX13_flows wsX13_flows) := goodIn_app (goodIn_of _ (by decide +kernel)) ggX13_ends_X13_flows
theorem dX13_ends_0 : decode cX13_ends 0 = .ok (.aload_n 0, 1) := by decide +kernel
theorem dX13_ends_1 : decode cX13_ends 1 = .ok (.getfield 77, 3) := by decide +kernel
theorem dX13_ends_4 : decode cX13_ends 4 = .ok (.ifCond .eq 27, 3) := by decide +kernel
theorem dX13_ends_7 : decode cX13_ends 7 = .ok (.aload_n 0, 1) := by decide +kernel
theorem dX13_ends_8 : decode cX13_ends 8 = .ok (.getfield 16, 3) := by decide +kernel
theorem dX13_ends_11 : decode cX13_ends 11 = .ok (.aload_n 0, 1) := by decide +kernel
theorem dX13_ends_12 : decode cX13_ends 12 = .ok (.getfield 20, 3) := by decide +kernel
theorem dX13_ends_15 : decode cX13_ends 15 = .ok (.invokestatic 80, 3) := by decide +kernel
theorem dX13_ends_18 : decode cX13_ends 18 = .ok (.aload_n 0, 1) := by decide +kernel
theorem dX13_ends_19 : decode cX13_ends 19 = .ok (.getfield 32, 3) := by decide +kernel
theorem dX13_ends_22 : decode cX13_ends 22 = .ok (.aload_n 0, 1) := by decide +kernel
theorem dX13_ends_23 : decode cX13_ends 23 = .ok (.getfield 36, 3) := by decide +kernel
theorem dX13_ends_26 : decode cX13_ends 26 = .ok (.invokestatic 84, 3) := by decide +kernel
theorem dX13_ends_29 : decode cX13_ends 29 = .ok (.iconst 0, 1) := by decide +kernel
theorem dX13_ends_30 : decode cX13_ends 30 = .ok (.ireturn, 1) := by decide +kernel
theorem dX13_ends_31 : decode cX13_ends 31 = .ok (.aload_n 0, 1) := by decide +kernel
theorem dX13_ends_32 : decode cX13_ends 32 = .ok (.getfield 88, 3) := by decide +kernel
theorem dX13_ends_35 : decode cX13_ends 35 = .ok (.bipush 8, 2) := by decide +kernel
theorem dX13_ends_37 : decode cX13_ends 37 = .ok (.if_icmp .ne 72, 3) := by decide +kernel
theorem dX13_ends_40 : decode cX13_ends 40 = .ok (.iconst 0, 1) := by decide +kernel
theorem dX13_ends_41 : decode cX13_ends 41 = .ok (.istore_n 2, 1) := by decide +kernel
theorem dX13_ends_42 : decode cX13_ends 42 = .ok (.iload_n 2, 1) := by decide +kernel
theorem dX13_ends_43 : decode cX13_ends 43 = .ok (.sipush 581, 3) := by decide +kernel
theorem dX13_ends_46 : decode cX13_ends 46 = .ok (.if_icmp .ge 24, 3) := by decide +kernel
theorem dX13_ends_49 : decode cX13_ends 49 = .ok (.aload_n 0, 1) := by decide +kernel
theorem dX13_ends_50 : decode cX13_ends 50 = .ok (.getfield 26, 3) := by decide +kernel
theorem dX13_ends_53 : decode cX13_ends 53 = .ok (.iload_n 2, 1) := by decide +kernel
theorem dX13_ends_54 : decode cX13_ends 54 = .ok (.aload_n 0, 1) := by decide +kernel
theorem dX13_ends_55 : decode cX13_ends 55 = .ok (.getfield 26, 3) := by decide +kernel
theorem dX13_ends_58 : decode cX13_ends 58 = .ok (.iload_n 2, 1) := by decide +kernel
theorem dX13_ends_59 : decode cX13_ends 59 = .ok (.bipush 83, 2) := by decide +kernel
theorem dX13_ends_61 : decode cX13_ends 61 = .ok (.iadd, 1) := by decide +kernel
theorem dX13_ends_62 : decode cX13_ends 62 = .ok (.iaload, 1) := by decide +kernel
theorem dX13_ends_63 : decode cX13_ends 63 = .ok (.iastore, 1) := by decide +kernel
theorem dX13_ends_64 : decode cX13_ends 64 = .ok (.iinc 2 1, 3) := by decide +kernel
theorem dX13_ends_67 : decode cX13_ends 67 = .ok (.goto (-25), 3) := by decide +kernel
theorem dX13_ends_70 : decode cX13_ends 70 = .ok (.iconst 0, 1) := by decide +kernel
theorem dX13_ends_71 : decode cX13_ends 71 = .ok (.istore_n 2, 1) := by decide +kernel
theorem dX13_ends_72 : decode cX13_ends 72 = .ok (.iload_n 2, 1) := by decide +kernel
theorem dX13_ends_73 : decode cX13_ends 73 = .ok (.bipush 70, 2) := by decide +kernel
theorem dX13_ends_75 : decode cX13_ends 75 = .ok (.if_icmp .ge 24, 3) := by decide +kernel
theorem dX13_ends_78 : decode cX13_ends 78 = .ok (.aload_n 0, 1) := by decide +kernel
theorem dX13_ends_79 : decode cX13_ends 79 = .ok (.getfield 42, 3) := by decide +kernel
theorem dX13_ends_82 : decode cX13_ends 82 = .ok (.iload_n 2, 1) := by decide +kernel
theorem dX13_ends_83 : decode cX13_ends 83 = .ok (.aload_n 0, 1) := by decide +kernel
theorem dX13_ends_84 : decode cX13_ends 84 = .ok (.getfield 42, 3) := by decide +kernel
theorem dX13_ends_87 : decode cX13_ends 87 = .ok (.iload_n 2, 1) := by decide +kernel
theorem dX13_ends_88 : decode cX13_ends 88 = .ok (.bipush 10, 2) := by decide +kernel
theorem dX13_ends_90 : decode cX13_ends 90 = .ok (.iadd, 1) := by decide +kernel
theorem dX13_ends_91 : decode cX13_ends 91 = .ok (.faload, 1) := by decide +kernel
theorem dX13_ends_92 : decode cX13_ends 92 = .ok (.fastore, 1) := by decide +kernel
theorem dX13_ends_93 : decode cX13_ends 93 = .ok (.iinc 2 1, 3) := by decide +kernel
theorem dX13_ends_96 : decode cX13_ends 96 = .ok (.goto (-24), 3) := by decide +kernel
theorem dX13_ends_99 : decode cX13_ends 99 = .ok (.aload_n 0, 1) := by decide +kernel
theorem dX13_ends_100 : decode cX13_ends 100 = .ok (.dup, 1) := by decide +kernel
theorem dX13_ends_101 : decode cX13_ends 101 = .ok (.getfield 88, 3) := by decide +kernel
theorem dX13_ends_104 : decode cX13_ends 104 = .ok (.iconst 1, 1) := by decide +kernel
theorem dX13_ends_105 : decode cX13_ends 105 = .ok (.isub, 1) := by decide +kernel
theorem dX13_ends_106 : decode cX13_ends 106 = .ok (.putfield 88, 3) := by decide +kernel
theorem dX13_ends_109 : decode cX13_ends 109 = .ok (.iconst 0, 1) := by decide +kernel
theorem dX13_ends_110 : decode cX13_ends 110 = .ok (.istore_n 2, 1) := by decide +kernel
theorem dX13_ends_111 : decode cX13_ends 111 = .ok (.iload_n 2, 1) := by decide +kernel
theorem dX13_ends_112 : decode cX13_ends 112 = .ok (.bipush 83, 2) := by decide +kernel
theorem dX13_ends_114 : decode cX13_ends 114 = .ok (.if_icmp .ge 29, 3) := by decide +kernel
theorem dX13_ends_117 : decode cX13_ends 117 = .ok (.aload_n 0, 1) := by decide +kernel
theorem dX13_ends_118 : decode cX13_ends 118 = .ok (.getfield 26, 3) := by decide +kernel
theorem dX13_ends_121 : decode cX13_ends 121 = .ok (.aload_n 0, 1) := by decide +kernel
theorem dX13_ends_122 : decode cX13_ends 122 = .ok (.getfield 88, 3) := by decide +kernel
theorem dX13_ends_125 : decode cX13_ends 125 = .ok (.bipush 83, 2) := by decide +kernel
theorem dX13_ends_127 : decode cX13_ends 127 = .ok (.imul, 1) := by decide +kernel
theorem dX13_ends_128 : decode cX13_ends 128 = .ok (.iload_n 2, 1) := by decide +kernel
theorem dX13_ends_129 : decode cX13_ends 129 = .ok (.iadd, 1) := by decide +kernel
theorem dX13_ends_130 : decode cX13_ends 130 = .ok (.aload_n 0, 1) := by decide +kernel
theorem dX13_ends_131 : decode cX13_ends 131 = .ok (.getfield 20, 3) := by decide +kernel
theorem dX13_ends_134 : decode cX13_ends 134 = .ok (.iload_n 2, 1) := by decide +kernel
theorem dX13_ends_135 : decode cX13_ends 135 = .ok (.iaload, 1) := by decide +kernel
theorem dX13_ends_136 : decode cX13_ends 136 = .ok (.iastore, 1) := by decide +kernel
theorem dX13_ends_137 : decode cX13_ends 137 = .ok (.iinc 2 1, 3) := by decide +kernel
theorem dX13_ends_140 : decode cX13_ends 140 = .ok (.goto (-29), 3) := by decide +kernel
theorem dX13_ends_143 : decode cX13_ends 143 = .ok (.iconst 0, 1) := by decide +kernel
theorem dX13_ends_144 : decode cX13_ends 144 = .ok (.istore_n 2, 1) := by decide +kernel
theorem dX13_ends_145 : decode cX13_ends 145 = .ok (.iload_n 2, 1) := by decide +kernel
theorem dX13_ends_146 : decode cX13_ends 146 = .ok (.bipush 10, 2) := by decide +kernel
theorem dX13_ends_148 : decode cX13_ends 148 = .ok (.if_icmp .ge 29, 3) := by decide +kernel
theorem dX13_ends_151 : decode cX13_ends 151 = .ok (.aload_n 0, 1) := by decide +kernel
theorem dX13_ends_152 : decode cX13_ends 152 = .ok (.getfield 42, 3) := by decide +kernel
theorem dX13_ends_155 : decode cX13_ends 155 = .ok (.aload_n 0, 1) := by decide +kernel
theorem dX13_ends_156 : decode cX13_ends 156 = .ok (.getfield 88, 3) := by decide +kernel
theorem dX13_ends_159 : decode cX13_ends 159 = .ok (.bipush 10, 2) := by decide +kernel
theorem dX13_ends_161 : decode cX13_ends 161 = .ok (.imul, 1) := by decide +kernel
theorem dX13_ends_162 : decode cX13_ends 162 = .ok (.iload_n 2, 1) := by decide +kernel
theorem dX13_ends_163 : decode cX13_ends 163 = .ok (.iadd, 1) := by decide +kernel
theorem dX13_ends_164 : decode cX13_ends 164 = .ok (.aload_n 0, 1) := by decide +kernel
theorem dX13_ends_165 : decode cX13_ends 165 = .ok (.getfield 36, 3) := by decide +kernel
theorem dX13_ends_168 : decode cX13_ends 168 = .ok (.iload_n 2, 1) := by decide +kernel
theorem dX13_ends_169 : decode cX13_ends 169 = .ok (.faload, 1) := by decide +kernel
theorem dX13_ends_170 : decode cX13_ends 170 = .ok (.fastore, 1) := by decide +kernel
theorem dX13_ends_171 : decode cX13_ends 171 = .ok (.iinc 2 1, 3) := by decide +kernel
theorem dX13_ends_174 : decode cX13_ends 174 = .ok (.goto (-29), 3) := by decide +kernel
theorem dX13_ends_177 : decode cX13_ends 177 = .ok (.aload_n 0, 1) := by decide +kernel
theorem dX13_ends_178 : decode cX13_ends 178 = .ok (.dup, 1) := by decide +kernel
theorem dX13_ends_179 : decode cX13_ends 179 = .ok (.getfield 88, 3) := by decide +kernel
theorem dX13_ends_182 : decode cX13_ends 182 = .ok (.iconst 1, 1) := by decide +kernel
theorem dX13_ends_183 : decode cX13_ends 183 = .ok (.iadd, 1) := by decide +kernel
theorem dX13_ends_184 : decode cX13_ends 184 = .ok (.putfield 88, 3) := by decide +kernel
theorem dX13_ends_187 : decode cX13_ends 187 = .ok (.iload_n 1, 1) := by decide +kernel
theorem dX13_ends_188 : decode cX13_ends 188 = .ok (.ireturn, 1) := by decide +kernel
theorem dX13_of_0 : decode cX13_of 0 = .ok (.iconst 5, 1) := by decide +kernel
theorem dX13_of_1 : decode cX13_of 1 = .ok (.iconst 3, 1) := by decide +kernel
theorem dX13_of_2 : decode cX13_of 2 = .ok (.iload_n 0, 1) := by decide +kernel
theorem dX13_of_3 : decode cX13_of 3 = .ok (.imul, 1) := by decide +kernel
theorem dX13_of_4 : decode cX13_of 4 = .ok (.iadd, 1) := by decide +kernel
theorem dX13_of_5 : decode cX13_of 5 = .ok (.iload_n 1, 1) := by decide +kernel
theorem dX13_of_6 : decode cX13_of 6 = .ok (.iadd, 1) := by decide +kernel
theorem dX13_of_7 : decode cX13_of 7 = .ok (.ireturn, 1) := by decide +kernel
theorem dX13_rackAt_0 : decode cX13_rackAt 0 = .ok (.bipush 35, 2) := by decide +kernel
theorem dX13_rackAt_2 : decode cX13_rackAt 2 = .ok (.iconst 4, 1) := by decide +kernel
theorem dX13_rackAt_3 : decode cX13_rackAt 3 = .ok (.iload_n 0, 1) := by decide +kernel
theorem dX13_rackAt_4 : decode cX13_rackAt 4 = .ok (.imul, 1) := by decide +kernel
theorem dX13_rackAt_5 : decode cX13_rackAt 5 = .ok (.iadd, 1) := by decide +kernel
theorem dX13_rackAt_6 : decode cX13_rackAt 6 = .ok (.iload_n 1, 1) := by decide +kernel
theorem dX13_rackAt_7 : decode cX13_rackAt 7 = .ok (.iadd, 1) := by decide +kernel
theorem dX13_rackAt_8 : decode cX13_rackAt 8 = .ok (.ireturn, 1) := by decide +kernel
set_option maxRecDepth 20000 in
theorem ggX13_isClaim_X13_isIn : GoodIn wsX13_isClaim wsX13_isIn := goodIn_r _ [5] rfl (by decide +kernel)
set_option maxRecDepth 20000 in
theorem gX13_isClaim_X13_isIn : GoodIn wsX13_isClaim (va_wsS RX13 91 yX13_isIn wsX13_isIn) := goodIn_app (goodIn_of _ (by decide +kernel)) ggX13_isClaim_X13_isIn
theorem dX13_isClaim_0 : decode cX13_isClaim 0 = .ok (.iload_n 1, 1) := by decide +kernel
theorem dX13_isClaim_1 : decode cX13_isClaim 1 = .ok (.iconst 0, 1) := by decide +kernel
theorem dX13_isClaim_2 : decode cX13_isClaim 2 = .ok (.aload_n 0, 1) := by decide +kernel
theorem dX13_isClaim_3 : decode cX13_isClaim 3 = .ok (.getfield 16, 3) := by decide +kernel
theorem dX13_isClaim_6 : decode cX13_isClaim 6 = .ok (.iconst 0, 1) := by decide +kernel
theorem dX13_isClaim_7 : decode cX13_isClaim 7 = .ok (.iaload, 1) := by decide +kernel
theorem dX13_isClaim_8 : decode cX13_isClaim 8 = .ok (.iconst 1, 1) := by decide +kernel
theorem dX13_isClaim_9 : decode cX13_isClaim 9 = .ok (.isub, 1) := by decide +kernel
theorem dX13_isClaim_10 : decode cX13_isClaim 10 = .ok (.invokestatic 91, 3) := by decide +kernel
theorem dX13_isClaim_13 : decode cX13_isClaim 13 = .ok (.ireturn, 1) := by decide +kernel
set_option maxRecDepth 20000 in
theorem ggX13_hits_X13_of : GoodIn wsX13_hits wsX13_of := goodIn_r _ [5] rfl (by decide +kernel)
set_option maxRecDepth 20000 in
theorem gX13_hits_X13_of : GoodIn wsX13_hits (va_wsS RX13 95 yX13_of wsX13_of) := goodIn_app (goodIn_of _ (by decide +kernel)) ggX13_hits_X13_of
theorem dX13_hits_0 : decode cX13_hits 0 = .ok (.aload_n 0, 1) := by decide +kernel
theorem dX13_hits_1 : decode cX13_hits 1 = .ok (.getfield 16, 3) := by decide +kernel
theorem dX13_hits_4 : decode cX13_hits 4 = .ok (.iload_n 1, 1) := by decide +kernel
theorem dX13_hits_5 : decode cX13_hits 5 = .ok (.iconst 2, 1) := by decide +kernel
theorem dX13_hits_6 : decode cX13_hits 6 = .ok (.invokestatic 95, 3) := by decide +kernel
theorem dX13_hits_9 : decode cX13_hits 9 = .ok (.iaload, 1) := by decide +kernel
theorem dX13_hits_10 : decode cX13_hits 10 = .ok (.iload_n 2, 1) := by decide +kernel
theorem dX13_hits_11 : decode cX13_hits 11 = .ok (.ishr, 1) := by decide +kernel
theorem dX13_hits_12 : decode cX13_hits 12 = .ok (.iconst 1, 1) := by decide +kernel
theorem dX13_hits_13 : decode cX13_hits 13 = .ok (.iand, 1) := by decide +kernel
theorem dX13_hits_14 : decode cX13_hits 14 = .ok (.iconst 1, 1) := by decide +kernel
theorem dX13_hits_15 : decode cX13_hits 15 = .ok (.if_icmp .ne 7, 3) := by decide +kernel
theorem dX13_hits_18 : decode cX13_hits 18 = .ok (.iconst 1, 1) := by decide +kernel
theorem dX13_hits_19 : decode cX13_hits 19 = .ok (.goto 4, 3) := by decide +kernel
theorem dX13_hits_22 : decode cX13_hits 22 = .ok (.iconst 0, 1) := by decide +kernel
theorem dX13_hits_23 : decode cX13_hits 23 = .ok (.ireturn, 1) := by decide +kernel
theorem dX13_logs_0 : decode cX13_logs 0 = .ok (.aload_n 0, 1) := by decide +kernel
theorem dX13_logs_1 : decode cX13_logs 1 = .ok (.getfield 16, 3) := by decide +kernel
theorem dX13_logs_4 : decode cX13_logs 4 = .ok (.iconst 4, 1) := by decide +kernel
theorem dX13_logs_5 : decode cX13_logs 5 = .ok (.iaload, 1) := by decide +kernel
theorem dX13_logs_6 : decode cX13_logs 6 = .ok (.bipush 16, 2) := by decide +kernel
theorem dX13_logs_8 : decode cX13_logs 8 = .ok (.if_icmp .ne 42, 3) := by decide +kernel
theorem dX13_logs_11 : decode cX13_logs 11 = .ok (.bipush 51, 2) := by decide +kernel
theorem dX13_logs_13 : decode cX13_logs 13 = .ok (.istore_n 2, 1) := by decide +kernel
theorem dX13_logs_14 : decode cX13_logs 14 = .ok (.iload_n 2, 1) := by decide +kernel
theorem dX13_logs_15 : decode cX13_logs 15 = .ok (.bipush 81, 2) := by decide +kernel
theorem dX13_logs_17 : decode cX13_logs 17 = .ok (.if_icmp .ge 23, 3) := by decide +kernel
theorem dX13_logs_20 : decode cX13_logs 20 = .ok (.aload_n 0, 1) := by decide +kernel
theorem dX13_logs_21 : decode cX13_logs 21 = .ok (.getfield 16, 3) := by decide +kernel
theorem dX13_logs_24 : decode cX13_logs 24 = .ok (.iload_n 2, 1) := by decide +kernel
theorem dX13_logs_25 : decode cX13_logs 25 = .ok (.aload_n 0, 1) := by decide +kernel
theorem dX13_logs_26 : decode cX13_logs 26 = .ok (.getfield 16, 3) := by decide +kernel
theorem dX13_logs_29 : decode cX13_logs 29 = .ok (.iload_n 2, 1) := by decide +kernel
theorem dX13_logs_30 : decode cX13_logs 30 = .ok (.iconst 2, 1) := by decide +kernel
theorem dX13_logs_31 : decode cX13_logs 31 = .ok (.iadd, 1) := by decide +kernel
theorem dX13_logs_32 : decode cX13_logs 32 = .ok (.iaload, 1) := by decide +kernel
theorem dX13_logs_33 : decode cX13_logs 33 = .ok (.iastore, 1) := by decide +kernel
theorem dX13_logs_34 : decode cX13_logs 34 = .ok (.iinc 2 1, 3) := by decide +kernel
theorem dX13_logs_37 : decode cX13_logs 37 = .ok (.goto (-23), 3) := by decide +kernel
theorem dX13_logs_40 : decode cX13_logs 40 = .ok (.aload_n 0, 1) := by decide +kernel
theorem dX13_logs_41 : decode cX13_logs 41 = .ok (.getfield 16, 3) := by decide +kernel
theorem dX13_logs_44 : decode cX13_logs 44 = .ok (.iconst 4, 1) := by decide +kernel
theorem dX13_logs_45 : decode cX13_logs 45 = .ok (.dup2, 1) := by decide +kernel
theorem dX13_logs_46 : decode cX13_logs 46 = .ok (.iaload, 1) := by decide +kernel
theorem dX13_logs_47 : decode cX13_logs 47 = .ok (.iconst 1, 1) := by decide +kernel
theorem dX13_logs_48 : decode cX13_logs 48 = .ok (.isub, 1) := by decide +kernel
theorem dX13_logs_49 : decode cX13_logs 49 = .ok (.iastore, 1) := by decide +kernel
theorem dX13_logs_50 : decode cX13_logs 50 = .ok (.aload_n 0, 1) := by decide +kernel
theorem dX13_logs_51 : decode cX13_logs 51 = .ok (.getfield 16, 3) := by decide +kernel
theorem dX13_logs_54 : decode cX13_logs 54 = .ok (.bipush 51, 2) := by decide +kernel
theorem dX13_logs_56 : decode cX13_logs 56 = .ok (.iconst 2, 1) := by decide +kernel
theorem dX13_logs_57 : decode cX13_logs 57 = .ok (.aload_n 0, 1) := by decide +kernel
theorem dX13_logs_58 : decode cX13_logs 58 = .ok (.getfield 16, 3) := by decide +kernel
theorem dX13_logs_61 : decode cX13_logs 61 = .ok (.iconst 4, 1) := by decide +kernel
theorem dX13_logs_62 : decode cX13_logs 62 = .ok (.iaload, 1) := by decide +kernel
theorem dX13_logs_63 : decode cX13_logs 63 = .ok (.imul, 1) := by decide +kernel
theorem dX13_logs_64 : decode cX13_logs 64 = .ok (.iadd, 1) := by decide +kernel
theorem dX13_logs_65 : decode cX13_logs 65 = .ok (.aload_n 0, 1) := by decide +kernel
theorem dX13_logs_66 : decode cX13_logs 66 = .ok (.getfield 16, 3) := by decide +kernel
theorem dX13_logs_69 : decode cX13_logs 69 = .ok (.iconst 2, 1) := by decide +kernel
theorem dX13_logs_70 : decode cX13_logs 70 = .ok (.iaload, 1) := by decide +kernel
theorem dX13_logs_71 : decode cX13_logs 71 = .ok (.iastore, 1) := by decide +kernel
theorem dX13_logs_72 : decode cX13_logs 72 = .ok (.aload_n 0, 1) := by decide +kernel
theorem dX13_logs_73 : decode cX13_logs 73 = .ok (.getfield 16, 3) := by decide +kernel
theorem dX13_logs_76 : decode cX13_logs 76 = .ok (.bipush 51, 2) := by decide +kernel
theorem dX13_logs_78 : decode cX13_logs 78 = .ok (.iconst 2, 1) := by decide +kernel
theorem dX13_logs_79 : decode cX13_logs 79 = .ok (.aload_n 0, 1) := by decide +kernel
theorem dX13_logs_80 : decode cX13_logs 80 = .ok (.getfield 16, 3) := by decide +kernel
theorem dX13_logs_83 : decode cX13_logs 83 = .ok (.iconst 4, 1) := by decide +kernel
theorem dX13_logs_84 : decode cX13_logs 84 = .ok (.iaload, 1) := by decide +kernel
theorem dX13_logs_85 : decode cX13_logs 85 = .ok (.imul, 1) := by decide +kernel
theorem dX13_logs_86 : decode cX13_logs 86 = .ok (.iadd, 1) := by decide +kernel
theorem dX13_logs_87 : decode cX13_logs 87 = .ok (.iconst 1, 1) := by decide +kernel
theorem dX13_logs_88 : decode cX13_logs 88 = .ok (.iadd, 1) := by decide +kernel
theorem dX13_logs_89 : decode cX13_logs 89 = .ok (.iload_n 1, 1) := by decide +kernel
theorem dX13_logs_90 : decode cX13_logs 90 = .ok (.iastore, 1) := by decide +kernel
theorem dX13_logs_91 : decode cX13_logs 91 = .ok (.aload_n 0, 1) := by decide +kernel
theorem dX13_logs_92 : decode cX13_logs 92 = .ok (.getfield 16, 3) := by decide +kernel
theorem dX13_logs_95 : decode cX13_logs 95 = .ok (.iconst 4, 1) := by decide +kernel
theorem dX13_logs_96 : decode cX13_logs 96 = .ok (.dup2, 1) := by decide +kernel
theorem dX13_logs_97 : decode cX13_logs 97 = .ok (.iaload, 1) := by decide +kernel
theorem dX13_logs_98 : decode cX13_logs 98 = .ok (.iconst 1, 1) := by decide +kernel
theorem dX13_logs_99 : decode cX13_logs 99 = .ok (.iadd, 1) := by decide +kernel
theorem dX13_logs_100 : decode cX13_logs 100 = .ok (.iastore, 1) := by decide +kernel
theorem dX13_logs_101 : decode cX13_logs 101 = .ok (.return_, 1) := by decide +kernel
set_option maxRecDepth 20000 in
theorem ggX13_adds_X13_isIn : GoodIn wsX13_adds wsX13_isIn := goodIn_r _ [6] rfl (by decide +kernel)
set_option maxRecDepth 20000 in
theorem gX13_adds_X13_isIn : GoodIn wsX13_adds (va_wsS RX13 91 yX13_isIn wsX13_isIn) := goodIn_app (goodIn_of _ (by decide +kernel)) ggX13_adds_X13_isIn
set_option maxRecDepth 20000 in
theorem ggX13_adds_X13_fail : GoodIn wsX13_adds wsX13_fail := goodIn_r _ [10, 11, 15, 16, 17, 18, 19, 20, 21, 22, 23, 24, 25, 26, 27, 28, 29, 30, 31, 32, 33, 34, 35, 36, 37, 38, 39, 40, 41, 42, 43] rfl (by decide +kernel)
set_option maxRecDepth 20000 in
theorem gX13_adds_X13_fail : GoodIn wsX13_adds (wsV RX13 98 RX13 yX13_fail wsX13_fail) := goodIn_app (goodIn_of _ (by decide +kernel)) ggX13_adds_X13_fail
set_option maxRecDepth 20000 in
theorem ggX13_adds_X13_of : GoodIn wsX13_adds wsX13_of := goodIn_r _ [14] rfl (by decide +kernel)
set_option maxRecDepth 20000 in
theorem gX13_adds_X13_of : GoodIn wsX13_adds (va_wsS RX13 95 yX13_of wsX13_of) := goodIn_app (goodIn_of _ (by decide +kernel)) ggX13_adds_X13_of
theorem dX13_adds_0 : decode cX13_adds 0 = .ok (.iload_n 1, 1) := by decide +kernel
theorem dX13_adds_1 : decode cX13_adds 1 = .ok (.iconst 1, 1) := by decide +kernel
theorem dX13_adds_2 : decode cX13_adds 2 = .ok (.bipush 99, 2) := by decide +kernel
theorem dX13_adds_4 : decode cX13_adds 4 = .ok (.invokestatic 91, 3) := by decide +kernel
theorem dX13_adds_7 : decode cX13_adds 7 = .ok (.ifCond .ne 9, 3) := by decide +kernel
theorem dX13_adds_10 : decode cX13_adds 10 = .ok (.aload_n 0, 1) := by decide +kernel
theorem dX13_adds_11 : decode cX13_adds 11 = .ok (.iconst 1, 1) := by decide +kernel
theorem dX13_adds_12 : decode cX13_adds 12 = .ok (.invokevirtual 98, 3) := by decide +kernel
theorem dX13_adds_15 : decode cX13_adds 15 = .ok (.ireturn, 1) := by decide +kernel
theorem dX13_adds_16 : decode cX13_adds 16 = .ok (.aload_n 0, 1) := by decide +kernel
theorem dX13_adds_17 : decode cX13_adds 17 = .ok (.getfield 16, 3) := by decide +kernel
theorem dX13_adds_20 : decode cX13_adds 20 = .ok (.iconst 0, 1) := by decide +kernel
theorem dX13_adds_21 : decode cX13_adds 21 = .ok (.iaload, 1) := by decide +kernel
theorem dX13_adds_22 : decode cX13_adds 22 = .ok (.istore_n 2, 1) := by decide +kernel
theorem dX13_adds_23 : decode cX13_adds 23 = .ok (.iload_n 2, 1) := by decide +kernel
theorem dX13_adds_24 : decode cX13_adds 24 = .ok (.bipush 10, 2) := by decide +kernel
theorem dX13_adds_26 : decode cX13_adds 26 = .ok (.if_icmp .ne 9, 3) := by decide +kernel
theorem dX13_adds_29 : decode cX13_adds 29 = .ok (.aload_n 0, 1) := by decide +kernel
theorem dX13_adds_30 : decode cX13_adds 30 = .ok (.iconst 2, 1) := by decide +kernel
theorem dX13_adds_31 : decode cX13_adds 31 = .ok (.invokevirtual 98, 3) := by decide +kernel
theorem dX13_adds_34 : decode cX13_adds 34 = .ok (.ireturn, 1) := by decide +kernel
theorem dX13_adds_35 : decode cX13_adds 35 = .ok (.aload_n 0, 1) := by decide +kernel
theorem dX13_adds_36 : decode cX13_adds 36 = .ok (.getfield 16, 3) := by decide +kernel
theorem dX13_adds_39 : decode cX13_adds 39 = .ok (.iload_n 2, 1) := by decide +kernel
theorem dX13_adds_40 : decode cX13_adds 40 = .ok (.iconst 0, 1) := by decide +kernel
theorem dX13_adds_41 : decode cX13_adds 41 = .ok (.invokestatic 95, 3) := by decide +kernel
theorem dX13_adds_44 : decode cX13_adds 44 = .ok (.iload_n 1, 1) := by decide +kernel
theorem dX13_adds_45 : decode cX13_adds 45 = .ok (.iastore, 1) := by decide +kernel
theorem dX13_adds_46 : decode cX13_adds 46 = .ok (.aload_n 0, 1) := by decide +kernel
theorem dX13_adds_47 : decode cX13_adds 47 = .ok (.getfield 16, 3) := by decide +kernel
theorem dX13_adds_50 : decode cX13_adds 50 = .ok (.iload_n 2, 1) := by decide +kernel
theorem dX13_adds_51 : decode cX13_adds 51 = .ok (.iconst 1, 1) := by decide +kernel
theorem dX13_adds_52 : decode cX13_adds 52 = .ok (.invokestatic 95, 3) := by decide +kernel
theorem dX13_adds_55 : decode cX13_adds 55 = .ok (.iconst 0, 1) := by decide +kernel
theorem dX13_adds_56 : decode cX13_adds 56 = .ok (.iastore, 1) := by decide +kernel
theorem dX13_adds_57 : decode cX13_adds 57 = .ok (.aload_n 0, 1) := by decide +kernel
theorem dX13_adds_58 : decode cX13_adds 58 = .ok (.getfield 16, 3) := by decide +kernel
theorem dX13_adds_61 : decode cX13_adds 61 = .ok (.iload_n 2, 1) := by decide +kernel
theorem dX13_adds_62 : decode cX13_adds 62 = .ok (.iconst 2, 1) := by decide +kernel
theorem dX13_adds_63 : decode cX13_adds 63 = .ok (.invokestatic 95, 3) := by decide +kernel
theorem dX13_adds_66 : decode cX13_adds 66 = .ok (.iconst 0, 1) := by decide +kernel
theorem dX13_adds_67 : decode cX13_adds 67 = .ok (.iastore, 1) := by decide +kernel
theorem dX13_adds_68 : decode cX13_adds 68 = .ok (.aload_n 0, 1) := by decide +kernel
theorem dX13_adds_69 : decode cX13_adds 69 = .ok (.getfield 32, 3) := by decide +kernel
theorem dX13_adds_72 : decode cX13_adds 72 = .ok (.iload_n 2, 1) := by decide +kernel
theorem dX13_adds_73 : decode cX13_adds 73 = .ok (.fconst 0, 1) := by decide +kernel
theorem dX13_adds_74 : decode cX13_adds 74 = .ok (.fastore, 1) := by decide +kernel
theorem dX13_adds_75 : decode cX13_adds 75 = .ok (.aload_n 0, 1) := by decide +kernel
theorem dX13_adds_76 : decode cX13_adds 76 = .ok (.getfield 16, 3) := by decide +kernel
theorem dX13_adds_79 : decode cX13_adds 79 = .ok (.iconst 0, 1) := by decide +kernel
theorem dX13_adds_80 : decode cX13_adds 80 = .ok (.dup2, 1) := by decide +kernel
theorem dX13_adds_81 : decode cX13_adds 81 = .ok (.iaload, 1) := by decide +kernel
theorem dX13_adds_82 : decode cX13_adds 82 = .ok (.iconst 1, 1) := by decide +kernel
theorem dX13_adds_83 : decode cX13_adds 83 = .ok (.iadd, 1) := by decide +kernel
theorem dX13_adds_84 : decode cX13_adds 84 = .ok (.iastore, 1) := by decide +kernel
theorem dX13_adds_85 : decode cX13_adds 85 = .ok (.iload_n 2, 1) := by decide +kernel
theorem dX13_adds_86 : decode cX13_adds 86 = .ok (.ireturn, 1) := by decide +kernel
set_option maxRecDepth 20000 in
theorem ggX13_addClaim_X13_begins : GoodIn wsX13_addClaim wsX13_begins := goodIn_ca (goodIn_r _ [5, 6, 7, 8, 9, 10, 11, 12, 4, 13, 14, 15, 16, 38, 39, 40, 41, 42, 43, 44, 45, 46, 47, 48, 49, 50, 51, 52, 53, 54, 55, 56, 57, 58, 59, 60, 61, 62, 63, 64, 65, 66] rfl (by decide +kernel)) (goodIn_sub (fun _ h => List.mem_cons_of_mem _ (List.mem_append_right _ h)) (by decide +kernel))
set_option maxRecDepth 20000 in
theorem gX13_addClaim_X13_begins : GoodIn wsX13_addClaim (wsV RX13 102 RX13 yX13_begins wsX13_begins) := goodIn_app (goodIn_of _ (by decide +kernel)) ggX13_addClaim_X13_begins
set_option maxRecDepth 20000 in
theorem ggX13_addClaim_X13_adds : GoodIn wsX13_addClaim wsX13_adds := goodIn_ca (goodIn_r _ [20, 8, 10, 21, 22, 4, 23, 24, 25, 26, 27, 6, 28, 29, 30, 38, 39, 40, 41, 42, 43, 44, 45, 46, 47, 48, 49, 50, 51, 52, 53, 54, 55, 56, 57, 58, 59, 60, 61, 62, 63, 64, 65, 66] rfl (by decide +kernel)) (goodIn_sub (fun _ h => List.mem_cons_of_mem _ (List.mem_append_right _ h)) (by decide +kernel))
set_option maxRecDepth 20000 in
theorem gX13_addClaim_X13_adds : GoodIn wsX13_addClaim (wsV RX13 105 RX13 yX13_adds wsX13_adds) := goodIn_app (goodIn_of _ (by decide +kernel)) ggX13_addClaim_X13_adds
set_option maxRecDepth 20000 in
theorem ggX13_addClaim_X13_ends : GoodIn wsX13_addClaim wsX13_ends := goodIn_ca (goodIn_r _ [34, 6, 8, 7, 10, 9, 35, 36, 37, 11, 12, 4, 13, 14, 15, 16, 38, 39, 40, 41, 42, 43, 44, 45, 46, 47, 48, 49, 50, 51, 52, 53, 54, 55, 56, 57, 58, 59, 60, 61, 62, 63, 64, 65, 66] rfl (by decide +kernel)) (goodIn_sub (fun _ h => List.mem_cons_of_mem _ (List.mem_append_right _ h)) (by decide +kernel))
set_option maxRecDepth 20000 in
theorem gX13_addClaim_X13_ends : GoodIn wsX13_addClaim (wsV RX13 108 RX13 yX13_ends wsX13_ends) := goodIn_app (goodIn_of _ (by decide +kernel)) ggX13_addClaim_X13_ends
theorem dX13_addClaim_0 : decode cX13_addClaim 0 = .ok (.aload_n 0, 1) := by decide +kernel
theorem dX13_addClaim_1 : decode cX13_addClaim 1 = .ok (.invokevirtual 102, 3) := by decide +kernel
theorem dX13_addClaim_4 : decode cX13_addClaim 4 = .ok (.aload_n 0, 1) := by decide +kernel
theorem dX13_addClaim_5 : decode cX13_addClaim 5 = .ok (.aload_n 0, 1) := by decide +kernel
theorem dX13_addClaim_6 : decode cX13_addClaim 6 = .ok (.iload_n 1, 1) := by decide +kernel
theorem dX13_addClaim_7 : decode cX13_addClaim 7 = .ok (.invokevirtual 105, 3) := by decide +kernel
theorem dX13_addClaim_10 : decode cX13_addClaim 10 = .ok (.invokevirtual 108, 3) := by decide +kernel
theorem dX13_addClaim_13 : decode cX13_addClaim 13 = .ok (.ireturn, 1) := by decide +kernel
set_option maxRecDepth 20000 in
theorem ggX13_sets_X13_isClaim : GoodIn wsX13_sets wsX13_isClaim := goodIn_ca (goodIn_r _ [6, 1, 7, 8, 5, 9, 22, 23, 24, 25, 26, 27, 28, 29, 30, 31, 32, 33, 34, 35, 36, 37, 38, 39, 40, 41, 42, 43, 44, 45, 46, 47, 48, 49, 50] rfl (by decide +kernel)) (goodIn_sub (fun _ h => List.mem_cons_of_mem _ (List.mem_append_right _ h)) (by decide +kernel))
set_option maxRecDepth 20000 in
theorem gX13_sets_X13_isClaim : GoodIn wsX13_sets (wsV RX13 111 RX13 yX13_isClaim wsX13_isClaim) := goodIn_app (goodIn_of _ (by decide +kernel)) ggX13_sets_X13_isClaim
set_option maxRecDepth 20000 in
theorem ggX13_sets_X13_fail : GoodIn wsX13_sets wsX13_fail := goodIn_r _ [13, 14, 22, 23, 24, 25, 26, 27, 28, 29, 30, 31, 32, 33, 34, 35, 36, 37, 38, 39, 40, 41, 42, 43, 44, 45, 46, 47, 48, 49, 50] rfl (by decide +kernel)
set_option maxRecDepth 20000 in
theorem gX13_sets_X13_fail : GoodIn wsX13_sets (wsV RX13 98 RX13 yX13_fail wsX13_fail) := goodIn_app (goodIn_of _ (by decide +kernel)) ggX13_sets_X13_fail
set_option maxRecDepth 20000 in
theorem ggX13_sets_X13_hits : GoodIn wsX13_sets wsX13_hits := goodIn_ca (goodIn_r _ [18, 1, 19, 20, 5, 21, 22, 23, 24, 25, 26, 27, 28, 29, 30, 31, 32, 33, 34, 35, 36, 37, 38, 39, 40, 41, 42, 43, 44, 45, 46, 47, 48, 49, 50] rfl (by decide +kernel)) (goodIn_sub (fun _ h => List.mem_cons_of_mem _ (List.mem_append_right _ h)) (by decide +kernel))
set_option maxRecDepth 20000 in
theorem gX13_sets_X13_hits : GoodIn wsX13_sets (wsV RX13 115 RX13 yX13_hits wsX13_hits) := goodIn_app (goodIn_of _ (by decide +kernel)) ggX13_sets_X13_hits
set_option maxRecDepth 20000 in
theorem ggX13_sets_X13_of : GoodIn wsX13_sets wsX13_of := goodIn_r _ [21] rfl (by decide +kernel)
set_option maxRecDepth 20000 in
theorem gX13_sets_X13_of : GoodIn wsX13_sets (va_wsS RX13 95 yX13_of wsX13_of) := goodIn_app (goodIn_of _ (by decide +kernel)) ggX13_sets_X13_of
theorem dX13_sets_0 : decode cX13_sets 0 = .ok (.aload_n 0, 1) := by decide +kernel
theorem dX13_sets_1 : decode cX13_sets 1 = .ok (.iload_n 1, 1) := by decide +kernel
theorem dX13_sets_2 : decode cX13_sets 2 = .ok (.invokevirtual 111, 3) := by decide +kernel
theorem dX13_sets_5 : decode cX13_sets 5 = .ok (.ifCond .eq 11, 3) := by decide +kernel
theorem dX13_sets_8 : decode cX13_sets 8 = .ok (.aload_n 0, 1) := by decide +kernel
theorem dX13_sets_9 : decode cX13_sets 9 = .ok (.iload_n 2, 1) := by decide +kernel
theorem dX13_sets_10 : decode cX13_sets 10 = .ok (.invokevirtual 111, 3) := by decide +kernel
theorem dX13_sets_13 : decode cX13_sets 13 = .ok (.ifCond .ne 9, 3) := by decide +kernel
theorem dX13_sets_16 : decode cX13_sets 16 = .ok (.aload_n 0, 1) := by decide +kernel
theorem dX13_sets_17 : decode cX13_sets 17 = .ok (.iconst 1, 1) := by decide +kernel
theorem dX13_sets_18 : decode cX13_sets 18 = .ok (.invokevirtual 98, 3) := by decide +kernel
theorem dX13_sets_21 : decode cX13_sets 21 = .ok (.ireturn, 1) := by decide +kernel
theorem dX13_sets_22 : decode cX13_sets 22 = .ok (.aload_n 0, 1) := by decide +kernel
theorem dX13_sets_23 : decode cX13_sets 23 = .ok (.iload_n 1, 1) := by decide +kernel
theorem dX13_sets_24 : decode cX13_sets 24 = .ok (.iload_n 2, 1) := by decide +kernel
theorem dX13_sets_25 : decode cX13_sets 25 = .ok (.invokevirtual 115, 3) := by decide +kernel
theorem dX13_sets_28 : decode cX13_sets 28 = .ok (.ifCond .eq 7, 3) := by decide +kernel
theorem dX13_sets_31 : decode cX13_sets 31 = .ok (.iconst 1, 1) := by decide +kernel
theorem dX13_sets_32 : decode cX13_sets 32 = .ok (.goto 4, 3) := by decide +kernel
theorem dX13_sets_35 : decode cX13_sets 35 = .ok (.iconst 0, 1) := by decide +kernel
theorem dX13_sets_36 : decode cX13_sets 36 = .ok (.istore 4, 2) := by decide +kernel
theorem dX13_sets_38 : decode cX13_sets 38 = .ok (.iload 4, 2) := by decide +kernel
theorem dX13_sets_40 : decode cX13_sets 40 = .ok (.iload_n 3, 1) := by decide +kernel
theorem dX13_sets_41 : decode cX13_sets 41 = .ok (.ifCond .eq 7, 3) := by decide +kernel
theorem dX13_sets_44 : decode cX13_sets 44 = .ok (.iconst 1, 1) := by decide +kernel
theorem dX13_sets_45 : decode cX13_sets 45 = .ok (.goto 4, 3) := by decide +kernel
theorem dX13_sets_48 : decode cX13_sets 48 = .ok (.iconst 0, 1) := by decide +kernel
theorem dX13_sets_49 : decode cX13_sets 49 = .ok (.if_icmp .eq 19, 3) := by decide +kernel
theorem dX13_sets_52 : decode cX13_sets 52 = .ok (.aload_n 0, 1) := by decide +kernel
theorem dX13_sets_53 : decode cX13_sets 53 = .ok (.getfield 16, 3) := by decide +kernel
theorem dX13_sets_56 : decode cX13_sets 56 = .ok (.iload_n 1, 1) := by decide +kernel
theorem dX13_sets_57 : decode cX13_sets 57 = .ok (.iconst 2, 1) := by decide +kernel
theorem dX13_sets_58 : decode cX13_sets 58 = .ok (.invokestatic 95, 3) := by decide +kernel
theorem dX13_sets_61 : decode cX13_sets 61 = .ok (.dup2, 1) := by decide +kernel
theorem dX13_sets_62 : decode cX13_sets 62 = .ok (.iaload, 1) := by decide +kernel
theorem dX13_sets_63 : decode cX13_sets 63 = .ok (.iconst 1, 1) := by decide +kernel
theorem dX13_sets_64 : decode cX13_sets 64 = .ok (.iload_n 2, 1) := by decide +kernel
theorem dX13_sets_65 : decode cX13_sets 65 = .ok (.ishl, 1) := by decide +kernel
theorem dX13_sets_66 : decode cX13_sets 66 = .ok (.ixor, 1) := by decide +kernel
theorem dX13_sets_67 : decode cX13_sets 67 = .ok (.iastore, 1) := by decide +kernel
theorem dX13_sets_68 : decode cX13_sets 68 = .ok (.iload 4, 2) := by decide +kernel
theorem dX13_sets_70 : decode cX13_sets 70 = .ok (.ireturn, 1) := by decide +kernel
set_option maxRecDepth 20000 in
theorem ggX13_setAttack_X13_begins : GoodIn wsX13_setAttack wsX13_begins := goodIn_ca (goodIn_r _ [5, 6, 7, 8, 9, 10, 11, 12, 4, 13, 14, 15, 16, 46, 47, 48, 49, 50, 51, 52, 53, 54, 55, 56, 57, 58, 59, 60, 61, 62, 63, 64, 65, 66, 67, 68, 69, 70, 71, 72, 73, 74] rfl (by decide +kernel)) (goodIn_sub (fun _ h => List.mem_cons_of_mem _ (List.mem_append_right _ h)) (by decide +kernel))
set_option maxRecDepth 20000 in
theorem gX13_setAttack_X13_begins : GoodIn wsX13_setAttack (wsV RX13 102 RX13 yX13_begins wsX13_begins) := goodIn_app (goodIn_of _ (by decide +kernel)) ggX13_setAttack_X13_begins
set_option maxRecDepth 20000 in
theorem ggX13_setAttack_X13_sets : GoodIn wsX13_setAttack wsX13_sets := goodIn_ca (goodIn_r _ [20, 8, 21, 22, 23, 4, 24, 25, 26, 27, 28, 29, 30, 31, 6, 32, 33, 34, 35, 36, 37, 38, 46, 47, 48, 49, 50, 51, 52, 53, 54, 55, 56, 57, 58, 59, 60, 61, 62, 63, 64, 65, 66, 67, 68, 69, 70, 71, 72, 73, 74] rfl (by decide +kernel)) (goodIn_sub (fun _ h => List.mem_cons_of_mem _ (List.mem_append_right _ h)) (by decide +kernel))
set_option maxRecDepth 20000 in
theorem gX13_setAttack_X13_sets : GoodIn wsX13_setAttack (wsV RX13 119 RX13 yX13_sets wsX13_sets) := goodIn_app (goodIn_of _ (by decide +kernel)) ggX13_setAttack_X13_sets
set_option maxRecDepth 20000 in
theorem ggX13_setAttack_X13_ends : GoodIn wsX13_setAttack wsX13_ends := goodIn_ca (goodIn_r _ [42, 6, 8, 7, 10, 9, 43, 44, 45, 11, 12, 4, 13, 14, 15, 16, 46, 47, 48, 49, 50, 51, 52, 53, 54, 55, 56, 57, 58, 59, 60, 61, 62, 63, 64, 65, 66, 67, 68, 69, 70, 71, 72, 73, 74] rfl (by decide +kernel)) (goodIn_sub (fun _ h => List.mem_cons_of_mem _ (List.mem_append_right _ h)) (by decide +kernel))
set_option maxRecDepth 20000 in
theorem gX13_setAttack_X13_ends : GoodIn wsX13_setAttack (wsV RX13 108 RX13 yX13_ends wsX13_ends) := goodIn_app (goodIn_of _ (by decide +kernel)) ggX13_setAttack_X13_ends
theorem dX13_setAttack_0 : decode cX13_setAttack 0 = .ok (.aload_n 0, 1) := by decide +kernel
theorem dX13_setAttack_1 : decode cX13_setAttack 1 = .ok (.invokevirtual 102, 3) := by decide +kernel
theorem dX13_setAttack_4 : decode cX13_setAttack 4 = .ok (.aload_n 0, 1) := by decide +kernel
theorem dX13_setAttack_5 : decode cX13_setAttack 5 = .ok (.aload_n 0, 1) := by decide +kernel
theorem dX13_setAttack_6 : decode cX13_setAttack 6 = .ok (.iload_n 1, 1) := by decide +kernel
theorem dX13_setAttack_7 : decode cX13_setAttack 7 = .ok (.iload_n 2, 1) := by decide +kernel
theorem dX13_setAttack_8 : decode cX13_setAttack 8 = .ok (.iload_n 3, 1) := by decide +kernel
theorem dX13_setAttack_9 : decode cX13_setAttack 9 = .ok (.invokevirtual 119, 3) := by decide +kernel
theorem dX13_setAttack_12 : decode cX13_setAttack 12 = .ok (.invokevirtual 108, 3) := by decide +kernel
theorem dX13_setAttack_15 : decode cX13_setAttack 15 = .ok (.iconst 1, 1) := by decide +kernel
theorem dX13_setAttack_16 : decode cX13_setAttack 16 = .ok (.if_icmp .ne 7, 3) := by decide +kernel
theorem dX13_setAttack_19 : decode cX13_setAttack 19 = .ok (.iconst 1, 1) := by decide +kernel
theorem dX13_setAttack_20 : decode cX13_setAttack 20 = .ok (.goto 4, 3) := by decide +kernel
theorem dX13_setAttack_23 : decode cX13_setAttack 23 = .ok (.iconst 0, 1) := by decide +kernel
theorem dX13_setAttack_24 : decode cX13_setAttack 24 = .ok (.ireturn, 1) := by decide +kernel
set_option maxRecDepth 20000 in
theorem ggX13_moves_X13_isClaim : GoodIn wsX13_moves wsX13_isClaim := goodIn_ca (goodIn_r _ [6, 1, 7, 8, 5, 9, 18, 19, 20, 21, 22, 23, 24, 25, 26, 27, 28, 29, 30, 31, 32, 33, 34, 35, 36, 37, 38, 39, 40, 41, 42, 43, 44, 45, 46] rfl (by decide +kernel)) (goodIn_sub (fun _ h => List.mem_cons_of_mem _ (List.mem_append_right _ h)) (by decide +kernel))
set_option maxRecDepth 20000 in
theorem gX13_moves_X13_isClaim : GoodIn wsX13_moves (wsV RX13 111 RX13 yX13_isClaim wsX13_isClaim) := goodIn_app (goodIn_of _ (by decide +kernel)) ggX13_moves_X13_isClaim
set_option maxRecDepth 20000 in
theorem ggX13_moves_X13_isIn : GoodIn wsX13_moves wsX13_isIn := goodIn_r _ [9] rfl (by decide +kernel)
set_option maxRecDepth 20000 in
theorem gX13_moves_X13_isIn : GoodIn wsX13_moves (va_wsS RX13 91 yX13_isIn wsX13_isIn) := goodIn_app (goodIn_of _ (by decide +kernel)) ggX13_moves_X13_isIn
set_option maxRecDepth 20000 in
theorem ggX13_moves_X13_fail : GoodIn wsX13_moves wsX13_fail := goodIn_r _ [13, 14, 18, 19, 20, 21, 22, 23, 24, 25, 26, 27, 28, 29, 30, 31, 32, 33, 34, 35, 36, 37, 38, 39, 40, 41, 42, 43, 44, 45, 46] rfl (by decide +kernel)
set_option maxRecDepth 20000 in
theorem gX13_moves_X13_fail : GoodIn wsX13_moves (wsV RX13 98 RX13 yX13_fail wsX13_fail) := goodIn_app (goodIn_of _ (by decide +kernel)) ggX13_moves_X13_fail
set_option maxRecDepth 20000 in
theorem ggX13_moves_X13_of : GoodIn wsX13_moves wsX13_of := goodIn_r _ [17] rfl (by decide +kernel)
set_option maxRecDepth 20000 in
theorem gX13_moves_X13_of : GoodIn wsX13_moves (va_wsS RX13 95 yX13_of wsX13_of) := goodIn_app (goodIn_of _ (by decide +kernel)) ggX13_moves_X13_of
theorem dX13_moves_0 : decode cX13_moves 0 = .ok (.aload_n 0, 1) := by decide +kernel
theorem dX13_moves_1 : decode cX13_moves 1 = .ok (.iload_n 1, 1) := by decide +kernel
theorem dX13_moves_2 : decode cX13_moves 2 = .ok (.invokevirtual 111, 3) := by decide +kernel
theorem dX13_moves_5 : decode cX13_moves 5 = .ok (.ifCond .eq 12, 3) := by decide +kernel
theorem dX13_moves_8 : decode cX13_moves 8 = .ok (.iload_n 2, 1) := by decide +kernel
theorem dX13_moves_9 : decode cX13_moves 9 = .ok (.iconst 0, 1) := by decide +kernel
theorem dX13_moves_10 : decode cX13_moves 10 = .ok (.iconst 3, 1) := by decide +kernel
theorem dX13_moves_11 : decode cX13_moves 11 = .ok (.invokestatic 91, 3) := by decide +kernel
theorem dX13_moves_14 : decode cX13_moves 14 = .ok (.ifCond .ne 9, 3) := by decide +kernel
theorem dX13_moves_17 : decode cX13_moves 17 = .ok (.aload_n 0, 1) := by decide +kernel
theorem dX13_moves_18 : decode cX13_moves 18 = .ok (.iconst 1, 1) := by decide +kernel
theorem dX13_moves_19 : decode cX13_moves 19 = .ok (.invokevirtual 98, 3) := by decide +kernel
theorem dX13_moves_22 : decode cX13_moves 22 = .ok (.ireturn, 1) := by decide +kernel
theorem dX13_moves_23 : decode cX13_moves 23 = .ok (.aload_n 0, 1) := by decide +kernel
theorem dX13_moves_24 : decode cX13_moves 24 = .ok (.getfield 16, 3) := by decide +kernel
theorem dX13_moves_27 : decode cX13_moves 27 = .ok (.iload_n 1, 1) := by decide +kernel
theorem dX13_moves_28 : decode cX13_moves 28 = .ok (.iconst 1, 1) := by decide +kernel
theorem dX13_moves_29 : decode cX13_moves 29 = .ok (.invokestatic 95, 3) := by decide +kernel
theorem dX13_moves_32 : decode cX13_moves 32 = .ok (.iaload, 1) := by decide +kernel
theorem dX13_moves_33 : decode cX13_moves 33 = .ok (.istore_n 3, 1) := by decide +kernel
theorem dX13_moves_34 : decode cX13_moves 34 = .ok (.aload_n 0, 1) := by decide +kernel
theorem dX13_moves_35 : decode cX13_moves 35 = .ok (.getfield 16, 3) := by decide +kernel
theorem dX13_moves_38 : decode cX13_moves 38 = .ok (.iload_n 1, 1) := by decide +kernel
theorem dX13_moves_39 : decode cX13_moves 39 = .ok (.iconst 1, 1) := by decide +kernel
theorem dX13_moves_40 : decode cX13_moves 40 = .ok (.invokestatic 95, 3) := by decide +kernel
theorem dX13_moves_43 : decode cX13_moves 43 = .ok (.iload_n 2, 1) := by decide +kernel
theorem dX13_moves_44 : decode cX13_moves 44 = .ok (.iastore, 1) := by decide +kernel
theorem dX13_moves_45 : decode cX13_moves 45 = .ok (.iload_n 3, 1) := by decide +kernel
theorem dX13_moves_46 : decode cX13_moves 46 = .ok (.ireturn, 1) := by decide +kernel
set_option maxRecDepth 20000 in
theorem ggX13_setLayer_X13_begins : GoodIn wsX13_setLayer wsX13_begins := goodIn_ca (goodIn_r _ [5, 6, 7, 8, 9, 10, 11, 12, 4, 13, 14, 15, 16, 42, 43, 44, 45, 46, 47, 48, 49, 50, 51, 52, 53, 54, 55, 56, 57, 58, 59, 60, 61, 62, 63, 64, 65, 66, 67, 68, 69, 70] rfl (by decide +kernel)) (goodIn_sub (fun _ h => List.mem_cons_of_mem _ (List.mem_append_right _ h)) (by decide +kernel))
set_option maxRecDepth 20000 in
theorem gX13_setLayer_X13_begins : GoodIn wsX13_setLayer (wsV RX13 102 RX13 yX13_begins wsX13_begins) := goodIn_app (goodIn_of _ (by decide +kernel)) ggX13_setLayer_X13_begins
set_option maxRecDepth 20000 in
theorem ggX13_setLayer_X13_moves : GoodIn wsX13_setLayer wsX13_moves := goodIn_ca (goodIn_r _ [20, 8, 21, 22, 23, 4, 24, 25, 26, 27, 28, 29, 30, 31, 6, 32, 33, 34, 42, 43, 44, 45, 46, 47, 48, 49, 50, 51, 52, 53, 54, 55, 56, 57, 58, 59, 60, 61, 62, 63, 64, 65, 66, 67, 68, 69, 70] rfl (by decide +kernel)) (goodIn_sub (fun _ h => List.mem_cons_of_mem _ (List.mem_append_right _ h)) (by decide +kernel))
set_option maxRecDepth 20000 in
theorem gX13_setLayer_X13_moves : GoodIn wsX13_setLayer (wsV RX13 123 RX13 yX13_moves wsX13_moves) := goodIn_app (goodIn_of _ (by decide +kernel)) ggX13_setLayer_X13_moves
set_option maxRecDepth 20000 in
theorem ggX13_setLayer_X13_ends : GoodIn wsX13_setLayer wsX13_ends := goodIn_ca (goodIn_r _ [38, 6, 8, 7, 10, 9, 39, 40, 41, 11, 12, 4, 13, 14, 15, 16, 42, 43, 44, 45, 46, 47, 48, 49, 50, 51, 52, 53, 54, 55, 56, 57, 58, 59, 60, 61, 62, 63, 64, 65, 66, 67, 68, 69, 70] rfl (by decide +kernel)) (goodIn_sub (fun _ h => List.mem_cons_of_mem _ (List.mem_append_right _ h)) (by decide +kernel))
set_option maxRecDepth 20000 in
theorem gX13_setLayer_X13_ends : GoodIn wsX13_setLayer (wsV RX13 108 RX13 yX13_ends wsX13_ends) := goodIn_app (goodIn_of _ (by decide +kernel)) ggX13_setLayer_X13_ends
theorem dX13_setLayer_0 : decode cX13_setLayer 0 = .ok (.aload_n 0, 1) := by decide +kernel
theorem dX13_setLayer_1 : decode cX13_setLayer 1 = .ok (.invokevirtual 102, 3) := by decide +kernel
theorem dX13_setLayer_4 : decode cX13_setLayer 4 = .ok (.aload_n 0, 1) := by decide +kernel
theorem dX13_setLayer_5 : decode cX13_setLayer 5 = .ok (.aload_n 0, 1) := by decide +kernel
theorem dX13_setLayer_6 : decode cX13_setLayer 6 = .ok (.iload_n 1, 1) := by decide +kernel
theorem dX13_setLayer_7 : decode cX13_setLayer 7 = .ok (.iload_n 2, 1) := by decide +kernel
theorem dX13_setLayer_8 : decode cX13_setLayer 8 = .ok (.invokevirtual 123, 3) := by decide +kernel
theorem dX13_setLayer_11 : decode cX13_setLayer 11 = .ok (.invokevirtual 108, 3) := by decide +kernel
theorem dX13_setLayer_14 : decode cX13_setLayer 14 = .ok (.ireturn, 1) := by decide +kernel
theorem dX13_tells_0 : decode cX13_tells 0 = .ok (.aload_n 0, 1) := by decide +kernel
theorem dX13_tells_1 : decode cX13_tells 1 = .ok (.iconst 0, 1) := by decide +kernel
theorem dX13_tells_2 : decode cX13_tells 2 = .ok (.putfield 77, 3) := by decide +kernel
theorem dX13_tells_5 : decode cX13_tells 5 = .ok (.aload_n 0, 1) := by decide +kernel
theorem dX13_tells_6 : decode cX13_tells 6 = .ok (.getfield 16, 3) := by decide +kernel
theorem dX13_tells_9 : decode cX13_tells 9 = .ok (.iload_n 1, 1) := by decide +kernel
theorem dX13_tells_10 : decode cX13_tells 10 = .ok (.iaload, 1) := by decide +kernel
theorem dX13_tells_11 : decode cX13_tells 11 = .ok (.ireturn, 1) := by decide +kernel
set_option maxRecDepth 20000 in
theorem ggX13_claimCount_X13_tells : GoodIn wsX13_claimCount wsX13_tells := goodIn_ca (goodIn_r _ [5, 6, 7, 8, 9, 10, 11, 12, 13, 14, 15, 16, 17, 18, 19, 20, 21, 22, 23, 24, 25, 26, 27, 28, 29, 30, 31, 32, 33, 34, 35, 36] rfl (by decide +kernel)) (goodIn_sub (fun _ h => List.mem_cons_of_mem _ (List.mem_append_right _ h)) (by decide +kernel))
set_option maxRecDepth 20000 in
theorem gX13_claimCount_X13_tells : GoodIn wsX13_claimCount (wsV RX13 126 RX13 yX13_tells wsX13_tells) := goodIn_app (goodIn_of _ (by decide +kernel)) ggX13_claimCount_X13_tells
theorem dX13_claimCount_0 : decode cX13_claimCount 0 = .ok (.aload_n 0, 1) := by decide +kernel
theorem dX13_claimCount_1 : decode cX13_claimCount 1 = .ok (.iconst 0, 1) := by decide +kernel
theorem dX13_claimCount_2 : decode cX13_claimCount 2 = .ok (.invokevirtual 126, 3) := by decide +kernel
theorem dX13_claimCount_5 : decode cX13_claimCount 5 = .ok (.ireturn, 1) := by decide +kernel
set_option maxRecDepth 20000 in
theorem ggX13_looks_X13_isClaim : GoodIn wsX13_looks wsX13_isClaim := goodIn_ca (goodIn_r _ [6, 7, 8, 9, 5, 10, 11, 12, 13, 14, 15, 16, 17, 18, 19, 20, 21, 22, 23, 24, 25, 26, 27, 28, 29, 30, 31, 32, 33, 34, 35, 36, 37, 38, 39] rfl (by decide +kernel)) (goodIn_sub (fun _ h => List.mem_cons_of_mem _ (List.mem_append_right _ h)) (by decide +kernel))
set_option maxRecDepth 20000 in
theorem gX13_looks_X13_isClaim : GoodIn wsX13_looks (wsV RX13 111 RX13 yX13_isClaim wsX13_isClaim) := goodIn_app (goodIn_of _ (by decide +kernel)) ggX13_looks_X13_isClaim
theorem dX13_looks_0 : decode cX13_looks 0 = .ok (.aload_n 0, 1) := by decide +kernel
theorem dX13_looks_1 : decode cX13_looks 1 = .ok (.aload_n 0, 1) := by decide +kernel
theorem dX13_looks_2 : decode cX13_looks 2 = .ok (.iload_n 1, 1) := by decide +kernel
theorem dX13_looks_3 : decode cX13_looks 3 = .ok (.invokevirtual 111, 3) := by decide +kernel
theorem dX13_looks_6 : decode cX13_looks 6 = .ok (.ifCond .eq 7, 3) := by decide +kernel
theorem dX13_looks_9 : decode cX13_looks 9 = .ok (.iconst 0, 1) := by decide +kernel
theorem dX13_looks_10 : decode cX13_looks 10 = .ok (.goto 4, 3) := by decide +kernel
theorem dX13_looks_13 : decode cX13_looks 13 = .ok (.iconst 1, 1) := by decide +kernel
theorem dX13_looks_14 : decode cX13_looks 14 = .ok (.putfield 77, 3) := by decide +kernel
theorem dX13_looks_17 : decode cX13_looks 17 = .ok (.aload_n 0, 1) := by decide +kernel
theorem dX13_looks_18 : decode cX13_looks 18 = .ok (.getfield 77, 3) := by decide +kernel
theorem dX13_looks_21 : decode cX13_looks 21 = .ok (.ifCond .ne 7, 3) := by decide +kernel
theorem dX13_looks_24 : decode cX13_looks 24 = .ok (.iconst 1, 1) := by decide +kernel
theorem dX13_looks_25 : decode cX13_looks 25 = .ok (.goto 4, 3) := by decide +kernel
theorem dX13_looks_28 : decode cX13_looks 28 = .ok (.iconst 0, 1) := by decide +kernel
theorem dX13_looks_29 : decode cX13_looks 29 = .ok (.ireturn, 1) := by decide +kernel
set_option maxRecDepth 20000 in
theorem ggX13_weightOf_X13_looks : GoodIn wsX13_weightOf wsX13_looks := goodIn_ca (goodIn_r _ [6, 7, 8, 9, 10, 5, 11, 1, 12, 13, 14, 18, 19, 20, 21, 22, 23, 24, 25, 26, 27, 28, 29, 30, 31, 32, 33, 34, 35, 36, 37, 38, 39, 40, 41, 42, 43, 44, 45, 46] rfl (by decide +kernel)) (goodIn_sub (fun _ h => List.mem_cons_of_mem _ (List.mem_append_right _ h)) (by decide +kernel))
set_option maxRecDepth 20000 in
theorem gX13_weightOf_X13_looks : GoodIn wsX13_weightOf (wsV RX13 129 RX13 yX13_looks wsX13_looks) := goodIn_app (goodIn_of _ (by decide +kernel)) ggX13_weightOf_X13_looks
set_option maxRecDepth 20000 in
theorem ggX13_weightOf_X13_of : GoodIn wsX13_weightOf wsX13_of := goodIn_r _ [17] rfl (by decide +kernel)
set_option maxRecDepth 20000 in
theorem gX13_weightOf_X13_of : GoodIn wsX13_weightOf (va_wsS RX13 95 yX13_of wsX13_of) := goodIn_app (goodIn_of _ (by decide +kernel)) ggX13_weightOf_X13_of
theorem dX13_weightOf_0 : decode cX13_weightOf 0 = .ok (.aload_n 0, 1) := by decide +kernel
theorem dX13_weightOf_1 : decode cX13_weightOf 1 = .ok (.iload_n 1, 1) := by decide +kernel
theorem dX13_weightOf_2 : decode cX13_weightOf 2 = .ok (.invokevirtual 129, 3) := by decide +kernel
theorem dX13_weightOf_5 : decode cX13_weightOf 5 = .ok (.ifCond .eq 16, 3) := by decide +kernel
theorem dX13_weightOf_8 : decode cX13_weightOf 8 = .ok (.aload_n 0, 1) := by decide +kernel
theorem dX13_weightOf_9 : decode cX13_weightOf 9 = .ok (.getfield 16, 3) := by decide +kernel
theorem dX13_weightOf_12 : decode cX13_weightOf 12 = .ok (.iload_n 1, 1) := by decide +kernel
theorem dX13_weightOf_13 : decode cX13_weightOf 13 = .ok (.iconst 0, 1) := by decide +kernel
theorem dX13_weightOf_14 : decode cX13_weightOf 14 = .ok (.invokestatic 95, 3) := by decide +kernel
theorem dX13_weightOf_17 : decode cX13_weightOf 17 = .ok (.iaload, 1) := by decide +kernel
theorem dX13_weightOf_18 : decode cX13_weightOf 18 = .ok (.goto 4, 3) := by decide +kernel
theorem dX13_weightOf_21 : decode cX13_weightOf 21 = .ok (.iconst 0, 1) := by decide +kernel
theorem dX13_weightOf_22 : decode cX13_weightOf 22 = .ok (.ireturn, 1) := by decide +kernel
set_option maxRecDepth 20000 in
theorem ggX13_layerOf_X13_looks : GoodIn wsX13_layerOf wsX13_looks := goodIn_ca (goodIn_r _ [6, 7, 8, 9, 10, 5, 11, 1, 12, 13, 14, 18, 19, 20, 21, 22, 23, 24, 25, 26, 27, 28, 29, 30, 31, 32, 33, 34, 35, 36, 37, 38, 39, 40, 41, 42, 43, 44, 45, 46] rfl (by decide +kernel)) (goodIn_sub (fun _ h => List.mem_cons_of_mem _ (List.mem_append_right _ h)) (by decide +kernel))
set_option maxRecDepth 20000 in
theorem gX13_layerOf_X13_looks : GoodIn wsX13_layerOf (wsV RX13 129 RX13 yX13_looks wsX13_looks) := goodIn_app (goodIn_of _ (by decide +kernel)) ggX13_layerOf_X13_looks
set_option maxRecDepth 20000 in
theorem ggX13_layerOf_X13_of : GoodIn wsX13_layerOf wsX13_of := goodIn_r _ [17] rfl (by decide +kernel)
set_option maxRecDepth 20000 in
theorem gX13_layerOf_X13_of : GoodIn wsX13_layerOf (va_wsS RX13 95 yX13_of wsX13_of) := goodIn_app (goodIn_of _ (by decide +kernel)) ggX13_layerOf_X13_of
theorem dX13_layerOf_0 : decode cX13_layerOf 0 = .ok (.aload_n 0, 1) := by decide +kernel
theorem dX13_layerOf_1 : decode cX13_layerOf 1 = .ok (.iload_n 1, 1) := by decide +kernel
theorem dX13_layerOf_2 : decode cX13_layerOf 2 = .ok (.invokevirtual 129, 3) := by decide +kernel
theorem dX13_layerOf_5 : decode cX13_layerOf 5 = .ok (.ifCond .eq 16, 3) := by decide +kernel
theorem dX13_layerOf_8 : decode cX13_layerOf 8 = .ok (.aload_n 0, 1) := by decide +kernel
theorem dX13_layerOf_9 : decode cX13_layerOf 9 = .ok (.getfield 16, 3) := by decide +kernel
theorem dX13_layerOf_12 : decode cX13_layerOf 12 = .ok (.iload_n 1, 1) := by decide +kernel
theorem dX13_layerOf_13 : decode cX13_layerOf 13 = .ok (.iconst 1, 1) := by decide +kernel
theorem dX13_layerOf_14 : decode cX13_layerOf 14 = .ok (.invokestatic 95, 3) := by decide +kernel
theorem dX13_layerOf_17 : decode cX13_layerOf 17 = .ok (.iaload, 1) := by decide +kernel
theorem dX13_layerOf_18 : decode cX13_layerOf 18 = .ok (.goto 4, 3) := by decide +kernel
theorem dX13_layerOf_21 : decode cX13_layerOf 21 = .ok (.iconst 0, 1) := by decide +kernel
theorem dX13_layerOf_22 : decode cX13_layerOf 22 = .ok (.ireturn, 1) := by decide +kernel
set_option maxRecDepth 20000 in
theorem ggX13_attacks_X13_isClaim : GoodIn wsX13_attacks wsX13_isClaim := goodIn_ca (goodIn_r _ [6, 7, 8, 9, 5, 10, 18, 19, 20, 21, 22, 23, 24, 25, 26, 27, 28, 29, 30, 31, 32, 33, 34, 35, 36, 37, 38, 39, 40, 41, 42, 43, 44, 45, 46] rfl (by decide +kernel)) (goodIn_sub (fun _ h => List.mem_cons_of_mem _ (List.mem_append_right _ h)) (by decide +kernel))
set_option maxRecDepth 20000 in
theorem gX13_attacks_X13_isClaim : GoodIn wsX13_attacks (wsV RX13 111 RX13 yX13_isClaim wsX13_isClaim) := goodIn_app (goodIn_of _ (by decide +kernel)) ggX13_attacks_X13_isClaim
set_option maxRecDepth 20000 in
theorem ggX13_attacks_X13_hits : GoodIn wsX13_attacks wsX13_hits := goodIn_ca (goodIn_r _ [14, 7, 15, 16, 5, 17, 18, 19, 20, 21, 22, 23, 24, 25, 26, 27, 28, 29, 30, 31, 32, 33, 34, 35, 36, 37, 38, 39, 40, 41, 42, 43, 44, 45, 46] rfl (by decide +kernel)) (goodIn_sub (fun _ h => List.mem_cons_of_mem _ (List.mem_append_right _ h)) (by decide +kernel))
set_option maxRecDepth 20000 in
theorem gX13_attacks_X13_hits : GoodIn wsX13_attacks (wsV RX13 115 RX13 yX13_hits wsX13_hits) := goodIn_app (goodIn_of _ (by decide +kernel)) ggX13_attacks_X13_hits
theorem dX13_attacks_0 : decode cX13_attacks 0 = .ok (.aload_n 0, 1) := by decide +kernel
theorem dX13_attacks_1 : decode cX13_attacks 1 = .ok (.aload_n 0, 1) := by decide +kernel
theorem dX13_attacks_2 : decode cX13_attacks 2 = .ok (.iload_n 1, 1) := by decide +kernel
theorem dX13_attacks_3 : decode cX13_attacks 3 = .ok (.invokevirtual 111, 3) := by decide +kernel
theorem dX13_attacks_6 : decode cX13_attacks 6 = .ok (.ifCond .eq 15, 3) := by decide +kernel
theorem dX13_attacks_9 : decode cX13_attacks 9 = .ok (.aload_n 0, 1) := by decide +kernel
theorem dX13_attacks_10 : decode cX13_attacks 10 = .ok (.iload_n 2, 1) := by decide +kernel
theorem dX13_attacks_11 : decode cX13_attacks 11 = .ok (.invokevirtual 111, 3) := by decide +kernel
theorem dX13_attacks_14 : decode cX13_attacks 14 = .ok (.ifCond .eq 7, 3) := by decide +kernel
theorem dX13_attacks_17 : decode cX13_attacks 17 = .ok (.iconst 0, 1) := by decide +kernel
theorem dX13_attacks_18 : decode cX13_attacks 18 = .ok (.goto 4, 3) := by decide +kernel
theorem dX13_attacks_21 : decode cX13_attacks 21 = .ok (.iconst 1, 1) := by decide +kernel
theorem dX13_attacks_22 : decode cX13_attacks 22 = .ok (.putfield 77, 3) := by decide +kernel
theorem dX13_attacks_25 : decode cX13_attacks 25 = .ok (.aload_n 0, 1) := by decide +kernel
theorem dX13_attacks_26 : decode cX13_attacks 26 = .ok (.getfield 77, 3) := by decide +kernel
theorem dX13_attacks_29 : decode cX13_attacks 29 = .ok (.ifCond .ne 16, 3) := by decide +kernel
theorem dX13_attacks_32 : decode cX13_attacks 32 = .ok (.aload_n 0, 1) := by decide +kernel
theorem dX13_attacks_33 : decode cX13_attacks 33 = .ok (.iload_n 1, 1) := by decide +kernel
theorem dX13_attacks_34 : decode cX13_attacks 34 = .ok (.iload_n 2, 1) := by decide +kernel
theorem dX13_attacks_35 : decode cX13_attacks 35 = .ok (.invokevirtual 115, 3) := by decide +kernel
theorem dX13_attacks_38 : decode cX13_attacks 38 = .ok (.ifCond .eq 7, 3) := by decide +kernel
theorem dX13_attacks_41 : decode cX13_attacks 41 = .ok (.iconst 1, 1) := by decide +kernel
theorem dX13_attacks_42 : decode cX13_attacks 42 = .ok (.goto 4, 3) := by decide +kernel
theorem dX13_attacks_45 : decode cX13_attacks 45 = .ok (.iconst 0, 1) := by decide +kernel
theorem dX13_attacks_46 : decode cX13_attacks 46 = .ok (.ireturn, 1) := by decide +kernel
set_option maxRecDepth 20000 in
theorem ggX13_hitBy_X13_of : GoodIn wsX13_hitBy wsX13_of := goodIn_r _ [5] rfl (by decide +kernel)
set_option maxRecDepth 20000 in
theorem gX13_hitBy_X13_of : GoodIn wsX13_hitBy (va_wsS RX13 95 yX13_of wsX13_of) := goodIn_app (goodIn_of _ (by decide +kernel)) ggX13_hitBy_X13_of
theorem dX13_hitBy_0 : decode cX13_hitBy 0 = .ok (.iconst 0, 1) := by decide +kernel
theorem dX13_hitBy_1 : decode cX13_hitBy 1 = .ok (.istore_n 2, 1) := by decide +kernel
theorem dX13_hitBy_2 : decode cX13_hitBy 2 = .ok (.iconst 0, 1) := by decide +kernel
theorem dX13_hitBy_3 : decode cX13_hitBy 3 = .ok (.istore_n 3, 1) := by decide +kernel
theorem dX13_hitBy_4 : decode cX13_hitBy 4 = .ok (.iload_n 3, 1) := by decide +kernel
theorem dX13_hitBy_5 : decode cX13_hitBy 5 = .ok (.aload_n 0, 1) := by decide +kernel
theorem dX13_hitBy_6 : decode cX13_hitBy 6 = .ok (.getfield 16, 3) := by decide +kernel
theorem dX13_hitBy_9 : decode cX13_hitBy 9 = .ok (.iconst 0, 1) := by decide +kernel
theorem dX13_hitBy_10 : decode cX13_hitBy 10 = .ok (.iaload, 1) := by decide +kernel
theorem dX13_hitBy_11 : decode cX13_hitBy 11 = .ok (.if_icmp .ge 35, 3) := by decide +kernel
theorem dX13_hitBy_14 : decode cX13_hitBy 14 = .ok (.iload_n 2, 1) := by decide +kernel
theorem dX13_hitBy_15 : decode cX13_hitBy 15 = .ok (.iload_n 1, 1) := by decide +kernel
theorem dX13_hitBy_16 : decode cX13_hitBy 16 = .ok (.iload_n 3, 1) := by decide +kernel
theorem dX13_hitBy_17 : decode cX13_hitBy 17 = .ok (.ishr, 1) := by decide +kernel
theorem dX13_hitBy_18 : decode cX13_hitBy 18 = .ok (.iconst 1, 1) := by decide +kernel
theorem dX13_hitBy_19 : decode cX13_hitBy 19 = .ok (.iand, 1) := by decide +kernel
theorem dX13_hitBy_20 : decode cX13_hitBy 20 = .ok (.iconst 1, 1) := by decide +kernel
theorem dX13_hitBy_21 : decode cX13_hitBy 21 = .ok (.if_icmp .ne 16, 3) := by decide +kernel
theorem dX13_hitBy_24 : decode cX13_hitBy 24 = .ok (.aload_n 0, 1) := by decide +kernel
theorem dX13_hitBy_25 : decode cX13_hitBy 25 = .ok (.getfield 16, 3) := by decide +kernel
theorem dX13_hitBy_28 : decode cX13_hitBy 28 = .ok (.iload_n 3, 1) := by decide +kernel
theorem dX13_hitBy_29 : decode cX13_hitBy 29 = .ok (.iconst 2, 1) := by decide +kernel
theorem dX13_hitBy_30 : decode cX13_hitBy 30 = .ok (.invokestatic 95, 3) := by decide +kernel
theorem dX13_hitBy_33 : decode cX13_hitBy 33 = .ok (.iaload, 1) := by decide +kernel
theorem dX13_hitBy_34 : decode cX13_hitBy 34 = .ok (.goto 4, 3) := by decide +kernel
theorem dX13_hitBy_37 : decode cX13_hitBy 37 = .ok (.iconst 0, 1) := by decide +kernel
theorem dX13_hitBy_38 : decode cX13_hitBy 38 = .ok (.ior, 1) := by decide +kernel
theorem dX13_hitBy_39 : decode cX13_hitBy 39 = .ok (.istore_n 2, 1) := by decide +kernel
theorem dX13_hitBy_40 : decode cX13_hitBy 40 = .ok (.iinc 3 1, 3) := by decide +kernel
theorem dX13_hitBy_43 : decode cX13_hitBy 43 = .ok (.goto (-39), 3) := by decide +kernel
theorem dX13_hitBy_46 : decode cX13_hitBy 46 = .ok (.iload_n 2, 1) := by decide +kernel
theorem dX13_hitBy_47 : decode cX13_hitBy 47 = .ok (.ireturn, 1) := by decide +kernel
set_option maxRecDepth 20000 in
theorem ggX13_defends_X13_hitBy : GoodIn wsX13_defends wsX13_hitBy := goodIn_ca (goodIn_r _ [6, 1, 7, 8, 5, 9, 14, 15, 16, 17, 18, 19, 20, 21, 22, 23, 24, 25, 26, 27, 28, 29, 30, 31, 32, 33, 34, 35, 36, 37, 38, 39, 40, 41, 42] rfl (by decide +kernel)) (goodIn_sub (fun _ h => List.mem_cons_of_mem _ (List.mem_append_right _ h)) (by decide +kernel))
set_option maxRecDepth 20000 in
theorem gX13_defends_X13_hitBy : GoodIn wsX13_defends (wsV RX13 132 RX13 yX13_hitBy wsX13_hitBy) := goodIn_app (goodIn_of _ (by decide +kernel)) ggX13_defends_X13_hitBy
set_option maxRecDepth 20000 in
theorem ggX13_defends_X13_hits : GoodIn wsX13_defends wsX13_hits := goodIn_ca (goodIn_r _ [13, 1, 7, 8, 5, 9, 14, 15, 16, 17, 18, 19, 20, 21, 22, 23, 24, 25, 26, 27, 28, 29, 30, 31, 32, 33, 34, 35, 36, 37, 38, 39, 40, 41, 42] rfl (by decide +kernel)) (goodIn_sub (fun _ h => List.mem_cons_of_mem _ (List.mem_append_right _ h)) (by decide +kernel))
set_option maxRecDepth 20000 in
theorem gX13_defends_X13_hits : GoodIn wsX13_defends (wsV RX13 115 RX13 yX13_hits wsX13_hits) := goodIn_app (goodIn_of _ (by decide +kernel)) ggX13_defends_X13_hits
theorem dX13_defends_0 : decode cX13_defends 0 = .ok (.aload_n 0, 1) := by decide +kernel
theorem dX13_defends_1 : decode cX13_defends 1 = .ok (.iload_n 1, 1) := by decide +kernel
theorem dX13_defends_2 : decode cX13_defends 2 = .ok (.invokevirtual 132, 3) := by decide +kernel
theorem dX13_defends_5 : decode cX13_defends 5 = .ok (.istore_n 3, 1) := by decide +kernel
theorem dX13_defends_6 : decode cX13_defends 6 = .ok (.iconst 0, 1) := by decide +kernel
theorem dX13_defends_7 : decode cX13_defends 7 = .ok (.istore 4, 2) := by decide +kernel
theorem dX13_defends_9 : decode cX13_defends 9 = .ok (.iload 4, 2) := by decide +kernel
theorem dX13_defends_11 : decode cX13_defends 11 = .ok (.aload_n 0, 1) := by decide +kernel
theorem dX13_defends_12 : decode cX13_defends 12 = .ok (.getfield 16, 3) := by decide +kernel
theorem dX13_defends_15 : decode cX13_defends 15 = .ok (.iconst 0, 1) := by decide +kernel
theorem dX13_defends_16 : decode cX13_defends 16 = .ok (.iaload, 1) := by decide +kernel
theorem dX13_defends_17 : decode cX13_defends 17 = .ok (.if_icmp .ge 30, 3) := by decide +kernel
theorem dX13_defends_20 : decode cX13_defends 20 = .ok (.aload_n 0, 1) := by decide +kernel
theorem dX13_defends_21 : decode cX13_defends 21 = .ok (.iload 4, 2) := by decide +kernel
theorem dX13_defends_23 : decode cX13_defends 23 = .ok (.iload_n 2, 1) := by decide +kernel
theorem dX13_defends_24 : decode cX13_defends 24 = .ok (.invokevirtual 115, 3) := by decide +kernel
theorem dX13_defends_27 : decode cX13_defends 27 = .ok (.ifCond .eq 14, 3) := by decide +kernel
theorem dX13_defends_30 : decode cX13_defends 30 = .ok (.iload_n 3, 1) := by decide +kernel
theorem dX13_defends_31 : decode cX13_defends 31 = .ok (.iload 4, 2) := by decide +kernel
theorem dX13_defends_33 : decode cX13_defends 33 = .ok (.ishr, 1) := by decide +kernel
theorem dX13_defends_34 : decode cX13_defends 34 = .ok (.iconst 1, 1) := by decide +kernel
theorem dX13_defends_35 : decode cX13_defends 35 = .ok (.iand, 1) := by decide +kernel
theorem dX13_defends_36 : decode cX13_defends 36 = .ok (.ifCond .ne 5, 3) := by decide +kernel
theorem dX13_defends_39 : decode cX13_defends 39 = .ok (.iconst 0, 1) := by decide +kernel
theorem dX13_defends_40 : decode cX13_defends 40 = .ok (.ireturn, 1) := by decide +kernel
theorem dX13_defends_41 : decode cX13_defends 41 = .ok (.iinc 4 1, 3) := by decide +kernel
theorem dX13_defends_44 : decode cX13_defends 44 = .ok (.goto (-35), 3) := by decide +kernel
theorem dX13_defends_47 : decode cX13_defends 47 = .ok (.iconst 1, 1) := by decide +kernel
theorem dX13_defends_48 : decode cX13_defends 48 = .ok (.ireturn, 1) := by decide +kernel
set_option maxRecDepth 20000 in
theorem ggX13_accepted_X13_defends : GoodIn wsX13_accepted wsX13_defends := goodIn_ca (goodIn_r _ [6, 1, 7, 8, 9, 5, 10, 11, 12, 13, 14, 15, 16, 17, 18, 19, 20, 21, 22, 23, 24, 25, 26, 27, 28, 29, 30, 31, 32, 33, 34, 35, 36, 37, 38, 39, 40, 41, 42, 43, 44, 45, 46] rfl (by decide +kernel)) (goodIn_sub (fun _ h => List.mem_cons_of_mem _ (List.mem_append_right _ h)) (by decide +kernel))
set_option maxRecDepth 20000 in
theorem gX13_accepted_X13_defends : GoodIn wsX13_accepted (wsV RX13 135 RX13 yX13_defends wsX13_defends) := goodIn_app (goodIn_of _ (by decide +kernel)) ggX13_accepted_X13_defends
theorem dX13_accepted_0 : decode cX13_accepted 0 = .ok (.iconst 0, 1) := by decide +kernel
theorem dX13_accepted_1 : decode cX13_accepted 1 = .ok (.istore_n 1, 1) := by decide +kernel
theorem dX13_accepted_2 : decode cX13_accepted 2 = .ok (.iconst (-1), 1) := by decide +kernel
theorem dX13_accepted_3 : decode cX13_accepted 3 = .ok (.istore_n 2, 1) := by decide +kernel
theorem dX13_accepted_4 : decode cX13_accepted 4 = .ok (.iload_n 1, 1) := by decide +kernel
theorem dX13_accepted_5 : decode cX13_accepted 5 = .ok (.iload_n 2, 1) := by decide +kernel
theorem dX13_accepted_6 : decode cX13_accepted 6 = .ok (.if_icmp .eq 45, 3) := by decide +kernel
theorem dX13_accepted_9 : decode cX13_accepted 9 = .ok (.iload_n 1, 1) := by decide +kernel
theorem dX13_accepted_10 : decode cX13_accepted 10 = .ok (.istore_n 2, 1) := by decide +kernel
theorem dX13_accepted_11 : decode cX13_accepted 11 = .ok (.iconst 0, 1) := by decide +kernel
theorem dX13_accepted_12 : decode cX13_accepted 12 = .ok (.istore_n 3, 1) := by decide +kernel
theorem dX13_accepted_13 : decode cX13_accepted 13 = .ok (.iload_n 3, 1) := by decide +kernel
theorem dX13_accepted_14 : decode cX13_accepted 14 = .ok (.aload_n 0, 1) := by decide +kernel
theorem dX13_accepted_15 : decode cX13_accepted 15 = .ok (.getfield 16, 3) := by decide +kernel
theorem dX13_accepted_18 : decode cX13_accepted 18 = .ok (.iconst 0, 1) := by decide +kernel
theorem dX13_accepted_19 : decode cX13_accepted 19 = .ok (.iaload, 1) := by decide +kernel
theorem dX13_accepted_20 : decode cX13_accepted 20 = .ok (.if_icmp .ge 28, 3) := by decide +kernel
theorem dX13_accepted_23 : decode cX13_accepted 23 = .ok (.iload_n 1, 1) := by decide +kernel
theorem dX13_accepted_24 : decode cX13_accepted 24 = .ok (.aload_n 0, 1) := by decide +kernel
theorem dX13_accepted_25 : decode cX13_accepted 25 = .ok (.iload_n 2, 1) := by decide +kernel
theorem dX13_accepted_26 : decode cX13_accepted 26 = .ok (.iload_n 3, 1) := by decide +kernel
theorem dX13_accepted_27 : decode cX13_accepted 27 = .ok (.invokevirtual 135, 3) := by decide +kernel
theorem dX13_accepted_30 : decode cX13_accepted 30 = .ok (.ifCond .eq 9, 3) := by decide +kernel
theorem dX13_accepted_33 : decode cX13_accepted 33 = .ok (.iconst 1, 1) := by decide +kernel
theorem dX13_accepted_34 : decode cX13_accepted 34 = .ok (.iload_n 3, 1) := by decide +kernel
theorem dX13_accepted_35 : decode cX13_accepted 35 = .ok (.ishl, 1) := by decide +kernel
theorem dX13_accepted_36 : decode cX13_accepted 36 = .ok (.goto 4, 3) := by decide +kernel
theorem dX13_accepted_39 : decode cX13_accepted 39 = .ok (.iconst 0, 1) := by decide +kernel
theorem dX13_accepted_40 : decode cX13_accepted 40 = .ok (.ior, 1) := by decide +kernel
theorem dX13_accepted_41 : decode cX13_accepted 41 = .ok (.istore_n 1, 1) := by decide +kernel
theorem dX13_accepted_42 : decode cX13_accepted 42 = .ok (.iinc 3 1, 3) := by decide +kernel
theorem dX13_accepted_45 : decode cX13_accepted 45 = .ok (.goto (-32), 3) := by decide +kernel
theorem dX13_accepted_48 : decode cX13_accepted 48 = .ok (.goto (-44), 3) := by decide +kernel
theorem dX13_accepted_51 : decode cX13_accepted 51 = .ok (.iload_n 1, 1) := by decide +kernel
theorem dX13_accepted_52 : decode cX13_accepted 52 = .ok (.ireturn, 1) := by decide +kernel
set_option maxRecDepth 20000 in
theorem ggX13_acceptedBits_X13_accepted : GoodIn wsX13_acceptedBits wsX13_accepted := goodIn_ca (goodIn_r _ [6, 7, 8, 9, 10, 5, 11, 12, 13, 14, 15, 16, 17, 18, 19, 20, 21, 22, 23, 24, 25, 26, 27, 28, 29, 30, 31, 32, 33, 34, 35, 36, 37, 38, 39, 40, 41, 42, 43, 44, 45, 46, 47, 48, 49, 50, 51] rfl (by decide +kernel)) (goodIn_sub (fun _ h => List.mem_cons_of_mem _ (List.mem_append_right _ h)) (by decide +kernel))
set_option maxRecDepth 20000 in
theorem gX13_acceptedBits_X13_accepted : GoodIn wsX13_acceptedBits (wsV RX13 138 RX13 yX13_accepted wsX13_accepted) := goodIn_app (goodIn_of _ (by decide +kernel)) ggX13_acceptedBits_X13_accepted
theorem dX13_acceptedBits_0 : decode cX13_acceptedBits 0 = .ok (.aload_n 0, 1) := by decide +kernel
theorem dX13_acceptedBits_1 : decode cX13_acceptedBits 1 = .ok (.iconst 0, 1) := by decide +kernel
theorem dX13_acceptedBits_2 : decode cX13_acceptedBits 2 = .ok (.putfield 77, 3) := by decide +kernel
theorem dX13_acceptedBits_5 : decode cX13_acceptedBits 5 = .ok (.aload_n 0, 1) := by decide +kernel
theorem dX13_acceptedBits_6 : decode cX13_acceptedBits 6 = .ok (.invokevirtual 138, 3) := by decide +kernel
theorem dX13_acceptedBits_9 : decode cX13_acceptedBits 9 = .ok (.ireturn, 1) := by decide +kernel
set_option maxRecDepth 20000 in
theorem ggX13_acceptedBitsByLabels_X13_acceptedBits : GoodIn wsX13_acceptedBitsByLabels wsX13_acceptedBits := goodIn_ca (goodIn_r _ [5, 6, 7, 8, 9, 4, 10, 11, 12, 13, 14, 15, 16, 17, 18, 19, 20, 21, 22, 23, 24, 25, 26, 27, 28, 29, 30, 31, 32, 33, 34, 35, 36, 37, 38, 39, 40, 41, 42, 43, 44, 45, 46, 47, 48, 49, 50, 51, 52, 53, 54, 55] rfl (by decide +kernel)) (goodIn_sub (fun _ h => List.mem_cons_of_mem _ (List.mem_append_right _ h)) (by decide +kernel))
set_option maxRecDepth 20000 in
theorem gX13_acceptedBitsByLabels_X13_acceptedBits : GoodIn wsX13_acceptedBitsByLabels (wsV RX13 142 RX13 yX13_acceptedBits wsX13_acceptedBits) := goodIn_app (goodIn_of _ (by decide +kernel)) ggX13_acceptedBitsByLabels_X13_acceptedBits
theorem dX13_acceptedBitsByLabels_0 : decode cX13_acceptedBitsByLabels 0 = .ok (.aload_n 0, 1) := by decide +kernel
theorem dX13_acceptedBitsByLabels_1 : decode cX13_acceptedBitsByLabels 1 = .ok (.invokevirtual 142, 3) := by decide +kernel
theorem dX13_acceptedBitsByLabels_4 : decode cX13_acceptedBitsByLabels 4 = .ok (.ireturn, 1) := by decide +kernel
set_option maxRecDepth 20000 in
theorem ggX13_isRejected_X13_looks : GoodIn wsX13_isRejected wsX13_looks := goodIn_ca (goodIn_r _ [5, 6, 7, 8, 9, 4, 10, 11, 12, 13, 14, 34, 35, 36, 37, 38, 39, 40, 41, 42, 43, 44, 45, 46, 47, 48, 49, 50, 51, 52, 53, 54, 55, 56, 57, 58, 59, 60, 61, 62] rfl (by decide +kernel)) (goodIn_sub (fun _ h => List.mem_cons_of_mem _ (List.mem_append_right _ h)) (by decide +kernel))
set_option maxRecDepth 20000 in
theorem gX13_isRejected_X13_looks : GoodIn wsX13_isRejected (wsV RX13 129 RX13 yX13_looks wsX13_looks) := goodIn_app (goodIn_of _ (by decide +kernel)) ggX13_isRejected_X13_looks
set_option maxRecDepth 20000 in
theorem ggX13_isRejected_X13_accepted : GoodIn wsX13_isRejected wsX13_accepted := goodIn_ca (goodIn_r _ [18, 11, 19, 20, 21, 4, 22, 23, 24, 25, 26, 27, 28, 29, 30, 31, 32, 33, 34, 35, 36, 37, 38, 39, 40, 41, 42, 43, 44, 45, 46, 47, 48, 49, 50, 51, 52, 53, 54, 55, 56, 57, 58, 59, 60, 61, 62] rfl (by decide +kernel)) (goodIn_sub (fun _ h => List.mem_cons_of_mem _ (List.mem_append_right _ h)) (by decide +kernel))
set_option maxRecDepth 20000 in
theorem gX13_isRejected_X13_accepted : GoodIn wsX13_isRejected (wsV RX13 138 RX13 yX13_accepted wsX13_accepted) := goodIn_app (goodIn_of _ (by decide +kernel)) ggX13_isRejected_X13_accepted
set_option maxRecDepth 20000 in
theorem ggX13_isRejected_X13_hitBy : GoodIn wsX13_isRejected wsX13_hitBy := goodIn_ca (goodIn_r _ [26, 11, 27, 28, 4, 29, 34, 35, 36, 37, 38, 39, 40, 41, 42, 43, 44, 45, 46, 47, 48, 49, 50, 51, 52, 53, 54, 55, 56, 57, 58, 59, 60, 61, 62] rfl (by decide +kernel)) (goodIn_sub (fun _ h => List.mem_cons_of_mem _ (List.mem_append_right _ h)) (by decide +kernel))
set_option maxRecDepth 20000 in
theorem gX13_isRejected_X13_hitBy : GoodIn wsX13_isRejected (wsV RX13 132 RX13 yX13_hitBy wsX13_hitBy) := goodIn_app (goodIn_of _ (by decide +kernel)) ggX13_isRejected_X13_hitBy
theorem dX13_isRejected_0 : decode cX13_isRejected 0 = .ok (.aload_n 0, 1) := by decide +kernel
theorem dX13_isRejected_1 : decode cX13_isRejected 1 = .ok (.iload_n 1, 1) := by decide +kernel
theorem dX13_isRejected_2 : decode cX13_isRejected 2 = .ok (.invokevirtual 129, 3) := by decide +kernel
theorem dX13_isRejected_5 : decode cX13_isRejected 5 = .ok (.ifCond .eq 23, 3) := by decide +kernel
theorem dX13_isRejected_8 : decode cX13_isRejected 8 = .ok (.aload_n 0, 1) := by decide +kernel
theorem dX13_isRejected_9 : decode cX13_isRejected 9 = .ok (.aload_n 0, 1) := by decide +kernel
theorem dX13_isRejected_10 : decode cX13_isRejected 10 = .ok (.invokevirtual 138, 3) := by decide +kernel
theorem dX13_isRejected_13 : decode cX13_isRejected 13 = .ok (.invokevirtual 132, 3) := by decide +kernel
theorem dX13_isRejected_16 : decode cX13_isRejected 16 = .ok (.iload_n 1, 1) := by decide +kernel
theorem dX13_isRejected_17 : decode cX13_isRejected 17 = .ok (.ishr, 1) := by decide +kernel
theorem dX13_isRejected_18 : decode cX13_isRejected 18 = .ok (.iconst 1, 1) := by decide +kernel
theorem dX13_isRejected_19 : decode cX13_isRejected 19 = .ok (.iand, 1) := by decide +kernel
theorem dX13_isRejected_20 : decode cX13_isRejected 20 = .ok (.iconst 1, 1) := by decide +kernel
theorem dX13_isRejected_21 : decode cX13_isRejected 21 = .ok (.if_icmp .ne 7, 3) := by decide +kernel
theorem dX13_isRejected_24 : decode cX13_isRejected 24 = .ok (.iconst 1, 1) := by decide +kernel
theorem dX13_isRejected_25 : decode cX13_isRejected 25 = .ok (.goto 4, 3) := by decide +kernel
theorem dX13_isRejected_28 : decode cX13_isRejected 28 = .ok (.iconst 0, 1) := by decide +kernel
theorem dX13_isRejected_29 : decode cX13_isRejected 29 = .ok (.ireturn, 1) := by decide +kernel
theorem dX13_count_0 : decode cX13_count 0 = .ok (.iconst 0, 1) := by decide +kernel
theorem dX13_count_1 : decode cX13_count 1 = .ok (.istore_n 1, 1) := by decide +kernel
theorem dX13_count_2 : decode cX13_count 2 = .ok (.iload_n 0, 1) := by decide +kernel
theorem dX13_count_3 : decode cX13_count 3 = .ok (.istore_n 2, 1) := by decide +kernel
theorem dX13_count_4 : decode cX13_count 4 = .ok (.iload_n 2, 1) := by decide +kernel
theorem dX13_count_5 : decode cX13_count 5 = .ok (.ifCond .eq 15, 3) := by decide +kernel
theorem dX13_count_8 : decode cX13_count 8 = .ok (.iinc 1 1, 3) := by decide +kernel
theorem dX13_count_11 : decode cX13_count 11 = .ok (.iload_n 2, 1) := by decide +kernel
theorem dX13_count_12 : decode cX13_count 12 = .ok (.iload_n 2, 1) := by decide +kernel
theorem dX13_count_13 : decode cX13_count 13 = .ok (.iconst 1, 1) := by decide +kernel
theorem dX13_count_14 : decode cX13_count 14 = .ok (.isub, 1) := by decide +kernel
theorem dX13_count_15 : decode cX13_count 15 = .ok (.iand, 1) := by decide +kernel
theorem dX13_count_16 : decode cX13_count 16 = .ok (.istore_n 2, 1) := by decide +kernel
theorem dX13_count_17 : decode cX13_count 17 = .ok (.goto (-13), 3) := by decide +kernel
theorem dX13_count_20 : decode cX13_count 20 = .ok (.iload_n 1, 1) := by decide +kernel
theorem dX13_count_21 : decode cX13_count 21 = .ok (.ireturn, 1) := by decide +kernel
set_option maxRecDepth 20000 in
theorem ggX13_undecidedCount_X13_accepted : GoodIn wsX13_undecidedCount wsX13_accepted := goodIn_ca (goodIn_r _ [7, 2, 8, 9, 10, 6, 11, 12, 13, 14, 15, 16, 17, 18, 19, 20, 21, 22, 26, 27, 28, 29, 30, 31, 32, 33, 34, 35, 36, 37, 38, 39, 40, 41, 42, 43, 44, 45, 46, 47, 48, 49, 50, 51, 52, 53, 54] rfl (by decide +kernel)) (goodIn_sub (fun _ h => List.mem_cons_of_mem _ (List.mem_append_right _ h)) (by decide +kernel))
set_option maxRecDepth 20000 in
theorem gX13_undecidedCount_X13_accepted : GoodIn wsX13_undecidedCount (wsV RX13 138 RX13 yX13_accepted wsX13_accepted) := goodIn_app (goodIn_of _ (by decide +kernel)) ggX13_undecidedCount_X13_accepted
set_option maxRecDepth 20000 in
theorem ggX13_undecidedCount_X13_hitBy : GoodIn wsX13_undecidedCount wsX13_hitBy := goodIn_ca (goodIn_r _ [15, 2, 16, 17, 6, 18, 26, 27, 28, 29, 30, 31, 32, 33, 34, 35, 36, 37, 38, 39, 40, 41, 42, 43, 44, 45, 46, 47, 48, 49, 50, 51, 52, 53, 54] rfl (by decide +kernel)) (goodIn_sub (fun _ h => List.mem_cons_of_mem _ (List.mem_append_right _ h)) (by decide +kernel))
set_option maxRecDepth 20000 in
theorem gX13_undecidedCount_X13_hitBy : GoodIn wsX13_undecidedCount (wsV RX13 132 RX13 yX13_hitBy wsX13_hitBy) := goodIn_app (goodIn_of _ (by decide +kernel)) ggX13_undecidedCount_X13_hitBy
set_option maxRecDepth 20000 in
theorem ggX13_undecidedCount_X13_count : GoodIn wsX13_undecidedCount wsX13_count := goodIn_r _ [25] rfl (by decide +kernel)
set_option maxRecDepth 20000 in
theorem gX13_undecidedCount_X13_count : GoodIn wsX13_undecidedCount (va_wsS RX13 145 yX13_count wsX13_count) := goodIn_app (goodIn_of _ (by decide +kernel)) ggX13_undecidedCount_X13_count
theorem dX13_undecidedCount_0 : decode cX13_undecidedCount 0 = .ok (.aload_n 0, 1) := by decide +kernel
theorem dX13_undecidedCount_1 : decode cX13_undecidedCount 1 = .ok (.iconst 0, 1) := by decide +kernel
theorem dX13_undecidedCount_2 : decode cX13_undecidedCount 2 = .ok (.putfield 77, 3) := by decide +kernel
theorem dX13_undecidedCount_5 : decode cX13_undecidedCount 5 = .ok (.aload_n 0, 1) := by decide +kernel
theorem dX13_undecidedCount_6 : decode cX13_undecidedCount 6 = .ok (.getfield 16, 3) := by decide +kernel
theorem dX13_undecidedCount_9 : decode cX13_undecidedCount 9 = .ok (.iconst 0, 1) := by decide +kernel
theorem dX13_undecidedCount_10 : decode cX13_undecidedCount 10 = .ok (.iaload, 1) := by decide +kernel
theorem dX13_undecidedCount_11 : decode cX13_undecidedCount 11 = .ok (.aload_n 0, 1) := by decide +kernel
theorem dX13_undecidedCount_12 : decode cX13_undecidedCount 12 = .ok (.invokevirtual 138, 3) := by decide +kernel
theorem dX13_undecidedCount_15 : decode cX13_undecidedCount 15 = .ok (.aload_n 0, 1) := by decide +kernel
theorem dX13_undecidedCount_16 : decode cX13_undecidedCount 16 = .ok (.aload_n 0, 1) := by decide +kernel
theorem dX13_undecidedCount_17 : decode cX13_undecidedCount 17 = .ok (.invokevirtual 138, 3) := by decide +kernel
theorem dX13_undecidedCount_20 : decode cX13_undecidedCount 20 = .ok (.invokevirtual 132, 3) := by decide +kernel
theorem dX13_undecidedCount_23 : decode cX13_undecidedCount 23 = .ok (.ior, 1) := by decide +kernel
theorem dX13_undecidedCount_24 : decode cX13_undecidedCount 24 = .ok (.invokestatic 145, 3) := by decide +kernel
theorem dX13_undecidedCount_27 : decode cX13_undecidedCount 27 = .ok (.isub, 1) := by decide +kernel
theorem dX13_undecidedCount_28 : decode cX13_undecidedCount 28 = .ok (.ireturn, 1) := by decide +kernel
set_option maxRecDepth 20000 in
theorem ggX13_holds_X13_hitBy : GoodIn wsX13_holds wsX13_hitBy := goodIn_ca (goodIn_r _ [6, 1, 7, 8, 5, 9, 18, 19, 20, 21, 22, 23, 24, 25, 26, 27, 28, 29, 30, 31, 32, 33, 34, 35, 36, 37, 38, 39, 40, 41, 42, 43, 44, 45, 46] rfl (by decide +kernel)) (goodIn_sub (fun _ h => List.mem_cons_of_mem _ (List.mem_append_right _ h)) (by decide +kernel))
set_option maxRecDepth 20000 in
theorem gX13_holds_X13_hitBy : GoodIn wsX13_holds (wsV RX13 132 RX13 yX13_hitBy wsX13_hitBy) := goodIn_app (goodIn_of _ (by decide +kernel)) ggX13_holds_X13_hitBy
set_option maxRecDepth 20000 in
theorem ggX13_holds_X13_defends : GoodIn wsX13_holds wsX13_defends := goodIn_ca (goodIn_r _ [13, 1, 2, 3, 4, 5, 6, 7, 8, 9, 14, 15, 16, 17, 18, 19, 20, 21, 22, 23, 24, 25, 26, 27, 28, 29, 30, 31, 32, 33, 34, 35, 36, 37, 38, 39, 40, 41, 42, 43, 44, 45, 46] rfl (by decide +kernel)) (goodIn_sub (fun _ h => List.mem_cons_of_mem _ (List.mem_append_right _ h)) (by decide +kernel))
set_option maxRecDepth 20000 in
theorem gX13_holds_X13_defends : GoodIn wsX13_holds (wsV RX13 135 RX13 yX13_defends wsX13_defends) := goodIn_app (goodIn_of _ (by decide +kernel)) ggX13_holds_X13_defends
theorem dX13_holds_0 : decode cX13_holds 0 = .ok (.aload_n 0, 1) := by decide +kernel
theorem dX13_holds_1 : decode cX13_holds 1 = .ok (.iload_n 1, 1) := by decide +kernel
theorem dX13_holds_2 : decode cX13_holds 2 = .ok (.invokevirtual 132, 3) := by decide +kernel
theorem dX13_holds_5 : decode cX13_holds 5 = .ok (.iload_n 1, 1) := by decide +kernel
theorem dX13_holds_6 : decode cX13_holds 6 = .ok (.iand, 1) := by decide +kernel
theorem dX13_holds_7 : decode cX13_holds 7 = .ok (.ifCond .eq 5, 3) := by decide +kernel
theorem dX13_holds_10 : decode cX13_holds 10 = .ok (.iconst 0, 1) := by decide +kernel
theorem dX13_holds_11 : decode cX13_holds 11 = .ok (.ireturn, 1) := by decide +kernel
theorem dX13_holds_12 : decode cX13_holds 12 = .ok (.iconst 0, 1) := by decide +kernel
theorem dX13_holds_13 : decode cX13_holds 13 = .ok (.istore_n 2, 1) := by decide +kernel
theorem dX13_holds_14 : decode cX13_holds 14 = .ok (.iload_n 2, 1) := by decide +kernel
theorem dX13_holds_15 : decode cX13_holds 15 = .ok (.aload_n 0, 1) := by decide +kernel
theorem dX13_holds_16 : decode cX13_holds 16 = .ok (.getfield 16, 3) := by decide +kernel
theorem dX13_holds_19 : decode cX13_holds 19 = .ok (.iconst 0, 1) := by decide +kernel
theorem dX13_holds_20 : decode cX13_holds 20 = .ok (.iaload, 1) := by decide +kernel
theorem dX13_holds_21 : decode cX13_holds 21 = .ok (.if_icmp .ge 29, 3) := by decide +kernel
theorem dX13_holds_24 : decode cX13_holds 24 = .ok (.iload_n 1, 1) := by decide +kernel
theorem dX13_holds_25 : decode cX13_holds 25 = .ok (.iload_n 2, 1) := by decide +kernel
theorem dX13_holds_26 : decode cX13_holds 26 = .ok (.ishr, 1) := by decide +kernel
theorem dX13_holds_27 : decode cX13_holds 27 = .ok (.iconst 1, 1) := by decide +kernel
theorem dX13_holds_28 : decode cX13_holds 28 = .ok (.iand, 1) := by decide +kernel
theorem dX13_holds_29 : decode cX13_holds 29 = .ok (.iconst 1, 1) := by decide +kernel
theorem dX13_holds_30 : decode cX13_holds 30 = .ok (.if_icmp .ne 14, 3) := by decide +kernel
theorem dX13_holds_33 : decode cX13_holds 33 = .ok (.aload_n 0, 1) := by decide +kernel
theorem dX13_holds_34 : decode cX13_holds 34 = .ok (.iload_n 1, 1) := by decide +kernel
theorem dX13_holds_35 : decode cX13_holds 35 = .ok (.iload_n 2, 1) := by decide +kernel
theorem dX13_holds_36 : decode cX13_holds 36 = .ok (.invokevirtual 135, 3) := by decide +kernel
theorem dX13_holds_39 : decode cX13_holds 39 = .ok (.ifCond .ne 5, 3) := by decide +kernel
theorem dX13_holds_42 : decode cX13_holds 42 = .ok (.iconst 0, 1) := by decide +kernel
theorem dX13_holds_43 : decode cX13_holds 43 = .ok (.ireturn, 1) := by decide +kernel
theorem dX13_holds_44 : decode cX13_holds 44 = .ok (.iinc 2 1, 3) := by decide +kernel
theorem dX13_holds_47 : decode cX13_holds 47 = .ok (.goto (-33), 3) := by decide +kernel
theorem dX13_holds_50 : decode cX13_holds 50 = .ok (.iconst 1, 1) := by decide +kernel
theorem dX13_holds_51 : decode cX13_holds 51 = .ok (.ireturn, 1) := by decide +kernel
set_option maxRecDepth 20000 in
theorem ggX13_positions_X13_holds : GoodIn wsX13_positions wsX13_holds := goodIn_ca (goodIn_r _ [7, 2, 8, 9, 10, 6, 11, 12, 13, 14, 15, 16, 17, 18, 19, 20, 21, 22, 23, 24, 25, 26, 27, 28, 29, 30, 31, 32, 33, 34, 35, 36, 37, 38, 39, 40, 41, 42, 43, 44, 45, 46, 47, 48, 49, 50, 51] rfl (by decide +kernel)) (goodIn_sub (fun _ h => List.mem_cons_of_mem _ (List.mem_append_right _ h)) (by decide +kernel))
set_option maxRecDepth 20000 in
theorem gX13_positions_X13_holds : GoodIn wsX13_positions (wsV RX13 148 RX13 yX13_holds wsX13_holds) := goodIn_app (goodIn_of _ (by decide +kernel)) ggX13_positions_X13_holds
theorem dX13_positions_0 : decode cX13_positions 0 = .ok (.aload_n 0, 1) := by decide +kernel
theorem dX13_positions_1 : decode cX13_positions 1 = .ok (.iconst 0, 1) := by decide +kernel
theorem dX13_positions_2 : decode cX13_positions 2 = .ok (.putfield 77, 3) := by decide +kernel
theorem dX13_positions_5 : decode cX13_positions 5 = .ok (.iconst 0, 1) := by decide +kernel
theorem dX13_positions_6 : decode cX13_positions 6 = .ok (.istore_n 1, 1) := by decide +kernel
theorem dX13_positions_7 : decode cX13_positions 7 = .ok (.iconst 0, 1) := by decide +kernel
theorem dX13_positions_8 : decode cX13_positions 8 = .ok (.istore_n 2, 1) := by decide +kernel
theorem dX13_positions_9 : decode cX13_positions 9 = .ok (.iload_n 2, 1) := by decide +kernel
theorem dX13_positions_10 : decode cX13_positions 10 = .ok (.iconst 1, 1) := by decide +kernel
theorem dX13_positions_11 : decode cX13_positions 11 = .ok (.aload_n 0, 1) := by decide +kernel
theorem dX13_positions_12 : decode cX13_positions 12 = .ok (.getfield 16, 3) := by decide +kernel
theorem dX13_positions_15 : decode cX13_positions 15 = .ok (.iconst 0, 1) := by decide +kernel
theorem dX13_positions_16 : decode cX13_positions 16 = .ok (.iaload, 1) := by decide +kernel
theorem dX13_positions_17 : decode cX13_positions 17 = .ok (.ishl, 1) := by decide +kernel
theorem dX13_positions_18 : decode cX13_positions 18 = .ok (.if_icmp .ge 25, 3) := by decide +kernel
theorem dX13_positions_21 : decode cX13_positions 21 = .ok (.iload_n 1, 1) := by decide +kernel
theorem dX13_positions_22 : decode cX13_positions 22 = .ok (.aload_n 0, 1) := by decide +kernel
theorem dX13_positions_23 : decode cX13_positions 23 = .ok (.iload_n 2, 1) := by decide +kernel
theorem dX13_positions_24 : decode cX13_positions 24 = .ok (.invokevirtual 148, 3) := by decide +kernel
theorem dX13_positions_27 : decode cX13_positions 27 = .ok (.ifCond .eq 7, 3) := by decide +kernel
theorem dX13_positions_30 : decode cX13_positions 30 = .ok (.iconst 1, 1) := by decide +kernel
theorem dX13_positions_31 : decode cX13_positions 31 = .ok (.goto 4, 3) := by decide +kernel
theorem dX13_positions_34 : decode cX13_positions 34 = .ok (.iconst 0, 1) := by decide +kernel
theorem dX13_positions_35 : decode cX13_positions 35 = .ok (.iadd, 1) := by decide +kernel
theorem dX13_positions_36 : decode cX13_positions 36 = .ok (.istore_n 1, 1) := by decide +kernel
theorem dX13_positions_37 : decode cX13_positions 37 = .ok (.iinc 2 1, 3) := by decide +kernel
theorem dX13_positions_40 : decode cX13_positions 40 = .ok (.goto (-31), 3) := by decide +kernel
theorem dX13_positions_43 : decode cX13_positions 43 = .ok (.iload_n 1, 1) := by decide +kernel
theorem dX13_positions_44 : decode cX13_positions 44 = .ok (.ireturn, 1) := by decide +kernel
set_option maxRecDepth 20000 in
theorem ggX13_positionsByDeciding_X13_positions : GoodIn wsX13_positionsByDeciding wsX13_positions := goodIn_ca (goodIn_r _ [5, 6, 7, 8, 9, 10, 4, 11, 12, 13, 14, 15, 16, 17, 18, 19, 20, 21, 22, 23, 24, 25, 26, 27, 28, 29, 30, 31, 32, 33, 34, 35, 36, 37, 38, 39, 40, 41, 42, 43, 44, 45, 46, 47, 48, 49, 50, 51, 52, 53, 54, 55] rfl (by decide +kernel)) (goodIn_sub (fun _ h => List.mem_cons_of_mem _ (List.mem_append_right _ h)) (by decide +kernel))
set_option maxRecDepth 20000 in
theorem gX13_positionsByDeciding_X13_positions : GoodIn wsX13_positionsByDeciding (wsV RX13 151 RX13 yX13_positions wsX13_positions) := goodIn_app (goodIn_of _ (by decide +kernel)) ggX13_positionsByDeciding_X13_positions
theorem dX13_positionsByDeciding_0 : decode cX13_positionsByDeciding 0 = .ok (.aload_n 0, 1) := by decide +kernel
theorem dX13_positionsByDeciding_1 : decode cX13_positionsByDeciding 1 = .ok (.invokevirtual 151, 3) := by decide +kernel
theorem dX13_positionsByDeciding_4 : decode cX13_positionsByDeciding 4 = .ok (.ireturn, 1) := by decide +kernel
set_option maxRecDepth 20000 in
theorem ggX13_weight_X13_of : GoodIn wsX13_weight wsX13_of := goodIn_r _ [5] rfl (by decide +kernel)
set_option maxRecDepth 20000 in
theorem gX13_weight_X13_of : GoodIn wsX13_weight (va_wsS RX13 95 yX13_of wsX13_of) := goodIn_app (goodIn_of _ (by decide +kernel)) ggX13_weight_X13_of
theorem dX13_weight_0 : decode cX13_weight 0 = .ok (.iconst 0, 1) := by decide +kernel
theorem dX13_weight_1 : decode cX13_weight 1 = .ok (.istore_n 2, 1) := by decide +kernel
theorem dX13_weight_2 : decode cX13_weight 2 = .ok (.iconst 0, 1) := by decide +kernel
theorem dX13_weight_3 : decode cX13_weight 3 = .ok (.istore_n 3, 1) := by decide +kernel
theorem dX13_weight_4 : decode cX13_weight 4 = .ok (.iload_n 3, 1) := by decide +kernel
theorem dX13_weight_5 : decode cX13_weight 5 = .ok (.aload_n 0, 1) := by decide +kernel
theorem dX13_weight_6 : decode cX13_weight 6 = .ok (.getfield 16, 3) := by decide +kernel
theorem dX13_weight_9 : decode cX13_weight 9 = .ok (.iconst 0, 1) := by decide +kernel
theorem dX13_weight_10 : decode cX13_weight 10 = .ok (.iaload, 1) := by decide +kernel
theorem dX13_weight_11 : decode cX13_weight 11 = .ok (.if_icmp .ge 35, 3) := by decide +kernel
theorem dX13_weight_14 : decode cX13_weight 14 = .ok (.iload_n 2, 1) := by decide +kernel
theorem dX13_weight_15 : decode cX13_weight 15 = .ok (.iload_n 1, 1) := by decide +kernel
theorem dX13_weight_16 : decode cX13_weight 16 = .ok (.iload_n 3, 1) := by decide +kernel
theorem dX13_weight_17 : decode cX13_weight 17 = .ok (.ishr, 1) := by decide +kernel
theorem dX13_weight_18 : decode cX13_weight 18 = .ok (.iconst 1, 1) := by decide +kernel
theorem dX13_weight_19 : decode cX13_weight 19 = .ok (.iand, 1) := by decide +kernel
theorem dX13_weight_20 : decode cX13_weight 20 = .ok (.iconst 1, 1) := by decide +kernel
theorem dX13_weight_21 : decode cX13_weight 21 = .ok (.if_icmp .ne 16, 3) := by decide +kernel
theorem dX13_weight_24 : decode cX13_weight 24 = .ok (.aload_n 0, 1) := by decide +kernel
theorem dX13_weight_25 : decode cX13_weight 25 = .ok (.getfield 16, 3) := by decide +kernel
theorem dX13_weight_28 : decode cX13_weight 28 = .ok (.iload_n 3, 1) := by decide +kernel
theorem dX13_weight_29 : decode cX13_weight 29 = .ok (.iconst 0, 1) := by decide +kernel
theorem dX13_weight_30 : decode cX13_weight 30 = .ok (.invokestatic 95, 3) := by decide +kernel
theorem dX13_weight_33 : decode cX13_weight 33 = .ok (.iaload, 1) := by decide +kernel
theorem dX13_weight_34 : decode cX13_weight 34 = .ok (.goto 4, 3) := by decide +kernel
theorem dX13_weight_37 : decode cX13_weight 37 = .ok (.iconst 0, 1) := by decide +kernel
theorem dX13_weight_38 : decode cX13_weight 38 = .ok (.iadd, 1) := by decide +kernel
theorem dX13_weight_39 : decode cX13_weight 39 = .ok (.istore_n 2, 1) := by decide +kernel
theorem dX13_weight_40 : decode cX13_weight 40 = .ok (.iinc 3 1, 3) := by decide +kernel
theorem dX13_weight_43 : decode cX13_weight 43 = .ok (.goto (-39), 3) := by decide +kernel
theorem dX13_weight_46 : decode cX13_weight 46 = .ok (.iload_n 2, 1) := by decide +kernel
theorem dX13_weight_47 : decode cX13_weight 47 = .ok (.ireturn, 1) := by decide +kernel
set_option maxRecDepth 20000 in
theorem ggX13_heaviest_X13_weight : GoodIn wsX13_heaviest wsX13_weight := goodIn_ca (goodIn_r _ [6, 1, 7, 8, 5, 9, 26, 27, 28, 29, 30, 31, 32, 33, 34, 35, 36, 37, 38, 39, 40, 41, 42, 43, 44, 45, 46, 47, 48, 49, 50, 51, 52, 53, 54] rfl (by decide +kernel)) (goodIn_sub (fun _ h => List.mem_cons_of_mem _ (List.mem_append_right _ h)) (by decide +kernel))
set_option maxRecDepth 20000 in
theorem gX13_heaviest_X13_weight : GoodIn wsX13_heaviest (wsV RX13 154 RX13 yX13_weight wsX13_weight) := goodIn_app (goodIn_of _ (by decide +kernel)) ggX13_heaviest_X13_weight
set_option maxRecDepth 20000 in
theorem ggX13_heaviest_X13_holds : GoodIn wsX13_heaviest wsX13_holds := goodIn_ca (goodIn_r _ [13, 1, 14, 15, 16, 5, 17, 7, 8, 9, 18, 19, 20, 21, 22, 23, 24, 25, 26, 27, 28, 29, 30, 31, 32, 33, 34, 35, 36, 37, 38, 39, 40, 41, 42, 43, 44, 45, 46, 47, 48, 49, 50, 51, 52, 53, 54] rfl (by decide +kernel)) (goodIn_sub (fun _ h => List.mem_cons_of_mem _ (List.mem_append_right _ h)) (by decide +kernel))
set_option maxRecDepth 20000 in
theorem gX13_heaviest_X13_holds : GoodIn wsX13_heaviest (wsV RX13 148 RX13 yX13_holds wsX13_holds) := goodIn_app (goodIn_of _ (by decide +kernel)) ggX13_heaviest_X13_holds
theorem dX13_heaviest_0 : decode cX13_heaviest 0 = .ok (.iconst 0, 1) := by decide +kernel
theorem dX13_heaviest_1 : decode cX13_heaviest 1 = .ok (.istore_n 1, 1) := by decide +kernel
theorem dX13_heaviest_2 : decode cX13_heaviest 2 = .ok (.iconst 1, 1) := by decide +kernel
theorem dX13_heaviest_3 : decode cX13_heaviest 3 = .ok (.istore_n 2, 1) := by decide +kernel
theorem dX13_heaviest_4 : decode cX13_heaviest 4 = .ok (.iload_n 2, 1) := by decide +kernel
theorem dX13_heaviest_5 : decode cX13_heaviest 5 = .ok (.iconst 1, 1) := by decide +kernel
theorem dX13_heaviest_6 : decode cX13_heaviest 6 = .ok (.aload_n 0, 1) := by decide +kernel
theorem dX13_heaviest_7 : decode cX13_heaviest 7 = .ok (.getfield 16, 3) := by decide +kernel
theorem dX13_heaviest_10 : decode cX13_heaviest 10 = .ok (.iconst 0, 1) := by decide +kernel
theorem dX13_heaviest_11 : decode cX13_heaviest 11 = .ok (.iaload, 1) := by decide +kernel
theorem dX13_heaviest_12 : decode cX13_heaviest 12 = .ok (.ishl, 1) := by decide +kernel
theorem dX13_heaviest_13 : decode cX13_heaviest 13 = .ok (.if_icmp .ge 58, 3) := by decide +kernel
theorem dX13_heaviest_16 : decode cX13_heaviest 16 = .ok (.aload_n 0, 1) := by decide +kernel
theorem dX13_heaviest_17 : decode cX13_heaviest 17 = .ok (.iload_n 2, 1) := by decide +kernel
theorem dX13_heaviest_18 : decode cX13_heaviest 18 = .ok (.invokevirtual 154, 3) := by decide +kernel
theorem dX13_heaviest_21 : decode cX13_heaviest 21 = .ok (.aload_n 0, 1) := by decide +kernel
theorem dX13_heaviest_22 : decode cX13_heaviest 22 = .ok (.iload_n 1, 1) := by decide +kernel
theorem dX13_heaviest_23 : decode cX13_heaviest 23 = .ok (.invokevirtual 154, 3) := by decide +kernel
theorem dX13_heaviest_26 : decode cX13_heaviest 26 = .ok (.isub, 1) := by decide +kernel
theorem dX13_heaviest_27 : decode cX13_heaviest 27 = .ok (.istore_n 3, 1) := by decide +kernel
theorem dX13_heaviest_28 : decode cX13_heaviest 28 = .ok (.iload_n 2, 1) := by decide +kernel
theorem dX13_heaviest_29 : decode cX13_heaviest 29 = .ok (.iload_n 1, 1) := by decide +kernel
theorem dX13_heaviest_30 : decode cX13_heaviest 30 = .ok (.ixor, 1) := by decide +kernel
theorem dX13_heaviest_31 : decode cX13_heaviest 31 = .ok (.istore 4, 2) := by decide +kernel
theorem dX13_heaviest_33 : decode cX13_heaviest 33 = .ok (.iload_n 3, 1) := by decide +kernel
theorem dX13_heaviest_34 : decode cX13_heaviest 34 = .ok (.ifCond .lt 31, 3) := by decide +kernel
theorem dX13_heaviest_37 : decode cX13_heaviest 37 = .ok (.iload_n 3, 1) := by decide +kernel
theorem dX13_heaviest_38 : decode cX13_heaviest 38 = .ok (.ifCond .ne 14, 3) := by decide +kernel
theorem dX13_heaviest_41 : decode cX13_heaviest 41 = .ok (.iload_n 2, 1) := by decide +kernel
theorem dX13_heaviest_42 : decode cX13_heaviest 42 = .ok (.iload 4, 2) := by decide +kernel
theorem dX13_heaviest_44 : decode cX13_heaviest 44 = .ok (.iand, 1) := by decide +kernel
theorem dX13_heaviest_45 : decode cX13_heaviest 45 = .ok (.iload 4, 2) := by decide +kernel
theorem dX13_heaviest_47 : decode cX13_heaviest 47 = .ok (.ineg, 1) := by decide +kernel
theorem dX13_heaviest_48 : decode cX13_heaviest 48 = .ok (.iand, 1) := by decide +kernel
theorem dX13_heaviest_49 : decode cX13_heaviest 49 = .ok (.ifCond .eq 16, 3) := by decide +kernel
theorem dX13_heaviest_52 : decode cX13_heaviest 52 = .ok (.aload_n 0, 1) := by decide +kernel
theorem dX13_heaviest_53 : decode cX13_heaviest 53 = .ok (.iload_n 2, 1) := by decide +kernel
theorem dX13_heaviest_54 : decode cX13_heaviest 54 = .ok (.invokevirtual 148, 3) := by decide +kernel
theorem dX13_heaviest_57 : decode cX13_heaviest 57 = .ok (.ifCond .ne 6, 3) := by decide +kernel
theorem dX13_heaviest_60 : decode cX13_heaviest 60 = .ok (.goto 5, 3) := by decide +kernel
theorem dX13_heaviest_63 : decode cX13_heaviest 63 = .ok (.iload_n 2, 1) := by decide +kernel
theorem dX13_heaviest_64 : decode cX13_heaviest 64 = .ok (.istore_n 1, 1) := by decide +kernel
theorem dX13_heaviest_65 : decode cX13_heaviest 65 = .ok (.iinc 2 1, 3) := by decide +kernel
theorem dX13_heaviest_68 : decode cX13_heaviest 68 = .ok (.goto (-64), 3) := by decide +kernel
theorem dX13_heaviest_71 : decode cX13_heaviest 71 = .ok (.iload_n 1, 1) := by decide +kernel
theorem dX13_heaviest_72 : decode cX13_heaviest 72 = .ok (.ireturn, 1) := by decide +kernel
set_option maxRecDepth 20000 in
theorem ggX13_heaviestWeight_X13_heaviest : GoodIn wsX13_heaviestWeight wsX13_heaviest := goodIn_ca (goodIn_r _ [6, 7, 8, 9, 10, 5, 11, 12, 13, 14, 15, 16, 17, 18, 19, 20, 21, 22, 23, 24, 25, 26, 27, 28, 29, 30, 31, 32, 33, 34, 35, 36, 37, 38, 39, 40, 41, 42, 43, 44, 45, 46, 47, 48, 49, 50, 51, 52, 53, 54, 55, 56, 57, 58, 59] rfl (by decide +kernel)) (goodIn_sub (fun _ h => List.mem_cons_of_mem _ (List.mem_append_right _ h)) (by decide +kernel))
set_option maxRecDepth 20000 in
theorem gX13_heaviestWeight_X13_heaviest : GoodIn wsX13_heaviestWeight (wsV RX13 157 RX13 yX13_heaviest wsX13_heaviest) := goodIn_app (goodIn_of _ (by decide +kernel)) ggX13_heaviestWeight_X13_heaviest
set_option maxRecDepth 20000 in
theorem ggX13_heaviestWeight_X13_weight : GoodIn wsX13_heaviestWeight wsX13_weight := goodIn_ca (goodIn_r _ [11, 7, 12, 13, 5, 14, 31, 32, 33, 34, 35, 36, 37, 38, 39, 40, 41, 42, 43, 44, 45, 46, 47, 48, 49, 50, 51, 52, 53, 54, 55, 56, 57, 58, 59] rfl (by decide +kernel)) (goodIn_sub (fun _ h => List.mem_cons_of_mem _ (List.mem_append_right _ h)) (by decide +kernel))
set_option maxRecDepth 20000 in
theorem gX13_heaviestWeight_X13_weight : GoodIn wsX13_heaviestWeight (wsV RX13 154 RX13 yX13_weight wsX13_weight) := goodIn_app (goodIn_of _ (by decide +kernel)) ggX13_heaviestWeight_X13_weight
theorem dX13_heaviestWeight_0 : decode cX13_heaviestWeight 0 = .ok (.aload_n 0, 1) := by decide +kernel
theorem dX13_heaviestWeight_1 : decode cX13_heaviestWeight 1 = .ok (.iconst 0, 1) := by decide +kernel
theorem dX13_heaviestWeight_2 : decode cX13_heaviestWeight 2 = .ok (.putfield 77, 3) := by decide +kernel
theorem dX13_heaviestWeight_5 : decode cX13_heaviestWeight 5 = .ok (.aload_n 0, 1) := by decide +kernel
theorem dX13_heaviestWeight_6 : decode cX13_heaviestWeight 6 = .ok (.aload_n 0, 1) := by decide +kernel
theorem dX13_heaviestWeight_7 : decode cX13_heaviestWeight 7 = .ok (.invokevirtual 157, 3) := by decide +kernel
theorem dX13_heaviestWeight_10 : decode cX13_heaviestWeight 10 = .ok (.invokevirtual 154, 3) := by decide +kernel
theorem dX13_heaviestWeight_13 : decode cX13_heaviestWeight 13 = .ok (.ireturn, 1) := by decide +kernel
set_option maxRecDepth 20000 in
theorem ggX13_heaviestBits_X13_heaviest : GoodIn wsX13_heaviestBits wsX13_heaviest := goodIn_ca (goodIn_r _ [6, 7, 8, 9, 10, 5, 11, 12, 13, 14, 15, 16, 17, 18, 19, 20, 21, 22, 23, 24, 25, 26, 27, 28, 29, 30, 31, 32, 33, 34, 35, 36, 37, 38, 39, 40, 41, 42, 43, 44, 45, 46, 47, 48, 49, 50, 51, 52, 53, 54, 55, 56, 57, 58, 59] rfl (by decide +kernel)) (goodIn_sub (fun _ h => List.mem_cons_of_mem _ (List.mem_append_right _ h)) (by decide +kernel))
set_option maxRecDepth 20000 in
theorem gX13_heaviestBits_X13_heaviest : GoodIn wsX13_heaviestBits (wsV RX13 157 RX13 yX13_heaviest wsX13_heaviest) := goodIn_app (goodIn_of _ (by decide +kernel)) ggX13_heaviestBits_X13_heaviest
theorem dX13_heaviestBits_0 : decode cX13_heaviestBits 0 = .ok (.aload_n 0, 1) := by decide +kernel
theorem dX13_heaviestBits_1 : decode cX13_heaviestBits 1 = .ok (.iconst 0, 1) := by decide +kernel
theorem dX13_heaviestBits_2 : decode cX13_heaviestBits 2 = .ok (.putfield 77, 3) := by decide +kernel
theorem dX13_heaviestBits_5 : decode cX13_heaviestBits 5 = .ok (.aload_n 0, 1) := by decide +kernel
theorem dX13_heaviestBits_6 : decode cX13_heaviestBits 6 = .ok (.invokevirtual 157, 3) := by decide +kernel
theorem dX13_heaviestBits_9 : decode cX13_heaviestBits 9 = .ok (.ireturn, 1) := by decide +kernel
set_option maxRecDepth 20000 in
theorem ggX13_isPosition_X13_holds : GoodIn wsX13_isPosition wsX13_holds := goodIn_ca (goodIn_r _ [7, 1, 8, 9, 10, 6, 11, 12, 13, 14, 15, 16, 17, 18, 19, 20, 21, 22, 23, 24, 25, 26, 27, 28, 29, 30, 31, 32, 33, 34, 35, 36, 37, 38, 39, 40, 41, 42, 43, 44, 45, 46, 47, 48, 49, 50, 51] rfl (by decide +kernel)) (goodIn_sub (fun _ h => List.mem_cons_of_mem _ (List.mem_append_right _ h)) (by decide +kernel))
set_option maxRecDepth 20000 in
theorem gX13_isPosition_X13_holds : GoodIn wsX13_isPosition (wsV RX13 148 RX13 yX13_holds wsX13_holds) := goodIn_app (goodIn_of _ (by decide +kernel)) ggX13_isPosition_X13_holds
theorem dX13_isPosition_0 : decode cX13_isPosition 0 = .ok (.aload_n 0, 1) := by decide +kernel
theorem dX13_isPosition_1 : decode cX13_isPosition 1 = .ok (.iload_n 1, 1) := by decide +kernel
theorem dX13_isPosition_2 : decode cX13_isPosition 2 = .ok (.ifCond .lt 14, 3) := by decide +kernel
theorem dX13_isPosition_5 : decode cX13_isPosition 5 = .ok (.iload_n 1, 1) := by decide +kernel
theorem dX13_isPosition_6 : decode cX13_isPosition 6 = .ok (.aload_n 0, 1) := by decide +kernel
theorem dX13_isPosition_7 : decode cX13_isPosition 7 = .ok (.getfield 16, 3) := by decide +kernel
theorem dX13_isPosition_10 : decode cX13_isPosition 10 = .ok (.iconst 0, 1) := by decide +kernel
theorem dX13_isPosition_11 : decode cX13_isPosition 11 = .ok (.iaload, 1) := by decide +kernel
theorem dX13_isPosition_12 : decode cX13_isPosition 12 = .ok (.ishr, 1) := by decide +kernel
theorem dX13_isPosition_13 : decode cX13_isPosition 13 = .ok (.ifCond .eq 7, 3) := by decide +kernel
theorem dX13_isPosition_16 : decode cX13_isPosition 16 = .ok (.iconst 1, 1) := by decide +kernel
theorem dX13_isPosition_17 : decode cX13_isPosition 17 = .ok (.goto 4, 3) := by decide +kernel
theorem dX13_isPosition_20 : decode cX13_isPosition 20 = .ok (.iconst 0, 1) := by decide +kernel
theorem dX13_isPosition_21 : decode cX13_isPosition 21 = .ok (.putfield 77, 3) := by decide +kernel
theorem dX13_isPosition_24 : decode cX13_isPosition 24 = .ok (.aload_n 0, 1) := by decide +kernel
theorem dX13_isPosition_25 : decode cX13_isPosition 25 = .ok (.getfield 77, 3) := by decide +kernel
theorem dX13_isPosition_28 : decode cX13_isPosition 28 = .ok (.ifCond .ne 15, 3) := by decide +kernel
theorem dX13_isPosition_31 : decode cX13_isPosition 31 = .ok (.aload_n 0, 1) := by decide +kernel
theorem dX13_isPosition_32 : decode cX13_isPosition 32 = .ok (.iload_n 1, 1) := by decide +kernel
theorem dX13_isPosition_33 : decode cX13_isPosition 33 = .ok (.invokevirtual 148, 3) := by decide +kernel
theorem dX13_isPosition_36 : decode cX13_isPosition 36 = .ok (.ifCond .eq 7, 3) := by decide +kernel
theorem dX13_isPosition_39 : decode cX13_isPosition 39 = .ok (.iconst 1, 1) := by decide +kernel
theorem dX13_isPosition_40 : decode cX13_isPosition 40 = .ok (.goto 4, 3) := by decide +kernel
theorem dX13_isPosition_43 : decode cX13_isPosition 43 = .ok (.iconst 0, 1) := by decide +kernel
theorem dX13_isPosition_44 : decode cX13_isPosition 44 = .ok (.ireturn, 1) := by decide +kernel
set_option maxRecDepth 20000 in
theorem ggX13_reaches_X13_of : GoodIn wsX13_reaches wsX13_of := goodIn_r _ [6] rfl (by decide +kernel)
set_option maxRecDepth 20000 in
theorem gX13_reaches_X13_of : GoodIn wsX13_reaches (va_wsS RX13 95 yX13_of wsX13_of) := goodIn_app (goodIn_of _ (by decide +kernel)) ggX13_reaches_X13_of
theorem dX13_reaches_0 : decode cX13_reaches 0 = .ok (.iconst 0, 1) := by decide +kernel
theorem dX13_reaches_1 : decode cX13_reaches 1 = .ok (.istore_n 1, 1) := by decide +kernel
theorem dX13_reaches_2 : decode cX13_reaches 2 = .ok (.iload_n 1, 1) := by decide +kernel
theorem dX13_reaches_3 : decode cX13_reaches 3 = .ok (.aload_n 0, 1) := by decide +kernel
theorem dX13_reaches_4 : decode cX13_reaches 4 = .ok (.getfield 16, 3) := by decide +kernel
theorem dX13_reaches_7 : decode cX13_reaches 7 = .ok (.iconst 0, 1) := by decide +kernel
theorem dX13_reaches_8 : decode cX13_reaches 8 = .ok (.iaload, 1) := by decide +kernel
theorem dX13_reaches_9 : decode cX13_reaches 9 = .ok (.if_icmp .ge 29, 3) := by decide +kernel
theorem dX13_reaches_12 : decode cX13_reaches 12 = .ok (.aload_n 0, 1) := by decide +kernel
theorem dX13_reaches_13 : decode cX13_reaches 13 = .ok (.getfield 29, 3) := by decide +kernel
theorem dX13_reaches_16 : decode cX13_reaches 16 = .ok (.iload_n 1, 1) := by decide +kernel
theorem dX13_reaches_17 : decode cX13_reaches 17 = .ok (.aload_n 0, 1) := by decide +kernel
theorem dX13_reaches_18 : decode cX13_reaches 18 = .ok (.getfield 16, 3) := by decide +kernel
theorem dX13_reaches_21 : decode cX13_reaches 21 = .ok (.iload_n 1, 1) := by decide +kernel
theorem dX13_reaches_22 : decode cX13_reaches 22 = .ok (.iconst 2, 1) := by decide +kernel
theorem dX13_reaches_23 : decode cX13_reaches 23 = .ok (.invokestatic 95, 3) := by decide +kernel
theorem dX13_reaches_26 : decode cX13_reaches 26 = .ok (.iaload, 1) := by decide +kernel
theorem dX13_reaches_27 : decode cX13_reaches 27 = .ok (.iconst 1, 1) := by decide +kernel
theorem dX13_reaches_28 : decode cX13_reaches 28 = .ok (.iload_n 1, 1) := by decide +kernel
theorem dX13_reaches_29 : decode cX13_reaches 29 = .ok (.ishl, 1) := by decide +kernel
theorem dX13_reaches_30 : decode cX13_reaches 30 = .ok (.ior, 1) := by decide +kernel
theorem dX13_reaches_31 : decode cX13_reaches 31 = .ok (.iastore, 1) := by decide +kernel
theorem dX13_reaches_32 : decode cX13_reaches 32 = .ok (.iinc 1 1, 3) := by decide +kernel
theorem dX13_reaches_35 : decode cX13_reaches 35 = .ok (.goto (-33), 3) := by decide +kernel
theorem dX13_reaches_38 : decode cX13_reaches 38 = .ok (.iconst 0, 1) := by decide +kernel
theorem dX13_reaches_39 : decode cX13_reaches 39 = .ok (.istore_n 1, 1) := by decide +kernel
theorem dX13_reaches_40 : decode cX13_reaches 40 = .ok (.iload_n 1, 1) := by decide +kernel
theorem dX13_reaches_41 : decode cX13_reaches 41 = .ok (.aload_n 0, 1) := by decide +kernel
theorem dX13_reaches_42 : decode cX13_reaches 42 = .ok (.getfield 16, 3) := by decide +kernel
theorem dX13_reaches_45 : decode cX13_reaches 45 = .ok (.iconst 0, 1) := by decide +kernel
theorem dX13_reaches_46 : decode cX13_reaches 46 = .ok (.iaload, 1) := by decide +kernel
theorem dX13_reaches_47 : decode cX13_reaches 47 = .ok (.if_icmp .ge 60, 3) := by decide +kernel
theorem dX13_reaches_50 : decode cX13_reaches 50 = .ok (.iconst 0, 1) := by decide +kernel
theorem dX13_reaches_51 : decode cX13_reaches 51 = .ok (.istore_n 2, 1) := by decide +kernel
theorem dX13_reaches_52 : decode cX13_reaches 52 = .ok (.iload_n 2, 1) := by decide +kernel
theorem dX13_reaches_53 : decode cX13_reaches 53 = .ok (.aload_n 0, 1) := by decide +kernel
theorem dX13_reaches_54 : decode cX13_reaches 54 = .ok (.getfield 16, 3) := by decide +kernel
theorem dX13_reaches_57 : decode cX13_reaches 57 = .ok (.iconst 0, 1) := by decide +kernel
theorem dX13_reaches_58 : decode cX13_reaches 58 = .ok (.iaload, 1) := by decide +kernel
theorem dX13_reaches_59 : decode cX13_reaches 59 = .ok (.if_icmp .ge 42, 3) := by decide +kernel
theorem dX13_reaches_62 : decode cX13_reaches 62 = .ok (.aload_n 0, 1) := by decide +kernel
theorem dX13_reaches_63 : decode cX13_reaches 63 = .ok (.getfield 29, 3) := by decide +kernel
theorem dX13_reaches_66 : decode cX13_reaches 66 = .ok (.iload_n 2, 1) := by decide +kernel
theorem dX13_reaches_67 : decode cX13_reaches 67 = .ok (.dup2, 1) := by decide +kernel
theorem dX13_reaches_68 : decode cX13_reaches 68 = .ok (.iaload, 1) := by decide +kernel
theorem dX13_reaches_69 : decode cX13_reaches 69 = .ok (.aload_n 0, 1) := by decide +kernel
theorem dX13_reaches_70 : decode cX13_reaches 70 = .ok (.getfield 29, 3) := by decide +kernel
theorem dX13_reaches_73 : decode cX13_reaches 73 = .ok (.iload_n 2, 1) := by decide +kernel
theorem dX13_reaches_74 : decode cX13_reaches 74 = .ok (.iaload, 1) := by decide +kernel
theorem dX13_reaches_75 : decode cX13_reaches 75 = .ok (.iload_n 1, 1) := by decide +kernel
theorem dX13_reaches_76 : decode cX13_reaches 76 = .ok (.ishr, 1) := by decide +kernel
theorem dX13_reaches_77 : decode cX13_reaches 77 = .ok (.iconst 1, 1) := by decide +kernel
theorem dX13_reaches_78 : decode cX13_reaches 78 = .ok (.iand, 1) := by decide +kernel
theorem dX13_reaches_79 : decode cX13_reaches 79 = .ok (.iconst 1, 1) := by decide +kernel
theorem dX13_reaches_80 : decode cX13_reaches 80 = .ok (.if_icmp .ne 12, 3) := by decide +kernel
theorem dX13_reaches_83 : decode cX13_reaches 83 = .ok (.aload_n 0, 1) := by decide +kernel
theorem dX13_reaches_84 : decode cX13_reaches 84 = .ok (.getfield 29, 3) := by decide +kernel
theorem dX13_reaches_87 : decode cX13_reaches 87 = .ok (.iload_n 1, 1) := by decide +kernel
theorem dX13_reaches_88 : decode cX13_reaches 88 = .ok (.iaload, 1) := by decide +kernel
theorem dX13_reaches_89 : decode cX13_reaches 89 = .ok (.goto 4, 3) := by decide +kernel
theorem dX13_reaches_92 : decode cX13_reaches 92 = .ok (.iconst 0, 1) := by decide +kernel
theorem dX13_reaches_93 : decode cX13_reaches 93 = .ok (.ior, 1) := by decide +kernel
theorem dX13_reaches_94 : decode cX13_reaches 94 = .ok (.iastore, 1) := by decide +kernel
theorem dX13_reaches_95 : decode cX13_reaches 95 = .ok (.iinc 2 1, 3) := by decide +kernel
theorem dX13_reaches_98 : decode cX13_reaches 98 = .ok (.goto (-46), 3) := by decide +kernel
theorem dX13_reaches_101 : decode cX13_reaches 101 = .ok (.iinc 1 1, 3) := by decide +kernel
theorem dX13_reaches_104 : decode cX13_reaches 104 = .ok (.goto (-64), 3) := by decide +kernel
theorem dX13_reaches_107 : decode cX13_reaches 107 = .ok (.return_, 1) := by decide +kernel
theorem dX13_circle_0 : decode cX13_circle 0 = .ok (.iconst 0, 1) := by decide +kernel
theorem dX13_circle_1 : decode cX13_circle 1 = .ok (.istore_n 2, 1) := by decide +kernel
theorem dX13_circle_2 : decode cX13_circle 2 = .ok (.iconst 0, 1) := by decide +kernel
theorem dX13_circle_3 : decode cX13_circle 3 = .ok (.istore_n 3, 1) := by decide +kernel
theorem dX13_circle_4 : decode cX13_circle 4 = .ok (.iload_n 3, 1) := by decide +kernel
theorem dX13_circle_5 : decode cX13_circle 5 = .ok (.aload_n 0, 1) := by decide +kernel
theorem dX13_circle_6 : decode cX13_circle 6 = .ok (.getfield 16, 3) := by decide +kernel
theorem dX13_circle_9 : decode cX13_circle 9 = .ok (.iconst 0, 1) := by decide +kernel
theorem dX13_circle_10 : decode cX13_circle 10 = .ok (.iaload, 1) := by decide +kernel
theorem dX13_circle_11 : decode cX13_circle 11 = .ok (.if_icmp .ge 47, 3) := by decide +kernel
theorem dX13_circle_14 : decode cX13_circle 14 = .ok (.iload_n 2, 1) := by decide +kernel
theorem dX13_circle_15 : decode cX13_circle 15 = .ok (.aload_n 0, 1) := by decide +kernel
theorem dX13_circle_16 : decode cX13_circle 16 = .ok (.getfield 29, 3) := by decide +kernel
theorem dX13_circle_19 : decode cX13_circle 19 = .ok (.iload_n 1, 1) := by decide +kernel
theorem dX13_circle_20 : decode cX13_circle 20 = .ok (.iaload, 1) := by decide +kernel
theorem dX13_circle_21 : decode cX13_circle 21 = .ok (.iload_n 3, 1) := by decide +kernel
theorem dX13_circle_22 : decode cX13_circle 22 = .ok (.ishr, 1) := by decide +kernel
theorem dX13_circle_23 : decode cX13_circle 23 = .ok (.iconst 1, 1) := by decide +kernel
theorem dX13_circle_24 : decode cX13_circle 24 = .ok (.iand, 1) := by decide +kernel
theorem dX13_circle_25 : decode cX13_circle 25 = .ok (.iconst 1, 1) := by decide +kernel
theorem dX13_circle_26 : decode cX13_circle 26 = .ok (.if_icmp .ne 23, 3) := by decide +kernel
theorem dX13_circle_29 : decode cX13_circle 29 = .ok (.aload_n 0, 1) := by decide +kernel
theorem dX13_circle_30 : decode cX13_circle 30 = .ok (.getfield 29, 3) := by decide +kernel
theorem dX13_circle_33 : decode cX13_circle 33 = .ok (.iload_n 3, 1) := by decide +kernel
theorem dX13_circle_34 : decode cX13_circle 34 = .ok (.iaload, 1) := by decide +kernel
theorem dX13_circle_35 : decode cX13_circle 35 = .ok (.iload_n 1, 1) := by decide +kernel
theorem dX13_circle_36 : decode cX13_circle 36 = .ok (.ishr, 1) := by decide +kernel
theorem dX13_circle_37 : decode cX13_circle 37 = .ok (.iconst 1, 1) := by decide +kernel
theorem dX13_circle_38 : decode cX13_circle 38 = .ok (.iand, 1) := by decide +kernel
theorem dX13_circle_39 : decode cX13_circle 39 = .ok (.iconst 1, 1) := by decide +kernel
theorem dX13_circle_40 : decode cX13_circle 40 = .ok (.if_icmp .ne 9, 3) := by decide +kernel
theorem dX13_circle_43 : decode cX13_circle 43 = .ok (.iconst 1, 1) := by decide +kernel
theorem dX13_circle_44 : decode cX13_circle 44 = .ok (.iload_n 3, 1) := by decide +kernel
theorem dX13_circle_45 : decode cX13_circle 45 = .ok (.ishl, 1) := by decide +kernel
theorem dX13_circle_46 : decode cX13_circle 46 = .ok (.goto 4, 3) := by decide +kernel
theorem dX13_circle_49 : decode cX13_circle 49 = .ok (.iconst 0, 1) := by decide +kernel
theorem dX13_circle_50 : decode cX13_circle 50 = .ok (.ior, 1) := by decide +kernel
theorem dX13_circle_51 : decode cX13_circle 51 = .ok (.istore_n 2, 1) := by decide +kernel
theorem dX13_circle_52 : decode cX13_circle 52 = .ok (.iinc 3 1, 3) := by decide +kernel
theorem dX13_circle_55 : decode cX13_circle 55 = .ok (.goto (-51), 3) := by decide +kernel
theorem dX13_circle_58 : decode cX13_circle 58 = .ok (.iload_n 2, 1) := by decide +kernel
theorem dX13_circle_59 : decode cX13_circle 59 = .ok (.ireturn, 1) := by decide +kernel
set_option maxRecDepth 20000 in
theorem ggX13_circles_X13_reaches : GoodIn wsX13_circles wsX13_reaches := goodIn_ca (goodIn_r _ [7, 2, 8, 9, 10, 6, 11, 16, 17, 18, 19, 20, 21, 22, 23, 24, 25, 26, 27, 28, 29, 30, 31, 32, 33, 34, 35, 36, 37, 38, 39, 40, 41, 42, 43, 44] rfl (by decide +kernel)) (goodIn_sub (fun _ h => List.mem_cons_of_mem _ (List.mem_append_right _ h)) (by decide +kernel))
set_option maxRecDepth 20000 in
theorem gX13_circles_X13_reaches : GoodIn wsX13_circles (wsV RX13 160 RX13 yX13_reaches wsX13_reaches) := goodIn_app (goodIn_of _ (by decide +kernel)) ggX13_circles_X13_reaches
set_option maxRecDepth 20000 in
theorem ggX13_circles_X13_circle : GoodIn wsX13_circles wsX13_circle := goodIn_ca (goodIn_r _ [15, 2, 8, 16, 17, 18, 19, 20, 21, 22, 23, 24, 25, 26, 27, 28, 29, 30, 31, 32, 33, 34, 35, 36, 37, 38, 39, 40, 41, 42, 43, 44] rfl (by decide +kernel)) (goodIn_sub (fun _ h => List.mem_cons_of_mem _ (List.mem_append_right _ h)) (by decide +kernel))
set_option maxRecDepth 20000 in
theorem gX13_circles_X13_circle : GoodIn wsX13_circles (wsV RX13 163 RX13 yX13_circle wsX13_circle) := goodIn_app (goodIn_of _ (by decide +kernel)) ggX13_circles_X13_circle
theorem dX13_circles_0 : decode cX13_circles 0 = .ok (.aload_n 0, 1) := by decide +kernel
theorem dX13_circles_1 : decode cX13_circles 1 = .ok (.iconst 0, 1) := by decide +kernel
theorem dX13_circles_2 : decode cX13_circles 2 = .ok (.putfield 77, 3) := by decide +kernel
theorem dX13_circles_5 : decode cX13_circles 5 = .ok (.aload_n 0, 1) := by decide +kernel
theorem dX13_circles_6 : decode cX13_circles 6 = .ok (.invokevirtual 160, 3) := by decide +kernel
theorem dX13_circles_9 : decode cX13_circles 9 = .ok (.iconst 0, 1) := by decide +kernel
theorem dX13_circles_10 : decode cX13_circles 10 = .ok (.istore_n 1, 1) := by decide +kernel
theorem dX13_circles_11 : decode cX13_circles 11 = .ok (.iconst 0, 1) := by decide +kernel
theorem dX13_circles_12 : decode cX13_circles 12 = .ok (.istore_n 2, 1) := by decide +kernel
theorem dX13_circles_13 : decode cX13_circles 13 = .ok (.iload_n 2, 1) := by decide +kernel
theorem dX13_circles_14 : decode cX13_circles 14 = .ok (.aload_n 0, 1) := by decide +kernel
theorem dX13_circles_15 : decode cX13_circles 15 = .ok (.getfield 16, 3) := by decide +kernel
theorem dX13_circles_18 : decode cX13_circles 18 = .ok (.iconst 0, 1) := by decide +kernel
theorem dX13_circles_19 : decode cX13_circles 19 = .ok (.iaload, 1) := by decide +kernel
theorem dX13_circles_20 : decode cX13_circles 20 = .ok (.if_icmp .ge 31, 3) := by decide +kernel
theorem dX13_circles_23 : decode cX13_circles 23 = .ok (.iload_n 1, 1) := by decide +kernel
theorem dX13_circles_24 : decode cX13_circles 24 = .ok (.aload_n 0, 1) := by decide +kernel
theorem dX13_circles_25 : decode cX13_circles 25 = .ok (.iload_n 2, 1) := by decide +kernel
theorem dX13_circles_26 : decode cX13_circles 26 = .ok (.invokevirtual 163, 3) := by decide +kernel
theorem dX13_circles_29 : decode cX13_circles 29 = .ok (.iconst 1, 1) := by decide +kernel
theorem dX13_circles_30 : decode cX13_circles 30 = .ok (.iload_n 2, 1) := by decide +kernel
theorem dX13_circles_31 : decode cX13_circles 31 = .ok (.ishl, 1) := by decide +kernel
theorem dX13_circles_32 : decode cX13_circles 32 = .ok (.iconst 1, 1) := by decide +kernel
theorem dX13_circles_33 : decode cX13_circles 33 = .ok (.isub, 1) := by decide +kernel
theorem dX13_circles_34 : decode cX13_circles 34 = .ok (.iand, 1) := by decide +kernel
theorem dX13_circles_35 : decode cX13_circles 35 = .ok (.ifCond .ne 7, 3) := by decide +kernel
theorem dX13_circles_38 : decode cX13_circles 38 = .ok (.iconst 1, 1) := by decide +kernel
theorem dX13_circles_39 : decode cX13_circles 39 = .ok (.goto 4, 3) := by decide +kernel
theorem dX13_circles_42 : decode cX13_circles 42 = .ok (.iconst 0, 1) := by decide +kernel
theorem dX13_circles_43 : decode cX13_circles 43 = .ok (.iadd, 1) := by decide +kernel
theorem dX13_circles_44 : decode cX13_circles 44 = .ok (.istore_n 1, 1) := by decide +kernel
theorem dX13_circles_45 : decode cX13_circles 45 = .ok (.iinc 2 1, 3) := by decide +kernel
theorem dX13_circles_48 : decode cX13_circles 48 = .ok (.goto (-35), 3) := by decide +kernel
theorem dX13_circles_51 : decode cX13_circles 51 = .ok (.iload_n 1, 1) := by decide +kernel
theorem dX13_circles_52 : decode cX13_circles 52 = .ok (.ireturn, 1) := by decide +kernel
set_option maxRecDepth 20000 in
theorem ggX13_circlesByReach_X13_circles : GoodIn wsX13_circlesByReach wsX13_circles := goodIn_ca (goodIn_r _ [5, 6, 7, 8, 9, 10, 4, 11, 12, 13, 14, 15, 16, 17, 18, 19, 20, 21, 22, 23, 24, 25, 26, 27, 28, 29, 30, 31, 32, 33, 34, 35, 36, 37, 38, 39, 40, 41, 42, 43, 44, 45, 46, 47, 48] rfl (by decide +kernel)) (goodIn_sub (fun _ h => List.mem_cons_of_mem _ (List.mem_append_right _ h)) (by decide +kernel))
set_option maxRecDepth 20000 in
theorem gX13_circlesByReach_X13_circles : GoodIn wsX13_circlesByReach (wsV RX13 166 RX13 yX13_circles wsX13_circles) := goodIn_app (goodIn_of _ (by decide +kernel)) ggX13_circlesByReach_X13_circles
theorem dX13_circlesByReach_0 : decode cX13_circlesByReach 0 = .ok (.aload_n 0, 1) := by decide +kernel
theorem dX13_circlesByReach_1 : decode cX13_circlesByReach 1 = .ok (.invokevirtual 166, 3) := by decide +kernel
theorem dX13_circlesByReach_4 : decode cX13_circlesByReach 4 = .ok (.ireturn, 1) := by decide +kernel
set_option maxRecDepth 20000 in
theorem ggX13_circleSize_X13_looks : GoodIn wsX13_circleSize wsX13_looks := goodIn_ca (goodIn_r _ [5, 6, 7, 8, 9, 4, 10, 11, 12, 13, 14, 30, 31, 32, 33, 34, 35, 36, 37, 38, 39, 40, 41, 42, 43, 44, 45, 46, 47, 48, 49, 50, 51, 52, 53, 54, 55, 56, 57, 58] rfl (by decide +kernel)) (goodIn_sub (fun _ h => List.mem_cons_of_mem _ (List.mem_append_right _ h)) (by decide +kernel))
set_option maxRecDepth 20000 in
theorem gX13_circleSize_X13_looks : GoodIn wsX13_circleSize (wsV RX13 129 RX13 yX13_looks wsX13_looks) := goodIn_app (goodIn_of _ (by decide +kernel)) ggX13_circleSize_X13_looks
set_option maxRecDepth 20000 in
theorem ggX13_circleSize_X13_reaches : GoodIn wsX13_circleSize wsX13_reaches := goodIn_ca (goodIn_r _ [18, 11, 19, 20, 21, 4, 22, 30, 31, 32, 33, 34, 35, 36, 37, 38, 39, 40, 41, 42, 43, 44, 45, 46, 47, 48, 49, 50, 51, 52, 53, 54, 55, 56, 57, 58] rfl (by decide +kernel)) (goodIn_sub (fun _ h => List.mem_cons_of_mem _ (List.mem_append_right _ h)) (by decide +kernel))
set_option maxRecDepth 20000 in
theorem gX13_circleSize_X13_reaches : GoodIn wsX13_circleSize (wsV RX13 160 RX13 yX13_reaches wsX13_reaches) := goodIn_app (goodIn_of _ (by decide +kernel)) ggX13_circleSize_X13_reaches
set_option maxRecDepth 20000 in
theorem ggX13_circleSize_X13_circle : GoodIn wsX13_circleSize wsX13_circle := goodIn_ca (goodIn_r _ [26, 11, 19, 30, 31, 32, 33, 34, 35, 36, 37, 38, 39, 40, 41, 42, 43, 44, 45, 46, 47, 48, 49, 50, 51, 52, 53, 54, 55, 56, 57, 58] rfl (by decide +kernel)) (goodIn_sub (fun _ h => List.mem_cons_of_mem _ (List.mem_append_right _ h)) (by decide +kernel))
set_option maxRecDepth 20000 in
theorem gX13_circleSize_X13_circle : GoodIn wsX13_circleSize (wsV RX13 163 RX13 yX13_circle wsX13_circle) := goodIn_app (goodIn_of _ (by decide +kernel)) ggX13_circleSize_X13_circle
set_option maxRecDepth 20000 in
theorem ggX13_circleSize_X13_count : GoodIn wsX13_circleSize wsX13_count := goodIn_r _ [29] rfl (by decide +kernel)
set_option maxRecDepth 20000 in
theorem gX13_circleSize_X13_count : GoodIn wsX13_circleSize (va_wsS RX13 145 yX13_count wsX13_count) := goodIn_app (goodIn_of _ (by decide +kernel)) ggX13_circleSize_X13_count
theorem dX13_circleSize_0 : decode cX13_circleSize 0 = .ok (.aload_n 0, 1) := by decide +kernel
theorem dX13_circleSize_1 : decode cX13_circleSize 1 = .ok (.iload_n 1, 1) := by decide +kernel
theorem dX13_circleSize_2 : decode cX13_circleSize 2 = .ok (.invokevirtual 129, 3) := by decide +kernel
theorem dX13_circleSize_5 : decode cX13_circleSize 5 = .ok (.ifCond .ne 5, 3) := by decide +kernel
theorem dX13_circleSize_8 : decode cX13_circleSize 8 = .ok (.iconst 0, 1) := by decide +kernel
theorem dX13_circleSize_9 : decode cX13_circleSize 9 = .ok (.ireturn, 1) := by decide +kernel
theorem dX13_circleSize_10 : decode cX13_circleSize 10 = .ok (.aload_n 0, 1) := by decide +kernel
theorem dX13_circleSize_11 : decode cX13_circleSize 11 = .ok (.invokevirtual 160, 3) := by decide +kernel
theorem dX13_circleSize_14 : decode cX13_circleSize 14 = .ok (.aload_n 0, 1) := by decide +kernel
theorem dX13_circleSize_15 : decode cX13_circleSize 15 = .ok (.iload_n 1, 1) := by decide +kernel
theorem dX13_circleSize_16 : decode cX13_circleSize 16 = .ok (.invokevirtual 163, 3) := by decide +kernel
theorem dX13_circleSize_19 : decode cX13_circleSize 19 = .ok (.invokestatic 145, 3) := by decide +kernel
theorem dX13_circleSize_22 : decode cX13_circleSize 22 = .ok (.ireturn, 1) := by decide +kernel
set_option maxRecDepth 20000 in
theorem ggX13_chains_X13_isClaim : GoodIn wsX13_chains wsX13_isClaim := goodIn_ca (goodIn_r _ [10, 3, 11, 12, 9, 13, 21, 22, 23, 24, 25, 26, 27, 28, 29, 30, 31, 32, 33, 34, 35, 36, 37, 38, 39, 40, 41, 42, 43, 44, 45, 46, 47, 48, 49] rfl (by decide +kernel)) (goodIn_sub (fun _ h => List.mem_cons_of_mem _ (List.mem_append_right _ h)) (by decide +kernel))
set_option maxRecDepth 20000 in
theorem gX13_chains_X13_isClaim : GoodIn wsX13_chains (wsV RX13 111 RX13 yX13_isClaim wsX13_isClaim) := goodIn_app (goodIn_of _ (by decide +kernel)) ggX13_chains_X13_isClaim
set_option maxRecDepth 20000 in
theorem ggX13_chains_X13_isIn : GoodIn wsX13_chains wsX13_isIn := goodIn_r _ [13] rfl (by decide +kernel)
set_option maxRecDepth 20000 in
theorem gX13_chains_X13_isIn : GoodIn wsX13_chains (va_wsS RX13 91 yX13_isIn wsX13_isIn) := goodIn_app (goodIn_of _ (by decide +kernel)) ggX13_chains_X13_isIn
set_option maxRecDepth 20000 in
theorem ggX13_chains_X13_hits : GoodIn wsX13_chains wsX13_hits := goodIn_ca (goodIn_r _ [17, 3, 18, 19, 9, 20, 21, 22, 23, 24, 25, 26, 27, 28, 29, 30, 31, 32, 33, 34, 35, 36, 37, 38, 39, 40, 41, 42, 43, 44, 45, 46, 47, 48, 49] rfl (by decide +kernel)) (goodIn_sub (fun _ h => List.mem_cons_of_mem _ (List.mem_append_right _ h)) (by decide +kernel))
set_option maxRecDepth 20000 in
theorem gX13_chains_X13_hits : GoodIn wsX13_chains (wsV RX13 115 RX13 yX13_hits wsX13_hits) := goodIn_app (goodIn_of _ (by decide +kernel)) ggX13_chains_X13_hits
theorem dX13_chains_0 : decode cX13_chains 0 = .ok (.aload_n 0, 1) := by decide +kernel
theorem dX13_chains_1 : decode cX13_chains 1 = .ok (.aload_n 0, 1) := by decide +kernel
theorem dX13_chains_2 : decode cX13_chains 2 = .ok (.iload_n 1, 1) := by decide +kernel
theorem dX13_chains_3 : decode cX13_chains 3 = .ok (.invokevirtual 111, 3) := by decide +kernel
theorem dX13_chains_6 : decode cX13_chains 6 = .ok (.ifCond .eq 11, 3) := by decide +kernel
theorem dX13_chains_9 : decode cX13_chains 9 = .ok (.aload_n 0, 1) := by decide +kernel
theorem dX13_chains_10 : decode cX13_chains 10 = .ok (.iload_n 2, 1) := by decide +kernel
theorem dX13_chains_11 : decode cX13_chains 11 = .ok (.invokevirtual 111, 3) := by decide +kernel
theorem dX13_chains_14 : decode cX13_chains 14 = .ok (.ifCond .ne 7, 3) := by decide +kernel
theorem dX13_chains_17 : decode cX13_chains 17 = .ok (.iconst 1, 1) := by decide +kernel
theorem dX13_chains_18 : decode cX13_chains 18 = .ok (.goto 19, 3) := by decide +kernel
theorem dX13_chains_21 : decode cX13_chains 21 = .ok (.iload_n 3, 1) := by decide +kernel
theorem dX13_chains_22 : decode cX13_chains 22 = .ok (.iconst 0, 1) := by decide +kernel
theorem dX13_chains_23 : decode cX13_chains 23 = .ok (.sipush 999, 3) := by decide +kernel
theorem dX13_chains_26 : decode cX13_chains 26 = .ok (.invokestatic 91, 3) := by decide +kernel
theorem dX13_chains_29 : decode cX13_chains 29 = .ok (.ifCond .eq 7, 3) := by decide +kernel
theorem dX13_chains_32 : decode cX13_chains 32 = .ok (.iconst 0, 1) := by decide +kernel
theorem dX13_chains_33 : decode cX13_chains 33 = .ok (.goto 4, 3) := by decide +kernel
theorem dX13_chains_36 : decode cX13_chains 36 = .ok (.iconst 2, 1) := by decide +kernel
theorem dX13_chains_37 : decode cX13_chains 37 = .ok (.putfield 77, 3) := by decide +kernel
theorem dX13_chains_40 : decode cX13_chains 40 = .ok (.aload_n 0, 1) := by decide +kernel
theorem dX13_chains_41 : decode cX13_chains 41 = .ok (.getfield 77, 3) := by decide +kernel
theorem dX13_chains_44 : decode cX13_chains 44 = .ok (.ifCond .eq 5, 3) := by decide +kernel
theorem dX13_chains_47 : decode cX13_chains 47 = .ok (.iconst 0, 1) := by decide +kernel
theorem dX13_chains_48 : decode cX13_chains 48 = .ok (.ireturn, 1) := by decide +kernel
theorem dX13_chains_49 : decode cX13_chains 49 = .ok (.iconst 0, 1) := by decide +kernel
theorem dX13_chains_50 : decode cX13_chains 50 = .ok (.istore 4, 2) := by decide +kernel
theorem dX13_chains_52 : decode cX13_chains 52 = .ok (.iload 4, 2) := by decide +kernel
theorem dX13_chains_54 : decode cX13_chains 54 = .ok (.bipush 10, 2) := by decide +kernel
theorem dX13_chains_56 : decode cX13_chains 56 = .ok (.if_icmp .ge 27, 3) := by decide +kernel
theorem dX13_chains_59 : decode cX13_chains 59 = .ok (.aload_n 0, 1) := by decide +kernel
theorem dX13_chains_60 : decode cX13_chains 60 = .ok (.getfield 51, 3) := by decide +kernel
theorem dX13_chains_63 : decode cX13_chains 63 = .ok (.iload 4, 2) := by decide +kernel
theorem dX13_chains_65 : decode cX13_chains 65 = .ok (.iload 4, 2) := by decide +kernel
theorem dX13_chains_67 : decode cX13_chains 67 = .ok (.iload_n 1, 1) := by decide +kernel
theorem dX13_chains_68 : decode cX13_chains 68 = .ok (.if_icmp .ne 7, 3) := by decide +kernel
theorem dX13_chains_71 : decode cX13_chains 71 = .ok (.lconst 1, 1) := by decide +kernel
theorem dX13_chains_72 : decode cX13_chains 72 = .ok (.goto 4, 3) := by decide +kernel
theorem dX13_chains_75 : decode cX13_chains 75 = .ok (.lconst 0, 1) := by decide +kernel
theorem dX13_chains_76 : decode cX13_chains 76 = .ok (.lastore, 1) := by decide +kernel
theorem dX13_chains_77 : decode cX13_chains 77 = .ok (.iinc 4 1, 3) := by decide +kernel
theorem dX13_chains_80 : decode cX13_chains 80 = .ok (.goto (-28), 3) := by decide +kernel
theorem dX13_chains_83 : decode cX13_chains 83 = .ok (.iconst 0, 1) := by decide +kernel
theorem dX13_chains_84 : decode cX13_chains 84 = .ok (.istore 4, 2) := by decide +kernel
theorem dX13_chains_86 : decode cX13_chains 86 = .ok (.iload 4, 2) := by decide +kernel
theorem dX13_chains_88 : decode cX13_chains 88 = .ok (.iload_n 3, 1) := by decide +kernel
theorem dX13_chains_89 : decode cX13_chains 89 = .ok (.if_icmp .ge 127, 3) := by decide +kernel
theorem dX13_chains_92 : decode cX13_chains 92 = .ok (.iconst 0, 1) := by decide +kernel
theorem dX13_chains_93 : decode cX13_chains 93 = .ok (.istore 5, 2) := by decide +kernel
theorem dX13_chains_95 : decode cX13_chains 95 = .ok (.iload 5, 2) := by decide +kernel
theorem dX13_chains_97 : decode cX13_chains 97 = .ok (.aload_n 0, 1) := by decide +kernel
theorem dX13_chains_98 : decode cX13_chains 98 = .ok (.getfield 16, 3) := by decide +kernel
theorem dX13_chains_101 : decode cX13_chains 101 = .ok (.iconst 0, 1) := by decide +kernel
theorem dX13_chains_102 : decode cX13_chains 102 = .ok (.iaload, 1) := by decide +kernel
theorem dX13_chains_103 : decode cX13_chains 103 = .ok (.if_icmp .ge 69, 3) := by decide +kernel
theorem dX13_chains_106 : decode cX13_chains 106 = .ok (.aload_n 0, 1) := by decide +kernel
theorem dX13_chains_107 : decode cX13_chains 107 = .ok (.getfield 55, 3) := by decide +kernel
theorem dX13_chains_110 : decode cX13_chains 110 = .ok (.iload 5, 2) := by decide +kernel
theorem dX13_chains_112 : decode cX13_chains 112 = .ok (.lconst 0, 1) := by decide +kernel
theorem dX13_chains_113 : decode cX13_chains 113 = .ok (.lastore, 1) := by decide +kernel
theorem dX13_chains_114 : decode cX13_chains 114 = .ok (.iconst 0, 1) := by decide +kernel
theorem dX13_chains_115 : decode cX13_chains 115 = .ok (.istore 6, 2) := by decide +kernel
theorem dX13_chains_117 : decode cX13_chains 117 = .ok (.iload 6, 2) := by decide +kernel
theorem dX13_chains_119 : decode cX13_chains 119 = .ok (.aload_n 0, 1) := by decide +kernel
theorem dX13_chains_120 : decode cX13_chains 120 = .ok (.getfield 16, 3) := by decide +kernel
theorem dX13_chains_123 : decode cX13_chains 123 = .ok (.iconst 0, 1) := by decide +kernel
theorem dX13_chains_124 : decode cX13_chains 124 = .ok (.iaload, 1) := by decide +kernel
theorem dX13_chains_125 : decode cX13_chains 125 = .ok (.if_icmp .ge 41, 3) := by decide +kernel
theorem dX13_chains_128 : decode cX13_chains 128 = .ok (.aload_n 0, 1) := by decide +kernel
theorem dX13_chains_129 : decode cX13_chains 129 = .ok (.getfield 55, 3) := by decide +kernel
theorem dX13_chains_132 : decode cX13_chains 132 = .ok (.iload 5, 2) := by decide +kernel
theorem dX13_chains_134 : decode cX13_chains 134 = .ok (.dup2, 1) := by decide +kernel
theorem dX13_chains_135 : decode cX13_chains 135 = .ok (.laload, 1) := by decide +kernel
theorem dX13_chains_136 : decode cX13_chains 136 = .ok (.aload_n 0, 1) := by decide +kernel
theorem dX13_chains_137 : decode cX13_chains 137 = .ok (.iload 6, 2) := by decide +kernel
theorem dX13_chains_139 : decode cX13_chains 139 = .ok (.iload 5, 2) := by decide +kernel
theorem dX13_chains_141 : decode cX13_chains 141 = .ok (.invokevirtual 115, 3) := by decide +kernel
theorem dX13_chains_144 : decode cX13_chains 144 = .ok (.ifCond .eq 13, 3) := by decide +kernel
theorem dX13_chains_147 : decode cX13_chains 147 = .ok (.aload_n 0, 1) := by decide +kernel
theorem dX13_chains_148 : decode cX13_chains 148 = .ok (.getfield 51, 3) := by decide +kernel
theorem dX13_chains_151 : decode cX13_chains 151 = .ok (.iload 6, 2) := by decide +kernel
theorem dX13_chains_153 : decode cX13_chains 153 = .ok (.laload, 1) := by decide +kernel
theorem dX13_chains_154 : decode cX13_chains 154 = .ok (.goto 4, 3) := by decide +kernel
theorem dX13_chains_157 : decode cX13_chains 157 = .ok (.lconst 0, 1) := by decide +kernel
theorem dX13_chains_158 : decode cX13_chains 158 = .ok (.ladd, 1) := by decide +kernel
theorem dX13_chains_159 : decode cX13_chains 159 = .ok (.lastore, 1) := by decide +kernel
theorem dX13_chains_160 : decode cX13_chains 160 = .ok (.iinc 6 1, 3) := by decide +kernel
theorem dX13_chains_163 : decode cX13_chains 163 = .ok (.goto (-46), 3) := by decide +kernel
theorem dX13_chains_166 : decode cX13_chains 166 = .ok (.iinc 5 1, 3) := by decide +kernel
theorem dX13_chains_169 : decode cX13_chains 169 = .ok (.goto (-74), 3) := by decide +kernel
theorem dX13_chains_172 : decode cX13_chains 172 = .ok (.iconst 0, 1) := by decide +kernel
theorem dX13_chains_173 : decode cX13_chains 173 = .ok (.istore 5, 2) := by decide +kernel
theorem dX13_chains_175 : decode cX13_chains 175 = .ok (.iload 5, 2) := by decide +kernel
theorem dX13_chains_177 : decode cX13_chains 177 = .ok (.aload_n 0, 1) := by decide +kernel
theorem dX13_chains_178 : decode cX13_chains 178 = .ok (.getfield 16, 3) := by decide +kernel
theorem dX13_chains_181 : decode cX13_chains 181 = .ok (.iconst 0, 1) := by decide +kernel
theorem dX13_chains_182 : decode cX13_chains 182 = .ok (.iaload, 1) := by decide +kernel
theorem dX13_chains_183 : decode cX13_chains 183 = .ok (.if_icmp .ge 27, 3) := by decide +kernel
theorem dX13_chains_186 : decode cX13_chains 186 = .ok (.aload_n 0, 1) := by decide +kernel
theorem dX13_chains_187 : decode cX13_chains 187 = .ok (.getfield 51, 3) := by decide +kernel
theorem dX13_chains_190 : decode cX13_chains 190 = .ok (.iload 5, 2) := by decide +kernel
theorem dX13_chains_192 : decode cX13_chains 192 = .ok (.aload_n 0, 1) := by decide +kernel
theorem dX13_chains_193 : decode cX13_chains 193 = .ok (.getfield 55, 3) := by decide +kernel
theorem dX13_chains_196 : decode cX13_chains 196 = .ok (.iload 5, 2) := by decide +kernel
theorem dX13_chains_198 : decode cX13_chains 198 = .ok (.laload, 1) := by decide +kernel
theorem dX13_chains_199 : decode cX13_chains 199 = .ok (.ldc2_w 169, 3) := by decide +kernel
theorem dX13_chains_202 : decode cX13_chains 202 = .ok (.lrem, 1) := by decide +kernel
theorem dX13_chains_203 : decode cX13_chains 203 = .ok (.lastore, 1) := by decide +kernel
theorem dX13_chains_204 : decode cX13_chains 204 = .ok (.iinc 5 1, 3) := by decide +kernel
theorem dX13_chains_207 : decode cX13_chains 207 = .ok (.goto (-32), 3) := by decide +kernel
theorem dX13_chains_210 : decode cX13_chains 210 = .ok (.iinc 4 1, 3) := by decide +kernel
theorem dX13_chains_213 : decode cX13_chains 213 = .ok (.goto (-127), 3) := by decide +kernel
theorem dX13_chains_216 : decode cX13_chains 216 = .ok (.aload_n 0, 1) := by decide +kernel
theorem dX13_chains_217 : decode cX13_chains 217 = .ok (.getfield 51, 3) := by decide +kernel
theorem dX13_chains_220 : decode cX13_chains 220 = .ok (.iload_n 2, 1) := by decide +kernel
theorem dX13_chains_221 : decode cX13_chains 221 = .ok (.laload, 1) := by decide +kernel
theorem dX13_chains_222 : decode cX13_chains 222 = .ok (.l2i, 1) := by decide +kernel
theorem dX13_chains_223 : decode cX13_chains 223 = .ok (.ireturn, 1) := by decide +kernel
set_option maxRecDepth 20000 in
theorem ggX13_chainsBySteps_X13_chains : GoodIn wsX13_chainsBySteps wsX13_chains := goodIn_ca (goodIn_r _ [5, 6, 7, 8, 9, 10, 11, 12, 13, 4, 14, 15, 16, 17, 18, 19, 20, 21, 22, 23, 24, 25, 26, 27, 28, 29, 30, 31, 32, 33, 34, 35, 36, 37, 38, 39, 40, 41, 42, 43, 44, 45, 46, 47, 48, 49, 50, 51, 52, 53] rfl (by decide +kernel)) (goodIn_sub (fun _ h => List.mem_cons_of_mem _ (List.mem_append_right _ h)) (by decide +kernel))
set_option maxRecDepth 20000 in
theorem gX13_chainsBySteps_X13_chains : GoodIn wsX13_chainsBySteps (wsV RX13 171 RX13 yX13_chains wsX13_chains) := goodIn_app (goodIn_of _ (by decide +kernel)) ggX13_chainsBySteps_X13_chains
theorem dX13_chainsBySteps_0 : decode cX13_chainsBySteps 0 = .ok (.aload_n 0, 1) := by decide +kernel
theorem dX13_chainsBySteps_1 : decode cX13_chainsBySteps 1 = .ok (.iload_n 1, 1) := by decide +kernel
theorem dX13_chainsBySteps_2 : decode cX13_chainsBySteps 2 = .ok (.iload_n 2, 1) := by decide +kernel
theorem dX13_chainsBySteps_3 : decode cX13_chainsBySteps 3 = .ok (.iload_n 3, 1) := by decide +kernel
theorem dX13_chainsBySteps_4 : decode cX13_chainsBySteps 4 = .ok (.invokevirtual 171, 3) := by decide +kernel
theorem dX13_chainsBySteps_7 : decode cX13_chainsBySteps 7 = .ok (.ireturn, 1) := by decide +kernel
set_option maxRecDepth 20000 in
theorem ggX13_isLayer_X13_isIn : GoodIn wsX13_isLayer wsX13_isIn := goodIn_r _ [4] rfl (by decide +kernel)
set_option maxRecDepth 20000 in
theorem gX13_isLayer_X13_isIn : GoodIn wsX13_isLayer (va_wsS RX13 91 yX13_isIn wsX13_isIn) := goodIn_app (goodIn_of _ (by decide +kernel)) ggX13_isLayer_X13_isIn
theorem dX13_isLayer_0 : decode cX13_isLayer 0 = .ok (.iload_n 0, 1) := by decide +kernel
theorem dX13_isLayer_1 : decode cX13_isLayer 1 = .ok (.iconst 0, 1) := by decide +kernel
theorem dX13_isLayer_2 : decode cX13_isLayer 2 = .ok (.iconst 3, 1) := by decide +kernel
theorem dX13_isLayer_3 : decode cX13_isLayer 3 = .ok (.invokestatic 91, 3) := by decide +kernel
theorem dX13_isLayer_6 : decode cX13_isLayer 6 = .ok (.ireturn, 1) := by decide +kernel
set_option maxRecDepth 20000 in
theorem ggX13_depth_X13_rackAt : GoodIn wsX13_depth wsX13_rackAt := goodIn_r _ [5] rfl (by decide +kernel)
set_option maxRecDepth 20000 in
theorem gX13_depth_X13_rackAt : GoodIn wsX13_depth (va_wsS RX13 73 yX13_rackAt wsX13_rackAt) := goodIn_app (goodIn_of _ (by decide +kernel)) ggX13_depth_X13_rackAt
theorem dX13_depth_0 : decode cX13_depth 0 = .ok (.iconst 0, 1) := by decide +kernel
theorem dX13_depth_1 : decode cX13_depth 1 = .ok (.istore_n 2, 1) := by decide +kernel
theorem dX13_depth_2 : decode cX13_depth 2 = .ok (.iconst 1, 1) := by decide +kernel
theorem dX13_depth_3 : decode cX13_depth 3 = .ok (.istore_n 3, 1) := by decide +kernel
theorem dX13_depth_4 : decode cX13_depth 4 = .ok (.iload_n 3, 1) := by decide +kernel
theorem dX13_depth_5 : decode cX13_depth 5 = .ok (.iconst 3, 1) := by decide +kernel
theorem dX13_depth_6 : decode cX13_depth 6 = .ok (.if_icmp .gt 51, 3) := by decide +kernel
theorem dX13_depth_9 : decode cX13_depth 9 = .ok (.iload_n 2, 1) := by decide +kernel
theorem dX13_depth_10 : decode cX13_depth 10 = .ok (.aload_n 0, 1) := by decide +kernel
theorem dX13_depth_11 : decode cX13_depth 11 = .ok (.getfield 16, 3) := by decide +kernel
theorem dX13_depth_14 : decode cX13_depth 14 = .ok (.iload_n 1, 1) := by decide +kernel
theorem dX13_depth_15 : decode cX13_depth 15 = .ok (.iload_n 3, 1) := by decide +kernel
theorem dX13_depth_16 : decode cX13_depth 16 = .ok (.invokestatic 73, 3) := by decide +kernel
theorem dX13_depth_19 : decode cX13_depth 19 = .ok (.iaload, 1) := by decide +kernel
theorem dX13_depth_20 : decode cX13_depth 20 = .ok (.bipush 113, 2) := by decide +kernel
theorem dX13_depth_22 : decode cX13_depth 22 = .ok (.if_icmp .ne 7, 3) := by decide +kernel
theorem dX13_depth_25 : decode cX13_depth 25 = .ok (.iconst 2, 1) := by decide +kernel
theorem dX13_depth_26 : decode cX13_depth 26 = .ok (.goto 23, 3) := by decide +kernel
theorem dX13_depth_29 : decode cX13_depth 29 = .ok (.aload_n 0, 1) := by decide +kernel
theorem dX13_depth_30 : decode cX13_depth 30 = .ok (.getfield 16, 3) := by decide +kernel
theorem dX13_depth_33 : decode cX13_depth 33 = .ok (.iload_n 1, 1) := by decide +kernel
theorem dX13_depth_34 : decode cX13_depth 34 = .ok (.iload_n 3, 1) := by decide +kernel
theorem dX13_depth_35 : decode cX13_depth 35 = .ok (.invokestatic 73, 3) := by decide +kernel
theorem dX13_depth_38 : decode cX13_depth 38 = .ok (.iaload, 1) := by decide +kernel
theorem dX13_depth_39 : decode cX13_depth 39 = .ok (.bipush 111, 2) := by decide +kernel
theorem dX13_depth_41 : decode cX13_depth 41 = .ok (.if_icmp .ne 7, 3) := by decide +kernel
theorem dX13_depth_44 : decode cX13_depth 44 = .ok (.iconst 3, 1) := by decide +kernel
theorem dX13_depth_45 : decode cX13_depth 45 = .ok (.goto 4, 3) := by decide +kernel
theorem dX13_depth_48 : decode cX13_depth 48 = .ok (.iconst 0, 1) := by decide +kernel
theorem dX13_depth_49 : decode cX13_depth 49 = .ok (.iadd, 1) := by decide +kernel
theorem dX13_depth_50 : decode cX13_depth 50 = .ok (.istore_n 2, 1) := by decide +kernel
theorem dX13_depth_51 : decode cX13_depth 51 = .ok (.iinc 3 1, 3) := by decide +kernel
theorem dX13_depth_54 : decode cX13_depth 54 = .ok (.goto (-50), 3) := by decide +kernel
theorem dX13_depth_57 : decode cX13_depth 57 = .ok (.iload_n 2, 1) := by decide +kernel
theorem dX13_depth_58 : decode cX13_depth 58 = .ok (.ireturn, 1) := by decide +kernel
set_option maxRecDepth 20000 in
theorem ggX13_racks_X13_isLayer : GoodIn wsX13_racks wsX13_isLayer := goodIn_r _ [5, 6, 7, 4, 8] rfl (by decide +kernel)
set_option maxRecDepth 20000 in
theorem gX13_racks_X13_isLayer : GoodIn wsX13_racks (va_wsS RX13 175 yX13_isLayer wsX13_isLayer) := goodIn_app (goodIn_of _ (by decide +kernel)) ggX13_racks_X13_isLayer
set_option maxRecDepth 20000 in
theorem ggX13_racks_X13_fail : GoodIn wsX13_racks wsX13_fail := goodIn_r _ [12, 13, 21, 22, 23, 24, 25, 26, 27, 28, 29, 30, 31, 32, 33, 34, 35, 36, 37, 38, 39, 40, 41, 42, 43, 44, 45, 46, 47, 48, 49] rfl (by decide +kernel)
set_option maxRecDepth 20000 in
theorem gX13_racks_X13_fail : GoodIn wsX13_racks (wsV RX13 98 RX13 yX13_fail wsX13_fail) := goodIn_app (goodIn_of _ (by decide +kernel)) ggX13_racks_X13_fail
set_option maxRecDepth 20000 in
theorem ggX13_racks_X13_depth : GoodIn wsX13_racks wsX13_depth := goodIn_ca (goodIn_r _ [17, 1, 18, 19, 4, 20, 21, 22, 23, 24, 25, 26, 27, 28, 29, 30, 31, 32, 33, 34, 35, 36, 37, 38, 39, 40, 41, 42, 43, 44, 45, 46, 47, 48, 49] rfl (by decide +kernel)) (goodIn_sub (fun _ h => List.mem_cons_of_mem _ (List.mem_append_right _ h)) (by decide +kernel))
set_option maxRecDepth 20000 in
theorem gX13_racks_X13_depth : GoodIn wsX13_racks (wsV RX13 178 RX13 yX13_depth wsX13_depth) := goodIn_app (goodIn_of _ (by decide +kernel)) ggX13_racks_X13_depth
set_option maxRecDepth 20000 in
theorem ggX13_racks_X13_rackAt : GoodIn wsX13_racks wsX13_rackAt := goodIn_r _ [20] rfl (by decide +kernel)
set_option maxRecDepth 20000 in
theorem gX13_racks_X13_rackAt : GoodIn wsX13_racks (va_wsS RX13 73 yX13_rackAt wsX13_rackAt) := goodIn_app (goodIn_of _ (by decide +kernel)) ggX13_racks_X13_rackAt
theorem dX13_racks_0 : decode cX13_racks 0 = .ok (.iload_n 1, 1) := by decide +kernel
theorem dX13_racks_1 : decode cX13_racks 1 = .ok (.invokestatic 175, 3) := by decide +kernel
theorem dX13_racks_4 : decode cX13_racks 4 = .ok (.ifCond .ne 9, 3) := by decide +kernel
theorem dX13_racks_7 : decode cX13_racks 7 = .ok (.aload_n 0, 1) := by decide +kernel
theorem dX13_racks_8 : decode cX13_racks 8 = .ok (.iconst 1, 1) := by decide +kernel
theorem dX13_racks_9 : decode cX13_racks 9 = .ok (.invokevirtual 98, 3) := by decide +kernel
theorem dX13_racks_12 : decode cX13_racks 12 = .ok (.ireturn, 1) := by decide +kernel
theorem dX13_racks_13 : decode cX13_racks 13 = .ok (.iload_n 2, 1) := by decide +kernel
theorem dX13_racks_14 : decode cX13_racks 14 = .ok (.bipush 113, 2) := by decide +kernel
theorem dX13_racks_16 : decode cX13_racks 16 = .ok (.if_icmp .eq 21, 3) := by decide +kernel
theorem dX13_racks_19 : decode cX13_racks 19 = .ok (.iload_n 2, 1) := by decide +kernel
theorem dX13_racks_20 : decode cX13_racks 20 = .ok (.bipush 111, 2) := by decide +kernel
theorem dX13_racks_22 : decode cX13_racks 22 = .ok (.if_icmp .eq 15, 3) := by decide +kernel
theorem dX13_racks_25 : decode cX13_racks 25 = .ok (.iload_n 2, 1) := by decide +kernel
theorem dX13_racks_26 : decode cX13_racks 26 = .ok (.bipush 97, 2) := by decide +kernel
theorem dX13_racks_28 : decode cX13_racks 28 = .ok (.if_icmp .eq 9, 3) := by decide +kernel
theorem dX13_racks_31 : decode cX13_racks 31 = .ok (.aload_n 0, 1) := by decide +kernel
theorem dX13_racks_32 : decode cX13_racks 32 = .ok (.iconst 2, 1) := by decide +kernel
theorem dX13_racks_33 : decode cX13_racks 33 = .ok (.invokevirtual 98, 3) := by decide +kernel
theorem dX13_racks_36 : decode cX13_racks 36 = .ok (.ireturn, 1) := by decide +kernel
theorem dX13_racks_37 : decode cX13_racks 37 = .ok (.aload_n 0, 1) := by decide +kernel
theorem dX13_racks_38 : decode cX13_racks 38 = .ok (.iload_n 1, 1) := by decide +kernel
theorem dX13_racks_39 : decode cX13_racks 39 = .ok (.invokevirtual 178, 3) := by decide +kernel
theorem dX13_racks_42 : decode cX13_racks 42 = .ok (.ifCond .le 9, 3) := by decide +kernel
theorem dX13_racks_45 : decode cX13_racks 45 = .ok (.aload_n 0, 1) := by decide +kernel
theorem dX13_racks_46 : decode cX13_racks 46 = .ok (.iconst 3, 1) := by decide +kernel
theorem dX13_racks_47 : decode cX13_racks 47 = .ok (.invokevirtual 98, 3) := by decide +kernel
theorem dX13_racks_50 : decode cX13_racks 50 = .ok (.ireturn, 1) := by decide +kernel
theorem dX13_racks_51 : decode cX13_racks 51 = .ok (.aload_n 0, 1) := by decide +kernel
theorem dX13_racks_52 : decode cX13_racks 52 = .ok (.getfield 16, 3) := by decide +kernel
theorem dX13_racks_55 : decode cX13_racks 55 = .ok (.iload_n 1, 1) := by decide +kernel
theorem dX13_racks_56 : decode cX13_racks 56 = .ok (.iconst 0, 1) := by decide +kernel
theorem dX13_racks_57 : decode cX13_racks 57 = .ok (.invokestatic 73, 3) := by decide +kernel
theorem dX13_racks_60 : decode cX13_racks 60 = .ok (.iaload, 1) := by decide +kernel
theorem dX13_racks_61 : decode cX13_racks 61 = .ok (.istore_n 3, 1) := by decide +kernel
theorem dX13_racks_62 : decode cX13_racks 62 = .ok (.aload_n 0, 1) := by decide +kernel
theorem dX13_racks_63 : decode cX13_racks 63 = .ok (.getfield 16, 3) := by decide +kernel
theorem dX13_racks_66 : decode cX13_racks 66 = .ok (.iload_n 1, 1) := by decide +kernel
theorem dX13_racks_67 : decode cX13_racks 67 = .ok (.iconst 0, 1) := by decide +kernel
theorem dX13_racks_68 : decode cX13_racks 68 = .ok (.invokestatic 73, 3) := by decide +kernel
theorem dX13_racks_71 : decode cX13_racks 71 = .ok (.iload_n 2, 1) := by decide +kernel
theorem dX13_racks_72 : decode cX13_racks 72 = .ok (.iastore, 1) := by decide +kernel
theorem dX13_racks_73 : decode cX13_racks 73 = .ok (.iload_n 3, 1) := by decide +kernel
theorem dX13_racks_74 : decode cX13_racks 74 = .ok (.ireturn, 1) := by decide +kernel
set_option maxRecDepth 20000 in
theorem ggX13_setRack_X13_begins : GoodIn wsX13_setRack wsX13_begins := goodIn_ca (goodIn_r _ [5, 6, 7, 8, 9, 10, 11, 12, 4, 13, 14, 15, 16, 45, 46, 47, 48, 49, 50, 51, 52, 53, 54, 55, 56, 57, 58, 59, 60, 61, 62, 63, 64, 65, 66, 67, 68, 69, 70, 71, 72, 73] rfl (by decide +kernel)) (goodIn_sub (fun _ h => List.mem_cons_of_mem _ (List.mem_append_right _ h)) (by decide +kernel))
set_option maxRecDepth 20000 in
theorem gX13_setRack_X13_begins : GoodIn wsX13_setRack (wsV RX13 102 RX13 yX13_begins wsX13_begins) := goodIn_app (goodIn_of _ (by decide +kernel)) ggX13_setRack_X13_begins
set_option maxRecDepth 20000 in
theorem ggX13_setRack_X13_racks : GoodIn wsX13_setRack wsX13_racks := goodIn_ca (goodIn_r _ [20, 8, 21, 22, 4, 23, 24, 25, 26, 27, 28, 29, 30, 6, 31, 32, 33, 34, 35, 36, 37, 45, 46, 47, 48, 49, 50, 51, 52, 53, 54, 55, 56, 57, 58, 59, 60, 61, 62, 63, 64, 65, 66, 67, 68, 69, 70, 71, 72, 73] rfl (by decide +kernel)) (goodIn_sub (fun _ h => List.mem_cons_of_mem _ (List.mem_append_right _ h)) (by decide +kernel))
set_option maxRecDepth 20000 in
theorem gX13_setRack_X13_racks : GoodIn wsX13_setRack (wsV RX13 181 RX13 yX13_racks wsX13_racks) := goodIn_app (goodIn_of _ (by decide +kernel)) ggX13_setRack_X13_racks
set_option maxRecDepth 20000 in
theorem ggX13_setRack_X13_ends : GoodIn wsX13_setRack wsX13_ends := goodIn_ca (goodIn_r _ [41, 6, 8, 7, 10, 9, 42, 43, 44, 11, 12, 4, 13, 14, 15, 16, 45, 46, 47, 48, 49, 50, 51, 52, 53, 54, 55, 56, 57, 58, 59, 60, 61, 62, 63, 64, 65, 66, 67, 68, 69, 70, 71, 72, 73] rfl (by decide +kernel)) (goodIn_sub (fun _ h => List.mem_cons_of_mem _ (List.mem_append_right _ h)) (by decide +kernel))
set_option maxRecDepth 20000 in
theorem gX13_setRack_X13_ends : GoodIn wsX13_setRack (wsV RX13 108 RX13 yX13_ends wsX13_ends) := goodIn_app (goodIn_of _ (by decide +kernel)) ggX13_setRack_X13_ends
theorem dX13_setRack_0 : decode cX13_setRack 0 = .ok (.aload_n 0, 1) := by decide +kernel
theorem dX13_setRack_1 : decode cX13_setRack 1 = .ok (.invokevirtual 102, 3) := by decide +kernel
theorem dX13_setRack_4 : decode cX13_setRack 4 = .ok (.aload_n 0, 1) := by decide +kernel
theorem dX13_setRack_5 : decode cX13_setRack 5 = .ok (.aload_n 0, 1) := by decide +kernel
theorem dX13_setRack_6 : decode cX13_setRack 6 = .ok (.iload_n 1, 1) := by decide +kernel
theorem dX13_setRack_7 : decode cX13_setRack 7 = .ok (.iload_n 2, 1) := by decide +kernel
theorem dX13_setRack_8 : decode cX13_setRack 8 = .ok (.invokevirtual 181, 3) := by decide +kernel
theorem dX13_setRack_11 : decode cX13_setRack 11 = .ok (.invokevirtual 108, 3) := by decide +kernel
theorem dX13_setRack_14 : decode cX13_setRack 14 = .ok (.i2c, 1) := by decide +kernel
theorem dX13_setRack_15 : decode cX13_setRack 15 = .ok (.ireturn, 1) := by decide +kernel
set_option maxRecDepth 20000 in
theorem ggX13_canHold_X13_rackAt : GoodIn wsX13_canHold wsX13_rackAt := goodIn_r _ [5] rfl (by decide +kernel)
set_option maxRecDepth 20000 in
theorem gX13_canHold_X13_rackAt : GoodIn wsX13_canHold (va_wsS RX13 73 yX13_rackAt wsX13_rackAt) := goodIn_app (goodIn_of _ (by decide +kernel)) ggX13_canHold_X13_rackAt
theorem dX13_canHold_0 : decode cX13_canHold 0 = .ok (.aload_n 0, 1) := by decide +kernel
theorem dX13_canHold_1 : decode cX13_canHold 1 = .ok (.getfield 16, 3) := by decide +kernel
theorem dX13_canHold_4 : decode cX13_canHold 4 = .ok (.iload_n 1, 1) := by decide +kernel
theorem dX13_canHold_5 : decode cX13_canHold 5 = .ok (.iconst 0, 1) := by decide +kernel
theorem dX13_canHold_6 : decode cX13_canHold 6 = .ok (.invokestatic 73, 3) := by decide +kernel
theorem dX13_canHold_9 : decode cX13_canHold 9 = .ok (.iaload, 1) := by decide +kernel
theorem dX13_canHold_10 : decode cX13_canHold 10 = .ok (.bipush 97, 2) := by decide +kernel
theorem dX13_canHold_12 : decode cX13_canHold 12 = .ok (.if_icmp .eq 17, 3) := by decide +kernel
theorem dX13_canHold_15 : decode cX13_canHold 15 = .ok (.aload_n 0, 1) := by decide +kernel
theorem dX13_canHold_16 : decode cX13_canHold 16 = .ok (.getfield 16, 3) := by decide +kernel
theorem dX13_canHold_19 : decode cX13_canHold 19 = .ok (.iload_n 1, 1) := by decide +kernel
theorem dX13_canHold_20 : decode cX13_canHold 20 = .ok (.iconst 0, 1) := by decide +kernel
theorem dX13_canHold_21 : decode cX13_canHold 21 = .ok (.invokestatic 73, 3) := by decide +kernel
theorem dX13_canHold_24 : decode cX13_canHold 24 = .ok (.iaload, 1) := by decide +kernel
theorem dX13_canHold_25 : decode cX13_canHold 25 = .ok (.iload_n 2, 1) := by decide +kernel
theorem dX13_canHold_26 : decode cX13_canHold 26 = .ok (.if_icmp .ne 7, 3) := by decide +kernel
theorem dX13_canHold_29 : decode cX13_canHold 29 = .ok (.iconst 1, 1) := by decide +kernel
theorem dX13_canHold_30 : decode cX13_canHold 30 = .ok (.goto 4, 3) := by decide +kernel
theorem dX13_canHold_33 : decode cX13_canHold 33 = .ok (.iconst 0, 1) := by decide +kernel
theorem dX13_canHold_34 : decode cX13_canHold 34 = .ok (.ireturn, 1) := by decide +kernel
set_option maxRecDepth 20000 in
theorem ggX13_inserts_X13_isLayer : GoodIn wsX13_inserts wsX13_isLayer := goodIn_r _ [5, 6, 7, 4, 8] rfl (by decide +kernel)
set_option maxRecDepth 20000 in
theorem gX13_inserts_X13_isLayer : GoodIn wsX13_inserts (va_wsS RX13 175 yX13_isLayer wsX13_isLayer) := goodIn_app (goodIn_of _ (by decide +kernel)) ggX13_inserts_X13_isLayer
set_option maxRecDepth 20000 in
theorem ggX13_inserts_X13_isIn : GoodIn wsX13_inserts wsX13_isIn := goodIn_r _ [8] rfl (by decide +kernel)
set_option maxRecDepth 20000 in
theorem gX13_inserts_X13_isIn : GoodIn wsX13_inserts (va_wsS RX13 91 yX13_isIn wsX13_isIn) := goodIn_app (goodIn_of _ (by decide +kernel)) ggX13_inserts_X13_isIn
set_option maxRecDepth 20000 in
theorem ggX13_inserts_X13_fail : GoodIn wsX13_inserts wsX13_fail := goodIn_r _ [12, 13, 29, 30, 31, 32, 33, 34, 35, 36, 37, 38, 39, 40, 41, 42, 43, 44, 45, 46, 47, 48, 49, 50, 51, 52, 53, 54, 55, 56, 57] rfl (by decide +kernel)
set_option maxRecDepth 20000 in
theorem gX13_inserts_X13_fail : GoodIn wsX13_inserts (wsV RX13 98 RX13 yX13_fail wsX13_fail) := goodIn_app (goodIn_of _ (by decide +kernel)) ggX13_inserts_X13_fail
set_option maxRecDepth 20000 in
theorem ggX13_inserts_X13_rackAt : GoodIn wsX13_inserts wsX13_rackAt := goodIn_r _ [16] rfl (by decide +kernel)
set_option maxRecDepth 20000 in
theorem gX13_inserts_X13_rackAt : GoodIn wsX13_inserts (va_wsS RX13 73 yX13_rackAt wsX13_rackAt) := goodIn_app (goodIn_of _ (by decide +kernel)) ggX13_inserts_X13_rackAt
set_option maxRecDepth 20000 in
theorem ggX13_inserts_X13_canHold : GoodIn wsX13_inserts wsX13_canHold := goodIn_ca (goodIn_r _ [20, 1, 14, 15, 4, 16, 29, 30, 31, 32, 33, 34, 35, 36, 37, 38, 39, 40, 41, 42, 43, 44, 45, 46, 47, 48, 49, 50, 51, 52, 53, 54, 55, 56, 57] rfl (by decide +kernel)) (goodIn_sub (fun _ h => List.mem_cons_of_mem _ (List.mem_append_right _ h)) (by decide +kernel))
set_option maxRecDepth 20000 in
theorem gX13_inserts_X13_canHold : GoodIn wsX13_inserts (wsV RX13 184 RX13 yX13_canHold wsX13_canHold) := goodIn_app (goodIn_of _ (by decide +kernel)) ggX13_inserts_X13_canHold
set_option maxRecDepth 20000 in
theorem ggX13_inserts_X13_logs : GoodIn wsX13_inserts wsX13_logs := goodIn_ca (goodIn_r _ [24, 1, 29, 30, 31, 32, 33, 34, 35, 36, 37, 38, 39, 40, 41, 42, 43, 44, 45, 46, 47, 48, 49, 50, 51, 52, 53, 54, 55, 56, 57] rfl (by decide +kernel)) (goodIn_sub (fun _ h => List.mem_cons_of_mem _ (List.mem_append_right _ h)) (by decide +kernel))
set_option maxRecDepth 20000 in
theorem gX13_inserts_X13_logs : GoodIn wsX13_inserts (wsV RX13 187 RX13 yX13_logs wsX13_logs) := goodIn_app (goodIn_of _ (by decide +kernel)) ggX13_inserts_X13_logs
set_option maxRecDepth 20000 in
theorem ggX13_inserts_X13_depth : GoodIn wsX13_inserts wsX13_depth := goodIn_ca (goodIn_r _ [28, 1, 14, 15, 4, 16, 29, 30, 31, 32, 33, 34, 35, 36, 37, 38, 39, 40, 41, 42, 43, 44, 45, 46, 47, 48, 49, 50, 51, 52, 53, 54, 55, 56, 57] rfl (by decide +kernel)) (goodIn_sub (fun _ h => List.mem_cons_of_mem _ (List.mem_append_right _ h)) (by decide +kernel))
set_option maxRecDepth 20000 in
theorem gX13_inserts_X13_depth : GoodIn wsX13_inserts (wsV RX13 178 RX13 yX13_depth wsX13_depth) := goodIn_app (goodIn_of _ (by decide +kernel)) ggX13_inserts_X13_depth
theorem dX13_inserts_0 : decode cX13_inserts 0 = .ok (.iload_n 1, 1) := by decide +kernel
theorem dX13_inserts_1 : decode cX13_inserts 1 = .ok (.invokestatic 175, 3) := by decide +kernel
theorem dX13_inserts_4 : decode cX13_inserts 4 = .ok (.ifCond .eq 12, 3) := by decide +kernel
theorem dX13_inserts_7 : decode cX13_inserts 7 = .ok (.iload_n 2, 1) := by decide +kernel
theorem dX13_inserts_8 : decode cX13_inserts 8 = .ok (.iconst 0, 1) := by decide +kernel
theorem dX13_inserts_9 : decode cX13_inserts 9 = .ok (.iconst 2, 1) := by decide +kernel
theorem dX13_inserts_10 : decode cX13_inserts 10 = .ok (.invokestatic 91, 3) := by decide +kernel
theorem dX13_inserts_13 : decode cX13_inserts 13 = .ok (.ifCond .ne 9, 3) := by decide +kernel
theorem dX13_inserts_16 : decode cX13_inserts 16 = .ok (.aload_n 0, 1) := by decide +kernel
theorem dX13_inserts_17 : decode cX13_inserts 17 = .ok (.iconst 1, 1) := by decide +kernel
theorem dX13_inserts_18 : decode cX13_inserts 18 = .ok (.invokevirtual 98, 3) := by decide +kernel
theorem dX13_inserts_21 : decode cX13_inserts 21 = .ok (.ireturn, 1) := by decide +kernel
theorem dX13_inserts_22 : decode cX13_inserts 22 = .ok (.iload_n 3, 1) := by decide +kernel
theorem dX13_inserts_23 : decode cX13_inserts 23 = .ok (.bipush 113, 2) := by decide +kernel
theorem dX13_inserts_25 : decode cX13_inserts 25 = .ok (.if_icmp .eq 15, 3) := by decide +kernel
theorem dX13_inserts_28 : decode cX13_inserts 28 = .ok (.iload_n 3, 1) := by decide +kernel
theorem dX13_inserts_29 : decode cX13_inserts 29 = .ok (.bipush 111, 2) := by decide +kernel
theorem dX13_inserts_31 : decode cX13_inserts 31 = .ok (.if_icmp .eq 9, 3) := by decide +kernel
theorem dX13_inserts_34 : decode cX13_inserts 34 = .ok (.aload_n 0, 1) := by decide +kernel
theorem dX13_inserts_35 : decode cX13_inserts 35 = .ok (.iconst 2, 1) := by decide +kernel
theorem dX13_inserts_36 : decode cX13_inserts 36 = .ok (.invokevirtual 98, 3) := by decide +kernel
theorem dX13_inserts_39 : decode cX13_inserts 39 = .ok (.ireturn, 1) := by decide +kernel
theorem dX13_inserts_40 : decode cX13_inserts 40 = .ok (.aload_n 0, 1) := by decide +kernel
theorem dX13_inserts_41 : decode cX13_inserts 41 = .ok (.getfield 16, 3) := by decide +kernel
theorem dX13_inserts_44 : decode cX13_inserts 44 = .ok (.iload_n 1, 1) := by decide +kernel
theorem dX13_inserts_45 : decode cX13_inserts 45 = .ok (.iload_n 2, 1) := by decide +kernel
theorem dX13_inserts_46 : decode cX13_inserts 46 = .ok (.iconst 1, 1) := by decide +kernel
theorem dX13_inserts_47 : decode cX13_inserts 47 = .ok (.iadd, 1) := by decide +kernel
theorem dX13_inserts_48 : decode cX13_inserts 48 = .ok (.invokestatic 73, 3) := by decide +kernel
theorem dX13_inserts_51 : decode cX13_inserts 51 = .ok (.iaload, 1) := by decide +kernel
theorem dX13_inserts_52 : decode cX13_inserts 52 = .ok (.ifCond .eq 9, 3) := by decide +kernel
theorem dX13_inserts_55 : decode cX13_inserts 55 = .ok (.aload_n 0, 1) := by decide +kernel
theorem dX13_inserts_56 : decode cX13_inserts 56 = .ok (.iconst 3, 1) := by decide +kernel
theorem dX13_inserts_57 : decode cX13_inserts 57 = .ok (.invokevirtual 98, 3) := by decide +kernel
theorem dX13_inserts_60 : decode cX13_inserts 60 = .ok (.ireturn, 1) := by decide +kernel
theorem dX13_inserts_61 : decode cX13_inserts 61 = .ok (.aload_n 0, 1) := by decide +kernel
theorem dX13_inserts_62 : decode cX13_inserts 62 = .ok (.iload_n 1, 1) := by decide +kernel
theorem dX13_inserts_63 : decode cX13_inserts 63 = .ok (.iload_n 3, 1) := by decide +kernel
theorem dX13_inserts_64 : decode cX13_inserts 64 = .ok (.invokevirtual 184, 3) := by decide +kernel
theorem dX13_inserts_67 : decode cX13_inserts 67 = .ok (.ifCond .ne 9, 3) := by decide +kernel
theorem dX13_inserts_70 : decode cX13_inserts 70 = .ok (.aload_n 0, 1) := by decide +kernel
theorem dX13_inserts_71 : decode cX13_inserts 71 = .ok (.iconst 4, 1) := by decide +kernel
theorem dX13_inserts_72 : decode cX13_inserts 72 = .ok (.invokevirtual 98, 3) := by decide +kernel
theorem dX13_inserts_75 : decode cX13_inserts 75 = .ok (.ireturn, 1) := by decide +kernel
theorem dX13_inserts_76 : decode cX13_inserts 76 = .ok (.aload_n 0, 1) := by decide +kernel
theorem dX13_inserts_77 : decode cX13_inserts 77 = .ok (.getfield 16, 3) := by decide +kernel
theorem dX13_inserts_80 : decode cX13_inserts 80 = .ok (.iload_n 1, 1) := by decide +kernel
theorem dX13_inserts_81 : decode cX13_inserts 81 = .ok (.iload_n 2, 1) := by decide +kernel
theorem dX13_inserts_82 : decode cX13_inserts 82 = .ok (.iconst 1, 1) := by decide +kernel
theorem dX13_inserts_83 : decode cX13_inserts 83 = .ok (.iadd, 1) := by decide +kernel
theorem dX13_inserts_84 : decode cX13_inserts 84 = .ok (.invokestatic 73, 3) := by decide +kernel
theorem dX13_inserts_87 : decode cX13_inserts 87 = .ok (.iload_n 3, 1) := by decide +kernel
theorem dX13_inserts_88 : decode cX13_inserts 88 = .ok (.iastore, 1) := by decide +kernel
theorem dX13_inserts_89 : decode cX13_inserts 89 = .ok (.aload_n 0, 1) := by decide +kernel
theorem dX13_inserts_90 : decode cX13_inserts 90 = .ok (.bipush 105, 2) := by decide +kernel
theorem dX13_inserts_92 : decode cX13_inserts 92 = .ok (.invokevirtual 187, 3) := by decide +kernel
theorem dX13_inserts_95 : decode cX13_inserts 95 = .ok (.aload_n 0, 1) := by decide +kernel
theorem dX13_inserts_96 : decode cX13_inserts 96 = .ok (.iload_n 1, 1) := by decide +kernel
theorem dX13_inserts_97 : decode cX13_inserts 97 = .ok (.invokevirtual 178, 3) := by decide +kernel
theorem dX13_inserts_100 : decode cX13_inserts 100 = .ok (.ireturn, 1) := by decide +kernel
set_option maxRecDepth 20000 in
theorem ggX13_insert_X13_begins : GoodIn wsX13_insert wsX13_begins := goodIn_ca (goodIn_r _ [5, 6, 7, 8, 9, 10, 11, 12, 4, 13, 14, 15, 16, 53, 54, 55, 56, 57, 58, 59, 60, 61, 62, 63, 64, 65, 66, 67, 68, 69, 70, 71, 72, 73, 74, 75, 76, 77, 78, 79, 80, 81] rfl (by decide +kernel)) (goodIn_sub (fun _ h => List.mem_cons_of_mem _ (List.mem_append_right _ h)) (by decide +kernel))
set_option maxRecDepth 20000 in
theorem gX13_insert_X13_begins : GoodIn wsX13_insert (wsV RX13 102 RX13 yX13_begins wsX13_begins) := goodIn_app (goodIn_of _ (by decide +kernel)) ggX13_insert_X13_begins
set_option maxRecDepth 20000 in
theorem ggX13_insert_X13_inserts : GoodIn wsX13_insert wsX13_inserts := goodIn_ca (goodIn_r _ [20, 8, 21, 22, 4, 23, 24, 25, 26, 27, 28, 29, 30, 6, 31, 32, 33, 34, 35, 36, 37, 38, 39, 40, 41, 42, 43, 44, 45, 53, 54, 55, 56, 57, 58, 59, 60, 61, 62, 63, 64, 65, 66, 67, 68, 69, 70, 71, 72, 73, 74, 75, 76, 77, 78, 79, 80, 81] rfl (by decide +kernel)) (goodIn_sub (fun _ h => List.mem_cons_of_mem _ (List.mem_append_right _ h)) (by decide +kernel))
set_option maxRecDepth 20000 in
theorem gX13_insert_X13_inserts : GoodIn wsX13_insert (wsV RX13 191 RX13 yX13_inserts wsX13_inserts) := goodIn_app (goodIn_of _ (by decide +kernel)) ggX13_insert_X13_inserts
set_option maxRecDepth 20000 in
theorem ggX13_insert_X13_ends : GoodIn wsX13_insert wsX13_ends := goodIn_ca (goodIn_r _ [49, 6, 8, 7, 10, 9, 50, 51, 52, 11, 12, 4, 13, 14, 15, 16, 53, 54, 55, 56, 57, 58, 59, 60, 61, 62, 63, 64, 65, 66, 67, 68, 69, 70, 71, 72, 73, 74, 75, 76, 77, 78, 79, 80, 81] rfl (by decide +kernel)) (goodIn_sub (fun _ h => List.mem_cons_of_mem _ (List.mem_append_right _ h)) (by decide +kernel))
set_option maxRecDepth 20000 in
theorem gX13_insert_X13_ends : GoodIn wsX13_insert (wsV RX13 108 RX13 yX13_ends wsX13_ends) := goodIn_app (goodIn_of _ (by decide +kernel)) ggX13_insert_X13_ends
theorem dX13_insert_0 : decode cX13_insert 0 = .ok (.aload_n 0, 1) := by decide +kernel
theorem dX13_insert_1 : decode cX13_insert 1 = .ok (.invokevirtual 102, 3) := by decide +kernel
theorem dX13_insert_4 : decode cX13_insert 4 = .ok (.aload_n 0, 1) := by decide +kernel
theorem dX13_insert_5 : decode cX13_insert 5 = .ok (.aload_n 0, 1) := by decide +kernel
theorem dX13_insert_6 : decode cX13_insert 6 = .ok (.iload_n 1, 1) := by decide +kernel
theorem dX13_insert_7 : decode cX13_insert 7 = .ok (.iload_n 2, 1) := by decide +kernel
theorem dX13_insert_8 : decode cX13_insert 8 = .ok (.iload_n 3, 1) := by decide +kernel
theorem dX13_insert_9 : decode cX13_insert 9 = .ok (.invokevirtual 191, 3) := by decide +kernel
theorem dX13_insert_12 : decode cX13_insert 12 = .ok (.invokevirtual 108, 3) := by decide +kernel
theorem dX13_insert_15 : decode cX13_insert 15 = .ok (.ireturn, 1) := by decide +kernel
set_option maxRecDepth 20000 in
theorem ggX13_draws_X13_isLayer : GoodIn wsX13_draws wsX13_isLayer := goodIn_r _ [5, 6, 7, 4, 8] rfl (by decide +kernel)
set_option maxRecDepth 20000 in
theorem gX13_draws_X13_isLayer : GoodIn wsX13_draws (va_wsS RX13 175 yX13_isLayer wsX13_isLayer) := goodIn_app (goodIn_of _ (by decide +kernel)) ggX13_draws_X13_isLayer
set_option maxRecDepth 20000 in
theorem ggX13_draws_X13_isIn : GoodIn wsX13_draws wsX13_isIn := goodIn_r _ [8] rfl (by decide +kernel)
set_option maxRecDepth 20000 in
theorem gX13_draws_X13_isIn : GoodIn wsX13_draws (va_wsS RX13 91 yX13_isIn wsX13_isIn) := goodIn_app (goodIn_of _ (by decide +kernel)) ggX13_draws_X13_isIn
set_option maxRecDepth 20000 in
theorem ggX13_draws_X13_fail : GoodIn wsX13_draws wsX13_fail := goodIn_r _ [12, 13, 21, 22, 23, 24, 25, 26, 27, 28, 29, 30, 31, 32, 33, 34, 35, 36, 37, 38, 39, 40, 41, 42, 43, 44, 45, 46, 47, 48, 49] rfl (by decide +kernel)
set_option maxRecDepth 20000 in
theorem gX13_draws_X13_fail : GoodIn wsX13_draws (wsV RX13 98 RX13 yX13_fail wsX13_fail) := goodIn_app (goodIn_of _ (by decide +kernel)) ggX13_draws_X13_fail
set_option maxRecDepth 20000 in
theorem ggX13_draws_X13_rackAt : GoodIn wsX13_draws wsX13_rackAt := goodIn_r _ [16] rfl (by decide +kernel)
set_option maxRecDepth 20000 in
theorem gX13_draws_X13_rackAt : GoodIn wsX13_draws (va_wsS RX13 73 yX13_rackAt wsX13_rackAt) := goodIn_app (goodIn_of _ (by decide +kernel)) ggX13_draws_X13_rackAt
set_option maxRecDepth 20000 in
theorem ggX13_draws_X13_logs : GoodIn wsX13_draws wsX13_logs := goodIn_ca (goodIn_r _ [20, 1, 21, 22, 23, 24, 25, 26, 27, 28, 29, 30, 31, 32, 33, 34, 35, 36, 37, 38, 39, 40, 41, 42, 43, 44, 45, 46, 47, 48, 49] rfl (by decide +kernel)) (goodIn_sub (fun _ h => List.mem_cons_of_mem _ (List.mem_append_right _ h)) (by decide +kernel))
set_option maxRecDepth 20000 in
theorem gX13_draws_X13_logs : GoodIn wsX13_draws (wsV RX13 187 RX13 yX13_logs wsX13_logs) := goodIn_app (goodIn_of _ (by decide +kernel)) ggX13_draws_X13_logs
theorem dX13_draws_0 : decode cX13_draws 0 = .ok (.iload_n 1, 1) := by decide +kernel
theorem dX13_draws_1 : decode cX13_draws 1 = .ok (.invokestatic 175, 3) := by decide +kernel
theorem dX13_draws_4 : decode cX13_draws 4 = .ok (.ifCond .eq 12, 3) := by decide +kernel
theorem dX13_draws_7 : decode cX13_draws 7 = .ok (.iload_n 2, 1) := by decide +kernel
theorem dX13_draws_8 : decode cX13_draws 8 = .ok (.iconst 0, 1) := by decide +kernel
theorem dX13_draws_9 : decode cX13_draws 9 = .ok (.iconst 2, 1) := by decide +kernel
theorem dX13_draws_10 : decode cX13_draws 10 = .ok (.invokestatic 91, 3) := by decide +kernel
theorem dX13_draws_13 : decode cX13_draws 13 = .ok (.ifCond .ne 9, 3) := by decide +kernel
theorem dX13_draws_16 : decode cX13_draws 16 = .ok (.aload_n 0, 1) := by decide +kernel
theorem dX13_draws_17 : decode cX13_draws 17 = .ok (.iconst 1, 1) := by decide +kernel
theorem dX13_draws_18 : decode cX13_draws 18 = .ok (.invokevirtual 98, 3) := by decide +kernel
theorem dX13_draws_21 : decode cX13_draws 21 = .ok (.ireturn, 1) := by decide +kernel
theorem dX13_draws_22 : decode cX13_draws 22 = .ok (.aload_n 0, 1) := by decide +kernel
theorem dX13_draws_23 : decode cX13_draws 23 = .ok (.getfield 16, 3) := by decide +kernel
theorem dX13_draws_26 : decode cX13_draws 26 = .ok (.iload_n 1, 1) := by decide +kernel
theorem dX13_draws_27 : decode cX13_draws 27 = .ok (.iload_n 2, 1) := by decide +kernel
theorem dX13_draws_28 : decode cX13_draws 28 = .ok (.iconst 1, 1) := by decide +kernel
theorem dX13_draws_29 : decode cX13_draws 29 = .ok (.iadd, 1) := by decide +kernel
theorem dX13_draws_30 : decode cX13_draws 30 = .ok (.invokestatic 73, 3) := by decide +kernel
theorem dX13_draws_33 : decode cX13_draws 33 = .ok (.iaload, 1) := by decide +kernel
theorem dX13_draws_34 : decode cX13_draws 34 = .ok (.istore_n 3, 1) := by decide +kernel
theorem dX13_draws_35 : decode cX13_draws 35 = .ok (.iload_n 3, 1) := by decide +kernel
theorem dX13_draws_36 : decode cX13_draws 36 = .ok (.ifCond .ne 9, 3) := by decide +kernel
theorem dX13_draws_39 : decode cX13_draws 39 = .ok (.aload_n 0, 1) := by decide +kernel
theorem dX13_draws_40 : decode cX13_draws 40 = .ok (.iconst 2, 1) := by decide +kernel
theorem dX13_draws_41 : decode cX13_draws 41 = .ok (.invokevirtual 98, 3) := by decide +kernel
theorem dX13_draws_44 : decode cX13_draws 44 = .ok (.ireturn, 1) := by decide +kernel
theorem dX13_draws_45 : decode cX13_draws 45 = .ok (.aload_n 0, 1) := by decide +kernel
theorem dX13_draws_46 : decode cX13_draws 46 = .ok (.getfield 16, 3) := by decide +kernel
theorem dX13_draws_49 : decode cX13_draws 49 = .ok (.iload_n 1, 1) := by decide +kernel
theorem dX13_draws_50 : decode cX13_draws 50 = .ok (.iload_n 2, 1) := by decide +kernel
theorem dX13_draws_51 : decode cX13_draws 51 = .ok (.iconst 1, 1) := by decide +kernel
theorem dX13_draws_52 : decode cX13_draws 52 = .ok (.iadd, 1) := by decide +kernel
theorem dX13_draws_53 : decode cX13_draws 53 = .ok (.invokestatic 73, 3) := by decide +kernel
theorem dX13_draws_56 : decode cX13_draws 56 = .ok (.iconst 0, 1) := by decide +kernel
theorem dX13_draws_57 : decode cX13_draws 57 = .ok (.iastore, 1) := by decide +kernel
theorem dX13_draws_58 : decode cX13_draws 58 = .ok (.aload_n 0, 1) := by decide +kernel
theorem dX13_draws_59 : decode cX13_draws 59 = .ok (.bipush 119, 2) := by decide +kernel
theorem dX13_draws_61 : decode cX13_draws 61 = .ok (.invokevirtual 187, 3) := by decide +kernel
theorem dX13_draws_64 : decode cX13_draws 64 = .ok (.iload_n 3, 1) := by decide +kernel
theorem dX13_draws_65 : decode cX13_draws 65 = .ok (.ireturn, 1) := by decide +kernel
set_option maxRecDepth 20000 in
theorem ggX13_withdraw_X13_begins : GoodIn wsX13_withdraw wsX13_begins := goodIn_ca (goodIn_r _ [5, 6, 7, 8, 9, 10, 11, 12, 4, 13, 14, 15, 16, 45, 46, 47, 48, 49, 50, 51, 52, 53, 54, 55, 56, 57, 58, 59, 60, 61, 62, 63, 64, 65, 66, 67, 68, 69, 70, 71, 72, 73] rfl (by decide +kernel)) (goodIn_sub (fun _ h => List.mem_cons_of_mem _ (List.mem_append_right _ h)) (by decide +kernel))
set_option maxRecDepth 20000 in
theorem gX13_withdraw_X13_begins : GoodIn wsX13_withdraw (wsV RX13 102 RX13 yX13_begins wsX13_begins) := goodIn_app (goodIn_of _ (by decide +kernel)) ggX13_withdraw_X13_begins
set_option maxRecDepth 20000 in
theorem ggX13_withdraw_X13_draws : GoodIn wsX13_withdraw wsX13_draws := goodIn_ca (goodIn_r _ [20, 8, 21, 22, 4, 23, 24, 25, 26, 27, 28, 29, 30, 6, 31, 32, 33, 34, 35, 36, 37, 45, 46, 47, 48, 49, 50, 51, 52, 53, 54, 55, 56, 57, 58, 59, 60, 61, 62, 63, 64, 65, 66, 67, 68, 69, 70, 71, 72, 73] rfl (by decide +kernel)) (goodIn_sub (fun _ h => List.mem_cons_of_mem _ (List.mem_append_right _ h)) (by decide +kernel))
set_option maxRecDepth 20000 in
theorem gX13_withdraw_X13_draws : GoodIn wsX13_withdraw (wsV RX13 194 RX13 yX13_draws wsX13_draws) := goodIn_app (goodIn_of _ (by decide +kernel)) ggX13_withdraw_X13_draws
set_option maxRecDepth 20000 in
theorem ggX13_withdraw_X13_ends : GoodIn wsX13_withdraw wsX13_ends := goodIn_ca (goodIn_r _ [41, 6, 8, 7, 10, 9, 42, 43, 44, 11, 12, 4, 13, 14, 15, 16, 45, 46, 47, 48, 49, 50, 51, 52, 53, 54, 55, 56, 57, 58, 59, 60, 61, 62, 63, 64, 65, 66, 67, 68, 69, 70, 71, 72, 73] rfl (by decide +kernel)) (goodIn_sub (fun _ h => List.mem_cons_of_mem _ (List.mem_append_right _ h)) (by decide +kernel))
set_option maxRecDepth 20000 in
theorem gX13_withdraw_X13_ends : GoodIn wsX13_withdraw (wsV RX13 108 RX13 yX13_ends wsX13_ends) := goodIn_app (goodIn_of _ (by decide +kernel)) ggX13_withdraw_X13_ends
theorem dX13_withdraw_0 : decode cX13_withdraw 0 = .ok (.aload_n 0, 1) := by decide +kernel
theorem dX13_withdraw_1 : decode cX13_withdraw 1 = .ok (.invokevirtual 102, 3) := by decide +kernel
theorem dX13_withdraw_4 : decode cX13_withdraw 4 = .ok (.aload_n 0, 1) := by decide +kernel
theorem dX13_withdraw_5 : decode cX13_withdraw 5 = .ok (.aload_n 0, 1) := by decide +kernel
theorem dX13_withdraw_6 : decode cX13_withdraw 6 = .ok (.iload_n 1, 1) := by decide +kernel
theorem dX13_withdraw_7 : decode cX13_withdraw 7 = .ok (.iload_n 2, 1) := by decide +kernel
theorem dX13_withdraw_8 : decode cX13_withdraw 8 = .ok (.invokevirtual 194, 3) := by decide +kernel
theorem dX13_withdraw_11 : decode cX13_withdraw 11 = .ok (.invokevirtual 108, 3) := by decide +kernel
theorem dX13_withdraw_14 : decode cX13_withdraw 14 = .ok (.i2c, 1) := by decide +kernel
theorem dX13_withdraw_15 : decode cX13_withdraw 15 = .ok (.ireturn, 1) := by decide +kernel
set_option maxRecDepth 20000 in
theorem ggX13_remarkAt_X13_isLayer : GoodIn wsX13_remarkAt wsX13_isLayer := goodIn_r _ [6, 7, 8, 5, 9] rfl (by decide +kernel)
set_option maxRecDepth 20000 in
theorem gX13_remarkAt_X13_isLayer : GoodIn wsX13_remarkAt (va_wsS RX13 175 yX13_isLayer wsX13_isLayer) := goodIn_app (goodIn_of _ (by decide +kernel)) ggX13_remarkAt_X13_isLayer
set_option maxRecDepth 20000 in
theorem ggX13_remarkAt_X13_isIn : GoodIn wsX13_remarkAt wsX13_isIn := goodIn_r _ [9] rfl (by decide +kernel)
set_option maxRecDepth 20000 in
theorem gX13_remarkAt_X13_isIn : GoodIn wsX13_remarkAt (va_wsS RX13 91 yX13_isIn wsX13_isIn) := goodIn_app (goodIn_of _ (by decide +kernel)) ggX13_remarkAt_X13_isIn
set_option maxRecDepth 20000 in
theorem ggX13_remarkAt_X13_rackAt : GoodIn wsX13_remarkAt wsX13_rackAt := goodIn_r _ [12] rfl (by decide +kernel)
set_option maxRecDepth 20000 in
theorem gX13_remarkAt_X13_rackAt : GoodIn wsX13_remarkAt (va_wsS RX13 73 yX13_rackAt wsX13_rackAt) := goodIn_app (goodIn_of _ (by decide +kernel)) ggX13_remarkAt_X13_rackAt
theorem dX13_remarkAt_0 : decode cX13_remarkAt 0 = .ok (.aload_n 0, 1) := by decide +kernel
theorem dX13_remarkAt_1 : decode cX13_remarkAt 1 = .ok (.iload_n 1, 1) := by decide +kernel
theorem dX13_remarkAt_2 : decode cX13_remarkAt 2 = .ok (.invokestatic 175, 3) := by decide +kernel
theorem dX13_remarkAt_5 : decode cX13_remarkAt 5 = .ok (.ifCond .eq 16, 3) := by decide +kernel
theorem dX13_remarkAt_8 : decode cX13_remarkAt 8 = .ok (.iload_n 2, 1) := by decide +kernel
theorem dX13_remarkAt_9 : decode cX13_remarkAt 9 = .ok (.iconst 0, 1) := by decide +kernel
theorem dX13_remarkAt_10 : decode cX13_remarkAt 10 = .ok (.iconst 2, 1) := by decide +kernel
theorem dX13_remarkAt_11 : decode cX13_remarkAt 11 = .ok (.invokestatic 91, 3) := by decide +kernel
theorem dX13_remarkAt_14 : decode cX13_remarkAt 14 = .ok (.ifCond .eq 7, 3) := by decide +kernel
theorem dX13_remarkAt_17 : decode cX13_remarkAt 17 = .ok (.iconst 0, 1) := by decide +kernel
theorem dX13_remarkAt_18 : decode cX13_remarkAt 18 = .ok (.goto 4, 3) := by decide +kernel
theorem dX13_remarkAt_21 : decode cX13_remarkAt 21 = .ok (.iconst 1, 1) := by decide +kernel
theorem dX13_remarkAt_22 : decode cX13_remarkAt 22 = .ok (.putfield 77, 3) := by decide +kernel
theorem dX13_remarkAt_25 : decode cX13_remarkAt 25 = .ok (.aload_n 0, 1) := by decide +kernel
theorem dX13_remarkAt_26 : decode cX13_remarkAt 26 = .ok (.getfield 77, 3) := by decide +kernel
theorem dX13_remarkAt_29 : decode cX13_remarkAt 29 = .ok (.ifCond .eq 6, 3) := by decide +kernel
theorem dX13_remarkAt_32 : decode cX13_remarkAt 32 = .ok (.bipush 97, 2) := by decide +kernel
theorem dX13_remarkAt_34 : decode cX13_remarkAt 34 = .ok (.ireturn, 1) := by decide +kernel
theorem dX13_remarkAt_35 : decode cX13_remarkAt 35 = .ok (.aload_n 0, 1) := by decide +kernel
theorem dX13_remarkAt_36 : decode cX13_remarkAt 36 = .ok (.getfield 16, 3) := by decide +kernel
theorem dX13_remarkAt_39 : decode cX13_remarkAt 39 = .ok (.iload_n 1, 1) := by decide +kernel
theorem dX13_remarkAt_40 : decode cX13_remarkAt 40 = .ok (.iload_n 2, 1) := by decide +kernel
theorem dX13_remarkAt_41 : decode cX13_remarkAt 41 = .ok (.iconst 1, 1) := by decide +kernel
theorem dX13_remarkAt_42 : decode cX13_remarkAt 42 = .ok (.iadd, 1) := by decide +kernel
theorem dX13_remarkAt_43 : decode cX13_remarkAt 43 = .ok (.invokestatic 73, 3) := by decide +kernel
theorem dX13_remarkAt_46 : decode cX13_remarkAt 46 = .ok (.iaload, 1) := by decide +kernel
theorem dX13_remarkAt_47 : decode cX13_remarkAt 47 = .ok (.ifCond .ne 8, 3) := by decide +kernel
theorem dX13_remarkAt_50 : decode cX13_remarkAt 50 = .ok (.bipush 46, 2) := by decide +kernel
theorem dX13_remarkAt_52 : decode cX13_remarkAt 52 = .ok (.goto 16, 3) := by decide +kernel
theorem dX13_remarkAt_55 : decode cX13_remarkAt 55 = .ok (.aload_n 0, 1) := by decide +kernel
theorem dX13_remarkAt_56 : decode cX13_remarkAt 56 = .ok (.getfield 16, 3) := by decide +kernel
theorem dX13_remarkAt_59 : decode cX13_remarkAt 59 = .ok (.iload_n 1, 1) := by decide +kernel
theorem dX13_remarkAt_60 : decode cX13_remarkAt 60 = .ok (.iload_n 2, 1) := by decide +kernel
theorem dX13_remarkAt_61 : decode cX13_remarkAt 61 = .ok (.iconst 1, 1) := by decide +kernel
theorem dX13_remarkAt_62 : decode cX13_remarkAt 62 = .ok (.iadd, 1) := by decide +kernel
theorem dX13_remarkAt_63 : decode cX13_remarkAt 63 = .ok (.invokestatic 73, 3) := by decide +kernel
theorem dX13_remarkAt_66 : decode cX13_remarkAt 66 = .ok (.iaload, 1) := by decide +kernel
theorem dX13_remarkAt_67 : decode cX13_remarkAt 67 = .ok (.i2c, 1) := by decide +kernel
theorem dX13_remarkAt_68 : decode cX13_remarkAt 68 = .ok (.ireturn, 1) := by decide +kernel
set_option maxRecDepth 20000 in
theorem ggX13_depthOf_X13_isLayer : GoodIn wsX13_depthOf wsX13_isLayer := goodIn_r _ [5, 6, 7, 4, 8] rfl (by decide +kernel)
set_option maxRecDepth 20000 in
theorem gX13_depthOf_X13_isLayer : GoodIn wsX13_depthOf (va_wsS RX13 175 yX13_isLayer wsX13_isLayer) := goodIn_app (goodIn_of _ (by decide +kernel)) ggX13_depthOf_X13_isLayer
set_option maxRecDepth 20000 in
theorem ggX13_depthOf_X13_depth : GoodIn wsX13_depthOf wsX13_depth := goodIn_ca (goodIn_r _ [12, 13, 14, 15, 4, 16, 17, 18, 19, 20, 21, 22, 23, 24, 25, 26, 27, 28, 29, 30, 31, 32, 33, 34, 35, 36, 37, 38, 39, 40, 41, 42, 43, 44, 45] rfl (by decide +kernel)) (goodIn_sub (fun _ h => List.mem_cons_of_mem _ (List.mem_append_right _ h)) (by decide +kernel))
set_option maxRecDepth 20000 in
theorem gX13_depthOf_X13_depth : GoodIn wsX13_depthOf (wsV RX13 178 RX13 yX13_depth wsX13_depth) := goodIn_app (goodIn_of _ (by decide +kernel)) ggX13_depthOf_X13_depth
theorem dX13_depthOf_0 : decode cX13_depthOf 0 = .ok (.aload_n 0, 1) := by decide +kernel
theorem dX13_depthOf_1 : decode cX13_depthOf 1 = .ok (.iload_n 1, 1) := by decide +kernel
theorem dX13_depthOf_2 : decode cX13_depthOf 2 = .ok (.invokestatic 175, 3) := by decide +kernel
theorem dX13_depthOf_5 : decode cX13_depthOf 5 = .ok (.ifCond .eq 7, 3) := by decide +kernel
theorem dX13_depthOf_8 : decode cX13_depthOf 8 = .ok (.iconst 0, 1) := by decide +kernel
theorem dX13_depthOf_9 : decode cX13_depthOf 9 = .ok (.goto 4, 3) := by decide +kernel
theorem dX13_depthOf_12 : decode cX13_depthOf 12 = .ok (.iconst 1, 1) := by decide +kernel
theorem dX13_depthOf_13 : decode cX13_depthOf 13 = .ok (.putfield 77, 3) := by decide +kernel
theorem dX13_depthOf_16 : decode cX13_depthOf 16 = .ok (.aload_n 0, 1) := by decide +kernel
theorem dX13_depthOf_17 : decode cX13_depthOf 17 = .ok (.getfield 77, 3) := by decide +kernel
theorem dX13_depthOf_20 : decode cX13_depthOf 20 = .ok (.ifCond .ne 11, 3) := by decide +kernel
theorem dX13_depthOf_23 : decode cX13_depthOf 23 = .ok (.aload_n 0, 1) := by decide +kernel
theorem dX13_depthOf_24 : decode cX13_depthOf 24 = .ok (.iload_n 1, 1) := by decide +kernel
theorem dX13_depthOf_25 : decode cX13_depthOf 25 = .ok (.invokevirtual 178, 3) := by decide +kernel
theorem dX13_depthOf_28 : decode cX13_depthOf 28 = .ok (.goto 4, 3) := by decide +kernel
theorem dX13_depthOf_31 : decode cX13_depthOf 31 = .ok (.iconst 0, 1) := by decide +kernel
theorem dX13_depthOf_32 : decode cX13_depthOf 32 = .ok (.ireturn, 1) := by decide +kernel
set_option maxRecDepth 20000 in
theorem ggX13_excites_X13_isClaim : GoodIn wsX13_excites wsX13_isClaim := goodIn_ca (goodIn_r _ [7, 8, 9, 10, 6, 11, 21, 22, 23, 24, 25, 26, 27, 28, 29, 30, 31, 32, 33, 34, 35, 36, 37, 38, 39, 40, 41, 42, 43, 44, 45, 46, 47, 48, 49] rfl (by decide +kernel)) (goodIn_sub (fun _ h => List.mem_cons_of_mem _ (List.mem_append_right _ h)) (by decide +kernel))
set_option maxRecDepth 20000 in
theorem gX13_excites_X13_isClaim : GoodIn wsX13_excites (wsV RX13 111 RX13 yX13_isClaim wsX13_isClaim) := goodIn_app (goodIn_of _ (by decide +kernel)) ggX13_excites_X13_isClaim
set_option maxRecDepth 20000 in
theorem ggX13_excites_X13_fail : GoodIn wsX13_excites wsX13_fail := goodIn_r _ [15, 16, 21, 22, 23, 24, 25, 26, 27, 28, 29, 30, 31, 32, 33, 34, 35, 36, 37, 38, 39, 40, 41, 42, 43, 44, 45, 46, 47, 48, 49] rfl (by decide +kernel)
set_option maxRecDepth 20000 in
theorem gX13_excites_X13_fail : GoodIn wsX13_excites (wsV RX13 98 RX13 yX13_fail wsX13_fail) := goodIn_app (goodIn_of _ (by decide +kernel)) ggX13_excites_X13_fail
set_option maxRecDepth 20000 in
theorem ggX13_excites_X13_isIn : GoodIn wsX13_excites wsX13_isIn := goodIn_r _ [11] rfl (by decide +kernel)
set_option maxRecDepth 20000 in
theorem gX13_excites_X13_isIn : GoodIn wsX13_excites (va_wsS RX13 91 yX13_isIn wsX13_isIn) := goodIn_app (goodIn_of _ (by decide +kernel)) ggX13_excites_X13_isIn
set_option maxRecDepth 20000 in
theorem ggX13_excites_X13_logs : GoodIn wsX13_excites wsX13_logs := goodIn_ca (goodIn_r _ [20, 8, 21, 22, 23, 24, 25, 26, 27, 28, 29, 30, 31, 32, 33, 34, 35, 36, 37, 38, 39, 40, 41, 42, 43, 44, 45, 46, 47, 48, 49] rfl (by decide +kernel)) (goodIn_sub (fun _ h => List.mem_cons_of_mem _ (List.mem_append_right _ h)) (by decide +kernel))
set_option maxRecDepth 20000 in
theorem gX13_excites_X13_logs : GoodIn wsX13_excites (wsV RX13 187 RX13 yX13_logs wsX13_logs) := goodIn_app (goodIn_of _ (by decide +kernel)) ggX13_excites_X13_logs
theorem dX13_excites_0 : decode cX13_excites 0 = .ok (.aload_n 0, 1) := by decide +kernel
theorem dX13_excites_1 : decode cX13_excites 1 = .ok (.iload_n 1, 1) := by decide +kernel
theorem dX13_excites_2 : decode cX13_excites 2 = .ok (.invokevirtual 111, 3) := by decide +kernel
theorem dX13_excites_5 : decode cX13_excites 5 = .ok (.ifCond .ne 9, 3) := by decide +kernel
theorem dX13_excites_8 : decode cX13_excites 8 = .ok (.aload_n 0, 1) := by decide +kernel
theorem dX13_excites_9 : decode cX13_excites 9 = .ok (.iconst 1, 1) := by decide +kernel
theorem dX13_excites_10 : decode cX13_excites 10 = .ok (.invokevirtual 98, 3) := by decide +kernel
theorem dX13_excites_13 : decode cX13_excites 13 = .ok (.ireturn, 1) := by decide +kernel
theorem dX13_excites_14 : decode cX13_excites 14 = .ok (.iload_n 2, 1) := by decide +kernel
theorem dX13_excites_15 : decode cX13_excites 15 = .ok (.iconst 1, 1) := by decide +kernel
theorem dX13_excites_16 : decode cX13_excites 16 = .ok (.sipush 1000, 3) := by decide +kernel
theorem dX13_excites_19 : decode cX13_excites 19 = .ok (.invokestatic 91, 3) := by decide +kernel
theorem dX13_excites_22 : decode cX13_excites 22 = .ok (.ifCond .ne 9, 3) := by decide +kernel
theorem dX13_excites_25 : decode cX13_excites 25 = .ok (.aload_n 0, 1) := by decide +kernel
theorem dX13_excites_26 : decode cX13_excites 26 = .ok (.iconst 2, 1) := by decide +kernel
theorem dX13_excites_27 : decode cX13_excites 27 = .ok (.invokevirtual 98, 3) := by decide +kernel
theorem dX13_excites_30 : decode cX13_excites 30 = .ok (.ireturn, 1) := by decide +kernel
theorem dX13_excites_31 : decode cX13_excites 31 = .ok (.aload_n 0, 1) := by decide +kernel
theorem dX13_excites_32 : decode cX13_excites 32 = .ok (.getfield 32, 3) := by decide +kernel
theorem dX13_excites_35 : decode cX13_excites 35 = .ok (.iload_n 1, 1) := by decide +kernel
theorem dX13_excites_36 : decode cX13_excites 36 = .ok (.faload, 1) := by decide +kernel
theorem dX13_excites_37 : decode cX13_excites 37 = .ok (.iload_n 2, 1) := by decide +kernel
theorem dX13_excites_38 : decode cX13_excites 38 = .ok (.i2f, 1) := by decide +kernel
theorem dX13_excites_39 : decode cX13_excites 39 = .ok (.fadd, 1) := by decide +kernel
theorem dX13_excites_40 : decode cX13_excites 40 = .ok (.fstore_n 3, 1) := by decide +kernel
theorem dX13_excites_41 : decode cX13_excites 41 = .ok (.aload_n 0, 1) := by decide +kernel
theorem dX13_excites_42 : decode cX13_excites 42 = .ok (.getfield 32, 3) := by decide +kernel
theorem dX13_excites_45 : decode cX13_excites 45 = .ok (.iload_n 1, 1) := by decide +kernel
theorem dX13_excites_46 : decode cX13_excites 46 = .ok (.fload_n 3, 1) := by decide +kernel
theorem dX13_excites_47 : decode cX13_excites 47 = .ok (.ldc 197, 2) := by decide +kernel
theorem dX13_excites_49 : decode cX13_excites 49 = .ok (.fcmp .l, 1) := by decide +kernel
theorem dX13_excites_50 : decode cX13_excites 50 = .ok (.ifCond .le 8, 3) := by decide +kernel
theorem dX13_excites_53 : decode cX13_excites 53 = .ok (.ldc 197, 2) := by decide +kernel
theorem dX13_excites_55 : decode cX13_excites 55 = .ok (.goto 4, 3) := by decide +kernel
theorem dX13_excites_58 : decode cX13_excites 58 = .ok (.fload_n 3, 1) := by decide +kernel
theorem dX13_excites_59 : decode cX13_excites 59 = .ok (.fastore, 1) := by decide +kernel
theorem dX13_excites_60 : decode cX13_excites 60 = .ok (.aload_n 0, 1) := by decide +kernel
theorem dX13_excites_61 : decode cX13_excites 61 = .ok (.bipush 101, 2) := by decide +kernel
theorem dX13_excites_63 : decode cX13_excites 63 = .ok (.invokevirtual 187, 3) := by decide +kernel
theorem dX13_excites_66 : decode cX13_excites 66 = .ok (.iconst 1, 1) := by decide +kernel
theorem dX13_excites_67 : decode cX13_excites 67 = .ok (.ireturn, 1) := by decide +kernel
set_option maxRecDepth 20000 in
theorem ggX13_excite_X13_begins : GoodIn wsX13_excite wsX13_begins := goodIn_ca (goodIn_r _ [7, 1, 8, 9, 10, 2, 11, 12, 6, 13, 14, 15, 16, 44, 45, 46, 47, 48, 49, 50, 51, 52, 53, 54, 55, 56, 57, 58, 59, 60, 61, 62, 63, 64, 65, 66, 67, 68, 69, 70, 71, 72] rfl (by decide +kernel)) (goodIn_sub (fun _ h => List.mem_cons_of_mem _ (List.mem_append_right _ h)) (by decide +kernel))
set_option maxRecDepth 20000 in
theorem gX13_excite_X13_begins : GoodIn wsX13_excite (wsV RX13 102 RX13 yX13_begins wsX13_begins) := goodIn_app (goodIn_of _ (by decide +kernel)) ggX13_excite_X13_begins
set_option maxRecDepth 20000 in
theorem ggX13_excite_X13_excites : GoodIn wsX13_excite wsX13_excites := goodIn_ca (goodIn_r _ [20, 2, 21, 22, 23, 24, 6, 25, 9, 26, 27, 28, 29, 30, 31, 32, 1, 33, 34, 35, 36, 44, 45, 46, 47, 48, 49, 50, 51, 52, 53, 54, 55, 56, 57, 58, 59, 60, 61, 62, 63, 64, 65, 66, 67, 68, 69, 70, 71, 72] rfl (by decide +kernel)) (goodIn_sub (fun _ h => List.mem_cons_of_mem _ (List.mem_append_right _ h)) (by decide +kernel))
set_option maxRecDepth 20000 in
theorem gX13_excite_X13_excites : GoodIn wsX13_excite (wsV RX13 198 RX13 yX13_excites wsX13_excites) := goodIn_app (goodIn_of _ (by decide +kernel)) ggX13_excite_X13_excites
set_option maxRecDepth 20000 in
theorem ggX13_excite_X13_ends : GoodIn wsX13_excite wsX13_ends := goodIn_ca (goodIn_r _ [40, 1, 9, 8, 2, 10, 41, 42, 43, 11, 12, 6, 13, 14, 15, 16, 44, 45, 46, 47, 48, 49, 50, 51, 52, 53, 54, 55, 56, 57, 58, 59, 60, 61, 62, 63, 64, 65, 66, 67, 68, 69, 70, 71, 72] rfl (by decide +kernel)) (goodIn_sub (fun _ h => List.mem_cons_of_mem _ (List.mem_append_right _ h)) (by decide +kernel))
set_option maxRecDepth 20000 in
theorem gX13_excite_X13_ends : GoodIn wsX13_excite (wsV RX13 108 RX13 yX13_ends wsX13_ends) := goodIn_app (goodIn_of _ (by decide +kernel)) ggX13_excite_X13_ends
theorem dX13_excite_0 : decode cX13_excite 0 = .ok (.aload_n 0, 1) := by decide +kernel
theorem dX13_excite_1 : decode cX13_excite 1 = .ok (.invokevirtual 102, 3) := by decide +kernel
theorem dX13_excite_4 : decode cX13_excite 4 = .ok (.aload_n 0, 1) := by decide +kernel
theorem dX13_excite_5 : decode cX13_excite 5 = .ok (.aload_n 0, 1) := by decide +kernel
theorem dX13_excite_6 : decode cX13_excite 6 = .ok (.iload_n 1, 1) := by decide +kernel
theorem dX13_excite_7 : decode cX13_excite 7 = .ok (.iload_n 2, 1) := by decide +kernel
theorem dX13_excite_8 : decode cX13_excite 8 = .ok (.invokevirtual 198, 3) := by decide +kernel
theorem dX13_excite_11 : decode cX13_excite 11 = .ok (.invokevirtual 108, 3) := by decide +kernel
theorem dX13_excite_14 : decode cX13_excite 14 = .ok (.istore_n 3, 1) := by decide +kernel
theorem dX13_excite_15 : decode cX13_excite 15 = .ok (.aload_n 0, 1) := by decide +kernel
theorem dX13_excite_16 : decode cX13_excite 16 = .ok (.getfield 77, 3) := by decide +kernel
theorem dX13_excite_19 : decode cX13_excite 19 = .ok (.ifCond .ne 12, 3) := by decide +kernel
theorem dX13_excite_22 : decode cX13_excite 22 = .ok (.aload_n 0, 1) := by decide +kernel
theorem dX13_excite_23 : decode cX13_excite 23 = .ok (.getfield 32, 3) := by decide +kernel
theorem dX13_excite_26 : decode cX13_excite 26 = .ok (.iload_n 1, 1) := by decide +kernel
theorem dX13_excite_27 : decode cX13_excite 27 = .ok (.faload, 1) := by decide +kernel
theorem dX13_excite_28 : decode cX13_excite 28 = .ok (.goto 4, 3) := by decide +kernel
theorem dX13_excite_31 : decode cX13_excite 31 = .ok (.fconst 0, 1) := by decide +kernel
theorem dX13_excite_32 : decode cX13_excite 32 = .ok (.freturn, 1) := by decide +kernel
theorem dX13_sum_0 : decode cX13_sum 0 = .ok (.fconst 0, 1) := by decide +kernel
theorem dX13_sum_1 : decode cX13_sum 1 = .ok (.fstore_n 1, 1) := by decide +kernel
theorem dX13_sum_2 : decode cX13_sum 2 = .ok (.iconst 0, 1) := by decide +kernel
theorem dX13_sum_3 : decode cX13_sum 3 = .ok (.istore_n 2, 1) := by decide +kernel
theorem dX13_sum_4 : decode cX13_sum 4 = .ok (.iload_n 2, 1) := by decide +kernel
theorem dX13_sum_5 : decode cX13_sum 5 = .ok (.aload_n 0, 1) := by decide +kernel
theorem dX13_sum_6 : decode cX13_sum 6 = .ok (.getfield 16, 3) := by decide +kernel
theorem dX13_sum_9 : decode cX13_sum 9 = .ok (.iconst 0, 1) := by decide +kernel
theorem dX13_sum_10 : decode cX13_sum 10 = .ok (.iaload, 1) := by decide +kernel
theorem dX13_sum_11 : decode cX13_sum 11 = .ok (.if_icmp .ge 18, 3) := by decide +kernel
theorem dX13_sum_14 : decode cX13_sum 14 = .ok (.fload_n 1, 1) := by decide +kernel
theorem dX13_sum_15 : decode cX13_sum 15 = .ok (.aload_n 0, 1) := by decide +kernel
theorem dX13_sum_16 : decode cX13_sum 16 = .ok (.getfield 32, 3) := by decide +kernel
theorem dX13_sum_19 : decode cX13_sum 19 = .ok (.iload_n 2, 1) := by decide +kernel
theorem dX13_sum_20 : decode cX13_sum 20 = .ok (.faload, 1) := by decide +kernel
theorem dX13_sum_21 : decode cX13_sum 21 = .ok (.fadd, 1) := by decide +kernel
theorem dX13_sum_22 : decode cX13_sum 22 = .ok (.fstore_n 1, 1) := by decide +kernel
theorem dX13_sum_23 : decode cX13_sum 23 = .ok (.iinc 2 1, 3) := by decide +kernel
theorem dX13_sum_26 : decode cX13_sum 26 = .ok (.goto (-22), 3) := by decide +kernel
theorem dX13_sum_29 : decode cX13_sum 29 = .ok (.fload_n 1, 1) := by decide +kernel
theorem dX13_sum_30 : decode cX13_sum 30 = .ok (.freturn, 1) := by decide +kernel
set_option maxRecDepth 20000 in
theorem ggX13_decays_X13_hits : GoodIn wsX13_decays wsX13_hits := goodIn_ca (goodIn_r _ [12, 1, 13, 14, 11, 15, 23, 24, 25, 26, 27, 28, 29, 30, 31, 32, 33, 34, 35, 36, 37, 38, 39, 40, 41, 42, 43, 44, 45, 46, 47, 48, 49, 50, 51] rfl (by decide +kernel)) (goodIn_sub (fun _ h => List.mem_cons_of_mem _ (List.mem_append_right _ h)) (by decide +kernel))
set_option maxRecDepth 20000 in
theorem gX13_decays_X13_hits : GoodIn wsX13_decays (wsV RX13 115 RX13 yX13_hits wsX13_hits) := goodIn_app (goodIn_of _ (by decide +kernel)) ggX13_decays_X13_hits
set_option maxRecDepth 20000 in
theorem ggX13_decays_X13_of : GoodIn wsX13_decays wsX13_of := goodIn_r _ [15] rfl (by decide +kernel)
set_option maxRecDepth 20000 in
theorem gX13_decays_X13_of : GoodIn wsX13_decays (va_wsS RX13 95 yX13_of wsX13_of) := goodIn_app (goodIn_of _ (by decide +kernel)) ggX13_decays_X13_of
set_option maxRecDepth 20000 in
theorem ggX13_decays_X13_depth : GoodIn wsX13_decays wsX13_depth := goodIn_ca (goodIn_r _ [19, 1, 20, 21, 11, 22, 23, 24, 25, 26, 27, 28, 29, 30, 31, 32, 33, 34, 35, 36, 37, 38, 39, 40, 41, 42, 43, 44, 45, 46, 47, 48, 49, 50, 51] rfl (by decide +kernel)) (goodIn_sub (fun _ h => List.mem_cons_of_mem _ (List.mem_append_right _ h)) (by decide +kernel))
set_option maxRecDepth 20000 in
theorem gX13_decays_X13_depth : GoodIn wsX13_decays (wsV RX13 178 RX13 yX13_depth wsX13_depth) := goodIn_app (goodIn_of _ (by decide +kernel)) ggX13_decays_X13_depth
theorem dX13_decays_0 : decode cX13_decays 0 = .ok (.iconst 0, 1) := by decide +kernel
theorem dX13_decays_1 : decode cX13_decays 1 = .ok (.istore_n 1, 1) := by decide +kernel
theorem dX13_decays_2 : decode cX13_decays 2 = .ok (.iload_n 1, 1) := by decide +kernel
theorem dX13_decays_3 : decode cX13_decays 3 = .ok (.aload_n 0, 1) := by decide +kernel
theorem dX13_decays_4 : decode cX13_decays 4 = .ok (.getfield 16, 3) := by decide +kernel
theorem dX13_decays_7 : decode cX13_decays 7 = .ok (.iconst 0, 1) := by decide +kernel
theorem dX13_decays_8 : decode cX13_decays 8 = .ok (.iaload, 1) := by decide +kernel
theorem dX13_decays_9 : decode cX13_decays 9 = .ok (.if_icmp .ge 101, 3) := by decide +kernel
theorem dX13_decays_12 : decode cX13_decays 12 = .ok (.aload_n 0, 1) := by decide +kernel
theorem dX13_decays_13 : decode cX13_decays 13 = .ok (.getfield 32, 3) := by decide +kernel
theorem dX13_decays_16 : decode cX13_decays 16 = .ok (.iload_n 1, 1) := by decide +kernel
theorem dX13_decays_17 : decode cX13_decays 17 = .ok (.faload, 1) := by decide +kernel
theorem dX13_decays_18 : decode cX13_decays 18 = .ok (.ldc 201, 2) := by decide +kernel
theorem dX13_decays_20 : decode cX13_decays 20 = .ok (.fmul, 1) := by decide +kernel
theorem dX13_decays_21 : decode cX13_decays 21 = .ok (.fstore_n 2, 1) := by decide +kernel
theorem dX13_decays_22 : decode cX13_decays 22 = .ok (.iconst 0, 1) := by decide +kernel
theorem dX13_decays_23 : decode cX13_decays 23 = .ok (.istore_n 3, 1) := by decide +kernel
theorem dX13_decays_24 : decode cX13_decays 24 = .ok (.iload_n 3, 1) := by decide +kernel
theorem dX13_decays_25 : decode cX13_decays 25 = .ok (.aload_n 0, 1) := by decide +kernel
theorem dX13_decays_26 : decode cX13_decays 26 = .ok (.getfield 16, 3) := by decide +kernel
theorem dX13_decays_29 : decode cX13_decays 29 = .ok (.iconst 0, 1) := by decide +kernel
theorem dX13_decays_30 : decode cX13_decays 30 = .ok (.iaload, 1) := by decide +kernel
theorem dX13_decays_31 : decode cX13_decays 31 = .ok (.if_icmp .ge 30, 3) := by decide +kernel
theorem dX13_decays_34 : decode cX13_decays 34 = .ok (.aload_n 0, 1) := by decide +kernel
theorem dX13_decays_35 : decode cX13_decays 35 = .ok (.iload_n 3, 1) := by decide +kernel
theorem dX13_decays_36 : decode cX13_decays 36 = .ok (.iload_n 1, 1) := by decide +kernel
theorem dX13_decays_37 : decode cX13_decays 37 = .ok (.invokevirtual 115, 3) := by decide +kernel
theorem dX13_decays_40 : decode cX13_decays 40 = .ok (.ifCond .eq 15, 3) := by decide +kernel
theorem dX13_decays_43 : decode cX13_decays 43 = .ok (.fload_n 2, 1) := by decide +kernel
theorem dX13_decays_44 : decode cX13_decays 44 = .ok (.aload_n 0, 1) := by decide +kernel
theorem dX13_decays_45 : decode cX13_decays 45 = .ok (.getfield 32, 3) := by decide +kernel
theorem dX13_decays_48 : decode cX13_decays 48 = .ok (.iload_n 3, 1) := by decide +kernel
theorem dX13_decays_49 : decode cX13_decays 49 = .ok (.faload, 1) := by decide +kernel
theorem dX13_decays_50 : decode cX13_decays 50 = .ok (.ldc 202, 2) := by decide +kernel
theorem dX13_decays_52 : decode cX13_decays 52 = .ok (.fmul, 1) := by decide +kernel
theorem dX13_decays_53 : decode cX13_decays 53 = .ok (.fadd, 1) := by decide +kernel
theorem dX13_decays_54 : decode cX13_decays 54 = .ok (.fstore_n 2, 1) := by decide +kernel
theorem dX13_decays_55 : decode cX13_decays 55 = .ok (.iinc 3 1, 3) := by decide +kernel
theorem dX13_decays_58 : decode cX13_decays 58 = .ok (.goto (-34), 3) := by decide +kernel
theorem dX13_decays_61 : decode cX13_decays 61 = .ok (.fload_n 2, 1) := by decide +kernel
theorem dX13_decays_62 : decode cX13_decays 62 = .ok (.bipush 10, 2) := by decide +kernel
theorem dX13_decays_64 : decode cX13_decays 64 = .ok (.aload_n 0, 1) := by decide +kernel
theorem dX13_decays_65 : decode cX13_decays 65 = .ok (.aload_n 0, 1) := by decide +kernel
theorem dX13_decays_66 : decode cX13_decays 66 = .ok (.getfield 16, 3) := by decide +kernel
theorem dX13_decays_69 : decode cX13_decays 69 = .ok (.iload_n 1, 1) := by decide +kernel
theorem dX13_decays_70 : decode cX13_decays 70 = .ok (.iconst 1, 1) := by decide +kernel
theorem dX13_decays_71 : decode cX13_decays 71 = .ok (.invokestatic 95, 3) := by decide +kernel
theorem dX13_decays_74 : decode cX13_decays 74 = .ok (.iaload, 1) := by decide +kernel
theorem dX13_decays_75 : decode cX13_decays 75 = .ok (.invokevirtual 178, 3) := by decide +kernel
theorem dX13_decays_78 : decode cX13_decays 78 = .ok (.isub, 1) := by decide +kernel
theorem dX13_decays_79 : decode cX13_decays 79 = .ok (.i2f, 1) := by decide +kernel
theorem dX13_decays_80 : decode cX13_decays 80 = .ok (.fmul, 1) := by decide +kernel
theorem dX13_decays_81 : decode cX13_decays 81 = .ok (.ldc 203, 2) := by decide +kernel
theorem dX13_decays_83 : decode cX13_decays 83 = .ok (.fdiv, 1) := by decide +kernel
theorem dX13_decays_84 : decode cX13_decays 84 = .ok (.fstore_n 2, 1) := by decide +kernel
theorem dX13_decays_85 : decode cX13_decays 85 = .ok (.aload_n 0, 1) := by decide +kernel
theorem dX13_decays_86 : decode cX13_decays 86 = .ok (.getfield 45, 3) := by decide +kernel
theorem dX13_decays_89 : decode cX13_decays 89 = .ok (.iload_n 1, 1) := by decide +kernel
theorem dX13_decays_90 : decode cX13_decays 90 = .ok (.fload_n 2, 1) := by decide +kernel
theorem dX13_decays_91 : decode cX13_decays 91 = .ok (.ldc 197, 2) := by decide +kernel
theorem dX13_decays_93 : decode cX13_decays 93 = .ok (.fcmp .l, 1) := by decide +kernel
theorem dX13_decays_94 : decode cX13_decays 94 = .ok (.ifCond .le 8, 3) := by decide +kernel
theorem dX13_decays_97 : decode cX13_decays 97 = .ok (.ldc 197, 2) := by decide +kernel
theorem dX13_decays_99 : decode cX13_decays 99 = .ok (.goto 4, 3) := by decide +kernel
theorem dX13_decays_102 : decode cX13_decays 102 = .ok (.fload_n 2, 1) := by decide +kernel
theorem dX13_decays_103 : decode cX13_decays 103 = .ok (.fastore, 1) := by decide +kernel
theorem dX13_decays_104 : decode cX13_decays 104 = .ok (.iinc 1 1, 3) := by decide +kernel
theorem dX13_decays_107 : decode cX13_decays 107 = .ok (.goto (-105), 3) := by decide +kernel
theorem dX13_decays_110 : decode cX13_decays 110 = .ok (.iconst 0, 1) := by decide +kernel
theorem dX13_decays_111 : decode cX13_decays 111 = .ok (.istore_n 1, 1) := by decide +kernel
theorem dX13_decays_112 : decode cX13_decays 112 = .ok (.iload_n 1, 1) := by decide +kernel
theorem dX13_decays_113 : decode cX13_decays 113 = .ok (.aload_n 0, 1) := by decide +kernel
theorem dX13_decays_114 : decode cX13_decays 114 = .ok (.getfield 16, 3) := by decide +kernel
theorem dX13_decays_117 : decode cX13_decays 117 = .ok (.iconst 0, 1) := by decide +kernel
theorem dX13_decays_118 : decode cX13_decays 118 = .ok (.iaload, 1) := by decide +kernel
theorem dX13_decays_119 : decode cX13_decays 119 = .ok (.if_icmp .ge 21, 3) := by decide +kernel
theorem dX13_decays_122 : decode cX13_decays 122 = .ok (.aload_n 0, 1) := by decide +kernel
theorem dX13_decays_123 : decode cX13_decays 123 = .ok (.getfield 32, 3) := by decide +kernel
theorem dX13_decays_126 : decode cX13_decays 126 = .ok (.iload_n 1, 1) := by decide +kernel
theorem dX13_decays_127 : decode cX13_decays 127 = .ok (.aload_n 0, 1) := by decide +kernel
theorem dX13_decays_128 : decode cX13_decays 128 = .ok (.getfield 45, 3) := by decide +kernel
theorem dX13_decays_131 : decode cX13_decays 131 = .ok (.iload_n 1, 1) := by decide +kernel
theorem dX13_decays_132 : decode cX13_decays 132 = .ok (.faload, 1) := by decide +kernel
theorem dX13_decays_133 : decode cX13_decays 133 = .ok (.fastore, 1) := by decide +kernel
theorem dX13_decays_134 : decode cX13_decays 134 = .ok (.iinc 1 1, 3) := by decide +kernel
theorem dX13_decays_137 : decode cX13_decays 137 = .ok (.goto (-25), 3) := by decide +kernel
theorem dX13_decays_140 : decode cX13_decays 140 = .ok (.return_, 1) := by decide +kernel
set_option maxRecDepth 20000 in
theorem ggX13_scram_X13_rackAt : GoodIn wsX13_scram wsX13_rackAt := goodIn_r _ [5] rfl (by decide +kernel)
set_option maxRecDepth 20000 in
theorem gX13_scram_X13_rackAt : GoodIn wsX13_scram (va_wsS RX13 73 yX13_rackAt wsX13_rackAt) := goodIn_app (goodIn_of _ (by decide +kernel)) ggX13_scram_X13_rackAt
set_option maxRecDepth 20000 in
theorem ggX13_scram_X13_canHold : GoodIn wsX13_scram wsX13_canHold := goodIn_ca (goodIn_r _ [9, 1, 2, 3, 4, 5, 14, 15, 16, 17, 18, 19, 20, 21, 22, 23, 24, 25, 26, 27, 28, 29, 30, 31, 32, 33, 34, 35, 36, 37, 38, 39, 40, 41, 42] rfl (by decide +kernel)) (goodIn_sub (fun _ h => List.mem_cons_of_mem _ (List.mem_append_right _ h)) (by decide +kernel))
set_option maxRecDepth 20000 in
theorem gX13_scram_X13_canHold : GoodIn wsX13_scram (wsV RX13 184 RX13 yX13_canHold wsX13_canHold) := goodIn_app (goodIn_of _ (by decide +kernel)) ggX13_scram_X13_canHold
set_option maxRecDepth 20000 in
theorem ggX13_scram_X13_logs : GoodIn wsX13_scram wsX13_logs := goodIn_ca (goodIn_r _ [13, 1, 14, 15, 16, 17, 18, 19, 20, 21, 22, 23, 24, 25, 26, 27, 28, 29, 30, 31, 32, 33, 34, 35, 36, 37, 38, 39, 40, 41, 42] rfl (by decide +kernel)) (goodIn_sub (fun _ h => List.mem_cons_of_mem _ (List.mem_append_right _ h)) (by decide +kernel))
set_option maxRecDepth 20000 in
theorem gX13_scram_X13_logs : GoodIn wsX13_scram (wsV RX13 187 RX13 yX13_logs wsX13_logs) := goodIn_app (goodIn_of _ (by decide +kernel)) ggX13_scram_X13_logs
theorem dX13_scram_0 : decode cX13_scram 0 = .ok (.iconst 0, 1) := by decide +kernel
theorem dX13_scram_1 : decode cX13_scram 1 = .ok (.istore_n 1, 1) := by decide +kernel
theorem dX13_scram_2 : decode cX13_scram 2 = .ok (.iload_n 1, 1) := by decide +kernel
theorem dX13_scram_3 : decode cX13_scram 3 = .ok (.iconst 4, 1) := by decide +kernel
theorem dX13_scram_4 : decode cX13_scram 4 = .ok (.if_icmp .ge 62, 3) := by decide +kernel
theorem dX13_scram_7 : decode cX13_scram 7 = .ok (.iconst 1, 1) := by decide +kernel
theorem dX13_scram_8 : decode cX13_scram 8 = .ok (.istore_n 2, 1) := by decide +kernel
theorem dX13_scram_9 : decode cX13_scram 9 = .ok (.iload_n 2, 1) := by decide +kernel
theorem dX13_scram_10 : decode cX13_scram 10 = .ok (.iconst 3, 1) := by decide +kernel
theorem dX13_scram_11 : decode cX13_scram 11 = .ok (.if_icmp .gt 49, 3) := by decide +kernel
theorem dX13_scram_14 : decode cX13_scram 14 = .ok (.aload_n 0, 1) := by decide +kernel
theorem dX13_scram_15 : decode cX13_scram 15 = .ok (.getfield 16, 3) := by decide +kernel
theorem dX13_scram_18 : decode cX13_scram 18 = .ok (.iload_n 1, 1) := by decide +kernel
theorem dX13_scram_19 : decode cX13_scram 19 = .ok (.iload_n 2, 1) := by decide +kernel
theorem dX13_scram_20 : decode cX13_scram 20 = .ok (.invokestatic 73, 3) := by decide +kernel
theorem dX13_scram_23 : decode cX13_scram 23 = .ok (.iaload, 1) := by decide +kernel
theorem dX13_scram_24 : decode cX13_scram 24 = .ok (.ifCond .ne 30, 3) := by decide +kernel
theorem dX13_scram_27 : decode cX13_scram 27 = .ok (.aload_n 0, 1) := by decide +kernel
theorem dX13_scram_28 : decode cX13_scram 28 = .ok (.getfield 16, 3) := by decide +kernel
theorem dX13_scram_31 : decode cX13_scram 31 = .ok (.iload_n 1, 1) := by decide +kernel
theorem dX13_scram_32 : decode cX13_scram 32 = .ok (.iload_n 2, 1) := by decide +kernel
theorem dX13_scram_33 : decode cX13_scram 33 = .ok (.invokestatic 73, 3) := by decide +kernel
theorem dX13_scram_36 : decode cX13_scram 36 = .ok (.aload_n 0, 1) := by decide +kernel
theorem dX13_scram_37 : decode cX13_scram 37 = .ok (.iload_n 1, 1) := by decide +kernel
theorem dX13_scram_38 : decode cX13_scram 38 = .ok (.bipush 111, 2) := by decide +kernel
theorem dX13_scram_40 : decode cX13_scram 40 = .ok (.invokevirtual 184, 3) := by decide +kernel
theorem dX13_scram_43 : decode cX13_scram 43 = .ok (.ifCond .eq 8, 3) := by decide +kernel
theorem dX13_scram_46 : decode cX13_scram 46 = .ok (.bipush 111, 2) := by decide +kernel
theorem dX13_scram_48 : decode cX13_scram 48 = .ok (.goto 5, 3) := by decide +kernel
theorem dX13_scram_51 : decode cX13_scram 51 = .ok (.bipush 113, 2) := by decide +kernel
theorem dX13_scram_53 : decode cX13_scram 53 = .ok (.iastore, 1) := by decide +kernel
theorem dX13_scram_54 : decode cX13_scram 54 = .ok (.iinc 2 1, 3) := by decide +kernel
theorem dX13_scram_57 : decode cX13_scram 57 = .ok (.goto (-48), 3) := by decide +kernel
theorem dX13_scram_60 : decode cX13_scram 60 = .ok (.iinc 1 1, 3) := by decide +kernel
theorem dX13_scram_63 : decode cX13_scram 63 = .ok (.goto (-61), 3) := by decide +kernel
theorem dX13_scram_66 : decode cX13_scram 66 = .ok (.aload_n 0, 1) := by decide +kernel
theorem dX13_scram_67 : decode cX13_scram 67 = .ok (.getfield 16, 3) := by decide +kernel
theorem dX13_scram_70 : decode cX13_scram 70 = .ok (.iconst 3, 1) := by decide +kernel
theorem dX13_scram_71 : decode cX13_scram 71 = .ok (.dup2, 1) := by decide +kernel
theorem dX13_scram_72 : decode cX13_scram 72 = .ok (.iaload, 1) := by decide +kernel
theorem dX13_scram_73 : decode cX13_scram 73 = .ok (.iconst 1, 1) := by decide +kernel
theorem dX13_scram_74 : decode cX13_scram 74 = .ok (.iadd, 1) := by decide +kernel
theorem dX13_scram_75 : decode cX13_scram 75 = .ok (.iastore, 1) := by decide +kernel
theorem dX13_scram_76 : decode cX13_scram 76 = .ok (.aload_n 0, 1) := by decide +kernel
theorem dX13_scram_77 : decode cX13_scram 77 = .ok (.bipush 115, 2) := by decide +kernel
theorem dX13_scram_79 : decode cX13_scram 79 = .ok (.invokevirtual 187, 3) := by decide +kernel
theorem dX13_scram_82 : decode cX13_scram 82 = .ok (.return_, 1) := by decide +kernel
set_option maxRecDepth 20000 in
theorem ggX13_passes_X13_isIn : GoodIn wsX13_passes wsX13_isIn := goodIn_r _ [5] rfl (by decide +kernel)
set_option maxRecDepth 20000 in
theorem gX13_passes_X13_isIn : GoodIn wsX13_passes (va_wsS RX13 91 yX13_isIn wsX13_isIn) := goodIn_app (goodIn_of _ (by decide +kernel)) ggX13_passes_X13_isIn
set_option maxRecDepth 20000 in
theorem ggX13_passes_X13_fail : GoodIn wsX13_passes wsX13_fail := goodIn_r _ [9, 10, 51, 52, 53, 54, 55, 56, 57, 58, 59, 60, 61, 62, 63, 64, 65, 66, 67, 68, 69, 70, 71, 72, 73, 74, 75, 76, 77, 78, 79] rfl (by decide +kernel)
set_option maxRecDepth 20000 in
theorem gX13_passes_X13_fail : GoodIn wsX13_passes (wsV RX13 98 RX13 yX13_fail wsX13_fail) := goodIn_app (goodIn_of _ (by decide +kernel)) ggX13_passes_X13_fail
set_option maxRecDepth 20000 in
theorem ggX13_passes_X13_decays : GoodIn wsX13_passes wsX13_decays := goodIn_ca (goodIn_r _ [14, 1, 15, 16, 17, 18, 19, 20, 21, 22, 23, 4, 24, 25, 26, 27, 28, 29, 30, 31, 32, 33, 34, 51, 52, 53, 54, 55, 56, 57, 58, 59, 60, 61, 62, 63, 64, 65, 66, 67, 68, 69, 70, 71, 72, 73, 74, 75, 76, 77, 78, 79] rfl (by decide +kernel)) (goodIn_sub (fun _ h => List.mem_cons_of_mem _ (List.mem_append_right _ h)) (by decide +kernel))
set_option maxRecDepth 20000 in
theorem gX13_passes_X13_decays : GoodIn wsX13_passes (wsV RX13 204 RX13 yX13_decays wsX13_decays) := goodIn_app (goodIn_of _ (by decide +kernel)) ggX13_passes_X13_decays
set_option maxRecDepth 20000 in
theorem ggX13_passes_X13_sum : GoodIn wsX13_passes wsX13_sum := goodIn_ca (goodIn_r _ [38, 1, 15, 51, 52, 53, 54, 55, 56, 57, 58, 59, 60, 61, 62, 63, 64, 65, 66, 67, 68, 69, 70, 71, 72, 73, 74, 75, 76, 77, 78, 79] rfl (by decide +kernel)) (goodIn_sub (fun _ h => List.mem_cons_of_mem _ (List.mem_append_right _ h)) (by decide +kernel))
set_option maxRecDepth 20000 in
theorem gX13_passes_X13_sum : GoodIn wsX13_passes (wsV RX13 207 RX13 yX13_sum wsX13_sum) := goodIn_app (goodIn_of _ (by decide +kernel)) ggX13_passes_X13_sum
set_option maxRecDepth 20000 in
theorem ggX13_passes_X13_scram : GoodIn wsX13_passes wsX13_scram := goodIn_ca (goodIn_r _ [42, 1, 32, 33, 4, 34, 43, 44, 45, 46, 47, 48, 49, 50, 51, 52, 53, 54, 55, 56, 57, 58, 59, 60, 61, 62, 63, 64, 65, 66, 67, 68, 69, 70, 71, 72, 73, 74, 75, 76, 77, 78, 79] rfl (by decide +kernel)) (goodIn_sub (fun _ h => List.mem_cons_of_mem _ (List.mem_append_right _ h)) (by decide +kernel))
set_option maxRecDepth 20000 in
theorem gX13_passes_X13_scram : GoodIn wsX13_passes (wsV RX13 211 RX13 yX13_scram wsX13_scram) := goodIn_app (goodIn_of _ (by decide +kernel)) ggX13_passes_X13_scram
theorem dX13_passes_0 : decode cX13_passes 0 = .ok (.iload_n 1, 1) := by decide +kernel
theorem dX13_passes_1 : decode cX13_passes 1 = .ok (.iconst 1, 1) := by decide +kernel
theorem dX13_passes_2 : decode cX13_passes 2 = .ok (.bipush 20, 2) := by decide +kernel
theorem dX13_passes_4 : decode cX13_passes 4 = .ok (.invokestatic 91, 3) := by decide +kernel
theorem dX13_passes_7 : decode cX13_passes 7 = .ok (.ifCond .ne 9, 3) := by decide +kernel
theorem dX13_passes_10 : decode cX13_passes 10 = .ok (.aload_n 0, 1) := by decide +kernel
theorem dX13_passes_11 : decode cX13_passes 11 = .ok (.iconst 1, 1) := by decide +kernel
theorem dX13_passes_12 : decode cX13_passes 12 = .ok (.invokevirtual 98, 3) := by decide +kernel
theorem dX13_passes_15 : decode cX13_passes 15 = .ok (.ireturn, 1) := by decide +kernel
theorem dX13_passes_16 : decode cX13_passes 16 = .ok (.aload_n 0, 1) := by decide +kernel
theorem dX13_passes_17 : decode cX13_passes 17 = .ok (.getfield 16, 3) := by decide +kernel
theorem dX13_passes_20 : decode cX13_passes 20 = .ok (.iconst 3, 1) := by decide +kernel
theorem dX13_passes_21 : decode cX13_passes 21 = .ok (.iaload, 1) := by decide +kernel
theorem dX13_passes_22 : decode cX13_passes 22 = .ok (.istore_n 2, 1) := by decide +kernel
theorem dX13_passes_23 : decode cX13_passes 23 = .ok (.iconst 0, 1) := by decide +kernel
theorem dX13_passes_24 : decode cX13_passes 24 = .ok (.istore_n 3, 1) := by decide +kernel
theorem dX13_passes_25 : decode cX13_passes 25 = .ok (.iload_n 3, 1) := by decide +kernel
theorem dX13_passes_26 : decode cX13_passes 26 = .ok (.iload_n 1, 1) := by decide +kernel
theorem dX13_passes_27 : decode cX13_passes 27 = .ok (.if_icmp .ge 42, 3) := by decide +kernel
theorem dX13_passes_30 : decode cX13_passes 30 = .ok (.aload_n 0, 1) := by decide +kernel
theorem dX13_passes_31 : decode cX13_passes 31 = .ok (.getfield 16, 3) := by decide +kernel
theorem dX13_passes_34 : decode cX13_passes 34 = .ok (.iconst 2, 1) := by decide +kernel
theorem dX13_passes_35 : decode cX13_passes 35 = .ok (.dup2, 1) := by decide +kernel
theorem dX13_passes_36 : decode cX13_passes 36 = .ok (.iaload, 1) := by decide +kernel
theorem dX13_passes_37 : decode cX13_passes 37 = .ok (.iconst 1, 1) := by decide +kernel
theorem dX13_passes_38 : decode cX13_passes 38 = .ok (.iadd, 1) := by decide +kernel
theorem dX13_passes_39 : decode cX13_passes 39 = .ok (.iastore, 1) := by decide +kernel
theorem dX13_passes_40 : decode cX13_passes 40 = .ok (.aload_n 0, 1) := by decide +kernel
theorem dX13_passes_41 : decode cX13_passes 41 = .ok (.invokevirtual 204, 3) := by decide +kernel
theorem dX13_passes_44 : decode cX13_passes 44 = .ok (.aload_n 0, 1) := by decide +kernel
theorem dX13_passes_45 : decode cX13_passes 45 = .ok (.invokevirtual 207, 3) := by decide +kernel
theorem dX13_passes_48 : decode cX13_passes 48 = .ok (.aload_n 0, 1) := by decide +kernel
theorem dX13_passes_49 : decode cX13_passes 49 = .ok (.getfield 16, 3) := by decide +kernel
theorem dX13_passes_52 : decode cX13_passes 52 = .ok (.iconst 1, 1) := by decide +kernel
theorem dX13_passes_53 : decode cX13_passes 53 = .ok (.iaload, 1) := by decide +kernel
theorem dX13_passes_54 : decode cX13_passes 54 = .ok (.i2f, 1) := by decide +kernel
theorem dX13_passes_55 : decode cX13_passes 55 = .ok (.fcmp .l, 1) := by decide +kernel
theorem dX13_passes_56 : decode cX13_passes 56 = .ok (.ifCond .le 7, 3) := by decide +kernel
theorem dX13_passes_59 : decode cX13_passes 59 = .ok (.aload_n 0, 1) := by decide +kernel
theorem dX13_passes_60 : decode cX13_passes 60 = .ok (.invokevirtual 211, 3) := by decide +kernel
theorem dX13_passes_63 : decode cX13_passes 63 = .ok (.iinc 3 1, 3) := by decide +kernel
theorem dX13_passes_66 : decode cX13_passes 66 = .ok (.goto (-41), 3) := by decide +kernel
theorem dX13_passes_69 : decode cX13_passes 69 = .ok (.aload_n 0, 1) := by decide +kernel
theorem dX13_passes_70 : decode cX13_passes 70 = .ok (.getfield 16, 3) := by decide +kernel
theorem dX13_passes_73 : decode cX13_passes 73 = .ok (.iconst 3, 1) := by decide +kernel
theorem dX13_passes_74 : decode cX13_passes 74 = .ok (.iaload, 1) := by decide +kernel
theorem dX13_passes_75 : decode cX13_passes 75 = .ok (.iload_n 2, 1) := by decide +kernel
theorem dX13_passes_76 : decode cX13_passes 76 = .ok (.isub, 1) := by decide +kernel
theorem dX13_passes_77 : decode cX13_passes 77 = .ok (.ireturn, 1) := by decide +kernel
set_option maxRecDepth 20000 in
theorem ggX13_pass_X13_begins : GoodIn wsX13_pass wsX13_begins := goodIn_ca (goodIn_r _ [5, 6, 7, 8, 9, 10, 11, 12, 4, 13, 14, 15, 16, 74, 75, 76, 77, 78, 79, 80, 81, 82, 83, 84, 85, 86, 87, 88, 89, 90, 91, 92, 93, 94, 95, 96, 97, 98, 99, 100, 101, 102] rfl (by decide +kernel)) (goodIn_sub (fun _ h => List.mem_cons_of_mem _ (List.mem_append_right _ h)) (by decide +kernel))
set_option maxRecDepth 20000 in
theorem gX13_pass_X13_begins : GoodIn wsX13_pass (wsV RX13 102 RX13 yX13_begins wsX13_begins) := goodIn_app (goodIn_of _ (by decide +kernel)) ggX13_pass_X13_begins
set_option maxRecDepth 20000 in
theorem ggX13_pass_X13_passes : GoodIn wsX13_pass wsX13_passes := goodIn_ca (goodIn_r _ [20, 8, 21, 22, 4, 23, 24, 25, 26, 27, 6, 28, 29, 30, 31, 10, 32, 33, 34, 35, 36, 37, 38, 39, 40, 41, 42, 43, 44, 45, 46, 47, 48, 49, 50, 51, 52, 53, 54, 55, 56, 57, 58, 59, 60, 61, 62, 63, 64, 65, 66, 74, 75, 76, 77, 78, 79, 80, 81, 82, 83, 84, 85, 86, 87, 88, 89, 90, 91, 92, 93, 94, 95, 96, 97, 98, 99, 100, 101, 102] rfl (by decide +kernel)) (goodIn_sub (fun _ h => List.mem_cons_of_mem _ (List.mem_append_right _ h)) (by decide +kernel))
set_option maxRecDepth 20000 in
theorem gX13_pass_X13_passes : GoodIn wsX13_pass (wsV RX13 214 RX13 yX13_passes wsX13_passes) := goodIn_app (goodIn_of _ (by decide +kernel)) ggX13_pass_X13_passes
set_option maxRecDepth 20000 in
theorem ggX13_pass_X13_ends : GoodIn wsX13_pass wsX13_ends := goodIn_ca (goodIn_r _ [70, 6, 8, 7, 10, 9, 71, 72, 73, 11, 12, 4, 13, 14, 15, 16, 74, 75, 76, 77, 78, 79, 80, 81, 82, 83, 84, 85, 86, 87, 88, 89, 90, 91, 92, 93, 94, 95, 96, 97, 98, 99, 100, 101, 102] rfl (by decide +kernel)) (goodIn_sub (fun _ h => List.mem_cons_of_mem _ (List.mem_append_right _ h)) (by decide +kernel))
set_option maxRecDepth 20000 in
theorem gX13_pass_X13_ends : GoodIn wsX13_pass (wsV RX13 108 RX13 yX13_ends wsX13_ends) := goodIn_app (goodIn_of _ (by decide +kernel)) ggX13_pass_X13_ends
theorem dX13_pass_0 : decode cX13_pass 0 = .ok (.aload_n 0, 1) := by decide +kernel
theorem dX13_pass_1 : decode cX13_pass 1 = .ok (.invokevirtual 102, 3) := by decide +kernel
theorem dX13_pass_4 : decode cX13_pass 4 = .ok (.aload_n 0, 1) := by decide +kernel
theorem dX13_pass_5 : decode cX13_pass 5 = .ok (.aload_n 0, 1) := by decide +kernel
theorem dX13_pass_6 : decode cX13_pass 6 = .ok (.iload_n 1, 1) := by decide +kernel
theorem dX13_pass_7 : decode cX13_pass 7 = .ok (.invokevirtual 214, 3) := by decide +kernel
theorem dX13_pass_10 : decode cX13_pass 10 = .ok (.invokevirtual 108, 3) := by decide +kernel
theorem dX13_pass_13 : decode cX13_pass 13 = .ok (.ireturn, 1) := by decide +kernel
set_option maxRecDepth 20000 in
theorem ggX13_limits_X13_isIn : GoodIn wsX13_limits wsX13_isIn := goodIn_r _ [5] rfl (by decide +kernel)
set_option maxRecDepth 20000 in
theorem gX13_limits_X13_isIn : GoodIn wsX13_limits (va_wsS RX13 91 yX13_isIn wsX13_isIn) := goodIn_app (goodIn_of _ (by decide +kernel)) ggX13_limits_X13_isIn
set_option maxRecDepth 20000 in
theorem ggX13_limits_X13_fail : GoodIn wsX13_limits wsX13_fail := goodIn_r _ [9, 10, 11, 12, 13, 14, 15, 16, 17, 18, 19, 20, 21, 22, 23, 24, 25, 26, 27, 28, 29, 30, 31, 32, 33, 34, 35, 36, 37, 38, 39] rfl (by decide +kernel)
set_option maxRecDepth 20000 in
theorem gX13_limits_X13_fail : GoodIn wsX13_limits (wsV RX13 98 RX13 yX13_fail wsX13_fail) := goodIn_app (goodIn_of _ (by decide +kernel)) ggX13_limits_X13_fail
theorem dX13_limits_0 : decode cX13_limits 0 = .ok (.iload_n 1, 1) := by decide +kernel
theorem dX13_limits_1 : decode cX13_limits 1 = .ok (.iconst 1, 1) := by decide +kernel
theorem dX13_limits_2 : decode cX13_limits 2 = .ok (.sipush 9999, 3) := by decide +kernel
theorem dX13_limits_5 : decode cX13_limits 5 = .ok (.invokestatic 91, 3) := by decide +kernel
theorem dX13_limits_8 : decode cX13_limits 8 = .ok (.ifCond .ne 9, 3) := by decide +kernel
theorem dX13_limits_11 : decode cX13_limits 11 = .ok (.aload_n 0, 1) := by decide +kernel
theorem dX13_limits_12 : decode cX13_limits 12 = .ok (.iconst 1, 1) := by decide +kernel
theorem dX13_limits_13 : decode cX13_limits 13 = .ok (.invokevirtual 98, 3) := by decide +kernel
theorem dX13_limits_16 : decode cX13_limits 16 = .ok (.ireturn, 1) := by decide +kernel
theorem dX13_limits_17 : decode cX13_limits 17 = .ok (.aload_n 0, 1) := by decide +kernel
theorem dX13_limits_18 : decode cX13_limits 18 = .ok (.getfield 16, 3) := by decide +kernel
theorem dX13_limits_21 : decode cX13_limits 21 = .ok (.iconst 1, 1) := by decide +kernel
theorem dX13_limits_22 : decode cX13_limits 22 = .ok (.iaload, 1) := by decide +kernel
theorem dX13_limits_23 : decode cX13_limits 23 = .ok (.istore_n 2, 1) := by decide +kernel
theorem dX13_limits_24 : decode cX13_limits 24 = .ok (.aload_n 0, 1) := by decide +kernel
theorem dX13_limits_25 : decode cX13_limits 25 = .ok (.getfield 16, 3) := by decide +kernel
theorem dX13_limits_28 : decode cX13_limits 28 = .ok (.iconst 1, 1) := by decide +kernel
theorem dX13_limits_29 : decode cX13_limits 29 = .ok (.iload_n 1, 1) := by decide +kernel
theorem dX13_limits_30 : decode cX13_limits 30 = .ok (.iastore, 1) := by decide +kernel
theorem dX13_limits_31 : decode cX13_limits 31 = .ok (.iload_n 2, 1) := by decide +kernel
theorem dX13_limits_32 : decode cX13_limits 32 = .ok (.ireturn, 1) := by decide +kernel
set_option maxRecDepth 20000 in
theorem ggX13_setLimit_X13_begins : GoodIn wsX13_setLimit wsX13_begins := goodIn_ca (goodIn_r _ [5, 6, 7, 8, 9, 10, 11, 12, 4, 13, 14, 15, 16, 35, 36, 37, 38, 39, 40, 41, 42, 43, 44, 45, 46, 47, 48, 49, 50, 51, 52, 53, 54, 55, 56, 57, 58, 59, 60, 61, 62, 63] rfl (by decide +kernel)) (goodIn_sub (fun _ h => List.mem_cons_of_mem _ (List.mem_append_right _ h)) (by decide +kernel))
set_option maxRecDepth 20000 in
theorem gX13_setLimit_X13_begins : GoodIn wsX13_setLimit (wsV RX13 102 RX13 yX13_begins wsX13_begins) := goodIn_app (goodIn_of _ (by decide +kernel)) ggX13_setLimit_X13_begins
set_option maxRecDepth 20000 in
theorem ggX13_setLimit_X13_limits : GoodIn wsX13_setLimit wsX13_limits := goodIn_ca (goodIn_r _ [20, 8, 21, 22, 4, 23, 24, 25, 26, 27, 6, 35, 36, 37, 38, 39, 40, 41, 42, 43, 44, 45, 46, 47, 48, 49, 50, 51, 52, 53, 54, 55, 56, 57, 58, 59, 60, 61, 62, 63] rfl (by decide +kernel)) (goodIn_sub (fun _ h => List.mem_cons_of_mem _ (List.mem_append_right _ h)) (by decide +kernel))
set_option maxRecDepth 20000 in
theorem gX13_setLimit_X13_limits : GoodIn wsX13_setLimit (wsV RX13 217 RX13 yX13_limits wsX13_limits) := goodIn_app (goodIn_of _ (by decide +kernel)) ggX13_setLimit_X13_limits
set_option maxRecDepth 20000 in
theorem ggX13_setLimit_X13_ends : GoodIn wsX13_setLimit wsX13_ends := goodIn_ca (goodIn_r _ [31, 6, 8, 7, 10, 9, 32, 33, 34, 11, 12, 4, 13, 14, 15, 16, 35, 36, 37, 38, 39, 40, 41, 42, 43, 44, 45, 46, 47, 48, 49, 50, 51, 52, 53, 54, 55, 56, 57, 58, 59, 60, 61, 62, 63] rfl (by decide +kernel)) (goodIn_sub (fun _ h => List.mem_cons_of_mem _ (List.mem_append_right _ h)) (by decide +kernel))
set_option maxRecDepth 20000 in
theorem gX13_setLimit_X13_ends : GoodIn wsX13_setLimit (wsV RX13 108 RX13 yX13_ends wsX13_ends) := goodIn_app (goodIn_of _ (by decide +kernel)) ggX13_setLimit_X13_ends
theorem dX13_setLimit_0 : decode cX13_setLimit 0 = .ok (.aload_n 0, 1) := by decide +kernel
theorem dX13_setLimit_1 : decode cX13_setLimit 1 = .ok (.invokevirtual 102, 3) := by decide +kernel
theorem dX13_setLimit_4 : decode cX13_setLimit 4 = .ok (.aload_n 0, 1) := by decide +kernel
theorem dX13_setLimit_5 : decode cX13_setLimit 5 = .ok (.aload_n 0, 1) := by decide +kernel
theorem dX13_setLimit_6 : decode cX13_setLimit 6 = .ok (.iload_n 1, 1) := by decide +kernel
theorem dX13_setLimit_7 : decode cX13_setLimit 7 = .ok (.invokevirtual 217, 3) := by decide +kernel
theorem dX13_setLimit_10 : decode cX13_setLimit 10 = .ok (.invokevirtual 108, 3) := by decide +kernel
theorem dX13_setLimit_13 : decode cX13_setLimit 13 = .ok (.ireturn, 1) := by decide +kernel
set_option maxRecDepth 20000 in
theorem ggX13_fluxOf_X13_looks : GoodIn wsX13_fluxOf wsX13_looks := goodIn_ca (goodIn_r _ [6, 7, 8, 9, 10, 5, 11, 12, 13, 14, 15, 16, 17, 18, 19, 20, 21, 22, 23, 24, 25, 26, 27, 28, 29, 30, 31, 32, 33, 34, 35, 36, 37, 38, 39, 40, 41, 42, 43, 44] rfl (by decide +kernel)) (goodIn_sub (fun _ h => List.mem_cons_of_mem _ (List.mem_append_right _ h)) (by decide +kernel))
set_option maxRecDepth 20000 in
theorem gX13_fluxOf_X13_looks : GoodIn wsX13_fluxOf (wsV RX13 129 RX13 yX13_looks wsX13_looks) := goodIn_app (goodIn_of _ (by decide +kernel)) ggX13_fluxOf_X13_looks
theorem dX13_fluxOf_0 : decode cX13_fluxOf 0 = .ok (.aload_n 0, 1) := by decide +kernel
theorem dX13_fluxOf_1 : decode cX13_fluxOf 1 = .ok (.iload_n 1, 1) := by decide +kernel
theorem dX13_fluxOf_2 : decode cX13_fluxOf 2 = .ok (.invokevirtual 129, 3) := by decide +kernel
theorem dX13_fluxOf_5 : decode cX13_fluxOf 5 = .ok (.ifCond .eq 12, 3) := by decide +kernel
theorem dX13_fluxOf_8 : decode cX13_fluxOf 8 = .ok (.aload_n 0, 1) := by decide +kernel
theorem dX13_fluxOf_9 : decode cX13_fluxOf 9 = .ok (.getfield 32, 3) := by decide +kernel
theorem dX13_fluxOf_12 : decode cX13_fluxOf 12 = .ok (.iload_n 1, 1) := by decide +kernel
theorem dX13_fluxOf_13 : decode cX13_fluxOf 13 = .ok (.faload, 1) := by decide +kernel
theorem dX13_fluxOf_14 : decode cX13_fluxOf 14 = .ok (.goto 4, 3) := by decide +kernel
theorem dX13_fluxOf_17 : decode cX13_fluxOf 17 = .ok (.fconst 0, 1) := by decide +kernel
theorem dX13_fluxOf_18 : decode cX13_fluxOf 18 = .ok (.freturn, 1) := by decide +kernel
set_option maxRecDepth 20000 in
theorem ggX13_fluxBits_X13_looks : GoodIn wsX13_fluxBits wsX13_looks := goodIn_ca (goodIn_r _ [6, 7, 8, 9, 10, 5, 11, 12, 13, 14, 15, 28, 29, 30, 31, 32, 33, 34, 35, 36, 37, 38, 39, 40, 41, 42, 43, 44, 45, 46, 47, 48, 49, 50, 51, 52, 53, 54, 55, 56] rfl (by decide +kernel)) (goodIn_sub (fun _ h => List.mem_cons_of_mem _ (List.mem_append_right _ h)) (by decide +kernel))
set_option maxRecDepth 20000 in
theorem gX13_fluxBits_X13_looks : GoodIn wsX13_fluxBits (wsV RX13 129 RX13 yX13_looks wsX13_looks) := goodIn_app (goodIn_of _ (by decide +kernel)) ggX13_fluxBits_X13_looks
set_option maxRecDepth 20000 in
theorem ggX13_fluxBits_Jxf58ca_floatToIntBits_5c35a : GoodIn wsX13_fluxBits wsJxf58ca_floatToIntBits_5c35a := goodIn_r _ [19, 20, 21, 22, 23, 24, 25, 26, 18, 27] rfl (by decide +kernel)
set_option maxRecDepth 20000 in
theorem gX13_fluxBits_Jxf58ca_floatToIntBits_5c35a : GoodIn wsX13_fluxBits (va_wsS RX13 220 yJxf58ca_floatToIntBits_5c35a wsJxf58ca_floatToIntBits_5c35a) := goodIn_app (goodIn_of _ (by decide +kernel)) ggX13_fluxBits_Jxf58ca_floatToIntBits_5c35a
theorem dX13_fluxBits_0 : decode cX13_fluxBits 0 = .ok (.aload_n 0, 1) := by decide +kernel
theorem dX13_fluxBits_1 : decode cX13_fluxBits 1 = .ok (.iload_n 1, 1) := by decide +kernel
theorem dX13_fluxBits_2 : decode cX13_fluxBits 2 = .ok (.invokevirtual 129, 3) := by decide +kernel
theorem dX13_fluxBits_5 : decode cX13_fluxBits 5 = .ok (.ifCond .eq 15, 3) := by decide +kernel
theorem dX13_fluxBits_8 : decode cX13_fluxBits 8 = .ok (.aload_n 0, 1) := by decide +kernel
theorem dX13_fluxBits_9 : decode cX13_fluxBits 9 = .ok (.getfield 32, 3) := by decide +kernel
theorem dX13_fluxBits_12 : decode cX13_fluxBits 12 = .ok (.iload_n 1, 1) := by decide +kernel
theorem dX13_fluxBits_13 : decode cX13_fluxBits 13 = .ok (.faload, 1) := by decide +kernel
theorem dX13_fluxBits_14 : decode cX13_fluxBits 14 = .ok (.invokestatic 220, 3) := by decide +kernel
theorem dX13_fluxBits_17 : decode cX13_fluxBits 17 = .ok (.goto 4, 3) := by decide +kernel
theorem dX13_fluxBits_20 : decode cX13_fluxBits 20 = .ok (.iconst 0, 1) := by decide +kernel
theorem dX13_fluxBits_21 : decode cX13_fluxBits 21 = .ok (.ireturn, 1) := by decide +kernel
set_option maxRecDepth 20000 in
theorem ggX13_power_X13_sum : GoodIn wsX13_power wsX13_sum := goodIn_ca (goodIn_r _ [6, 7, 8, 9, 10, 11, 12, 13, 14, 15, 16, 17, 18, 19, 20, 21, 22, 23, 24, 25, 26, 27, 28, 29, 30, 31, 32, 33, 34, 35, 36, 37] rfl (by decide +kernel)) (goodIn_sub (fun _ h => List.mem_cons_of_mem _ (List.mem_append_right _ h)) (by decide +kernel))
set_option maxRecDepth 20000 in
theorem gX13_power_X13_sum : GoodIn wsX13_power (wsV RX13 207 RX13 yX13_sum wsX13_sum) := goodIn_app (goodIn_of _ (by decide +kernel)) ggX13_power_X13_sum
theorem dX13_power_0 : decode cX13_power 0 = .ok (.aload_n 0, 1) := by decide +kernel
theorem dX13_power_1 : decode cX13_power 1 = .ok (.iconst 0, 1) := by decide +kernel
theorem dX13_power_2 : decode cX13_power 2 = .ok (.putfield 77, 3) := by decide +kernel
theorem dX13_power_5 : decode cX13_power 5 = .ok (.aload_n 0, 1) := by decide +kernel
theorem dX13_power_6 : decode cX13_power 6 = .ok (.invokevirtual 207, 3) := by decide +kernel
theorem dX13_power_9 : decode cX13_power 9 = .ok (.freturn, 1) := by decide +kernel
set_option maxRecDepth 20000 in
theorem ggX13_powerBits_X13_sum : GoodIn wsX13_powerBits wsX13_sum := goodIn_ca (goodIn_r _ [6, 7, 8, 21, 22, 23, 24, 25, 26, 27, 28, 29, 30, 31, 32, 33, 34, 35, 36, 37, 38, 39, 40, 41, 42, 43, 44, 45, 46, 47, 48, 49] rfl (by decide +kernel)) (goodIn_sub (fun _ h => List.mem_cons_of_mem _ (List.mem_append_right _ h)) (by decide +kernel))
set_option maxRecDepth 20000 in
theorem gX13_powerBits_X13_sum : GoodIn wsX13_powerBits (wsV RX13 207 RX13 yX13_sum wsX13_sum) := goodIn_app (goodIn_of _ (by decide +kernel)) ggX13_powerBits_X13_sum
set_option maxRecDepth 20000 in
theorem ggX13_powerBits_Jxf58ca_floatToIntBits_5c35a : GoodIn wsX13_powerBits wsJxf58ca_floatToIntBits_5c35a := goodIn_r _ [12, 13, 14, 15, 16, 17, 18, 19, 11, 20] rfl (by decide +kernel)
set_option maxRecDepth 20000 in
theorem gX13_powerBits_Jxf58ca_floatToIntBits_5c35a : GoodIn wsX13_powerBits (va_wsS RX13 220 yJxf58ca_floatToIntBits_5c35a wsJxf58ca_floatToIntBits_5c35a) := goodIn_app (goodIn_of _ (by decide +kernel)) ggX13_powerBits_Jxf58ca_floatToIntBits_5c35a
theorem dX13_powerBits_0 : decode cX13_powerBits 0 = .ok (.aload_n 0, 1) := by decide +kernel
theorem dX13_powerBits_1 : decode cX13_powerBits 1 = .ok (.iconst 0, 1) := by decide +kernel
theorem dX13_powerBits_2 : decode cX13_powerBits 2 = .ok (.putfield 77, 3) := by decide +kernel
theorem dX13_powerBits_5 : decode cX13_powerBits 5 = .ok (.aload_n 0, 1) := by decide +kernel
theorem dX13_powerBits_6 : decode cX13_powerBits 6 = .ok (.invokevirtual 207, 3) := by decide +kernel
theorem dX13_powerBits_9 : decode cX13_powerBits 9 = .ok (.invokestatic 220, 3) := by decide +kernel
theorem dX13_powerBits_12 : decode cX13_powerBits 12 = .ok (.ireturn, 1) := by decide +kernel
set_option maxRecDepth 20000 in
theorem ggX13_shiftsUntilBelow_X13_isIn : GoodIn wsX13_shiftsUntilBelow wsX13_isIn := goodIn_r _ [9] rfl (by decide +kernel)
set_option maxRecDepth 20000 in
theorem gX13_shiftsUntilBelow_X13_isIn : GoodIn wsX13_shiftsUntilBelow (va_wsS RX13 91 yX13_isIn wsX13_isIn) := goodIn_app (goodIn_of _ (by decide +kernel)) ggX13_shiftsUntilBelow_X13_isIn
set_option maxRecDepth 20000 in
theorem ggX13_shiftsUntilBelow_X13_lays : GoodIn wsX13_shiftsUntilBelow wsX13_lays := goodIn_ca (goodIn_r _ [12] rfl (by decide +kernel)) (goodIn_sub (fun _ h => List.mem_cons_of_mem _ (List.mem_append_right _ h)) (by decide +kernel))
set_option maxRecDepth 20000 in
theorem gX13_shiftsUntilBelow_X13_lays : GoodIn wsX13_shiftsUntilBelow (va_wsS RX13 80 yX13_lays wsX13_lays) := goodIn_app (goodIn_of _ (by decide +kernel)) ggX13_shiftsUntilBelow_X13_lays
set_option maxRecDepth 20000 in
theorem ggX13_shiftsUntilBelow_X13_flows : GoodIn wsX13_shiftsUntilBelow wsX13_flows := goodIn_ca (goodIn_r _ [15] rfl (by decide +kernel)) (goodIn_sub (fun _ h => List.mem_cons_of_mem _ (List.mem_append_right _ h)) (by decide +kernel))
set_option maxRecDepth 20000 in
theorem gX13_shiftsUntilBelow_X13_flows : GoodIn wsX13_shiftsUntilBelow (va_wsS RX13 84 yX13_flows wsX13_flows) := goodIn_app (goodIn_of _ (by decide +kernel)) ggX13_shiftsUntilBelow_X13_flows
set_option maxRecDepth 20000 in
theorem ggX13_shiftsUntilBelow_X13_sum : GoodIn wsX13_shiftsUntilBelow wsX13_sum := goodIn_ca (goodIn_r _ [19, 3, 5, 59, 60, 61, 62, 63, 64, 65, 66, 67, 68, 69, 70, 71, 72, 73, 74, 75, 76, 77, 78, 79, 80, 81, 82, 83, 84, 85, 86, 87] rfl (by decide +kernel)) (goodIn_sub (fun _ h => List.mem_cons_of_mem _ (List.mem_append_right _ h)) (by decide +kernel))
set_option maxRecDepth 20000 in
theorem gX13_shiftsUntilBelow_X13_sum : GoodIn wsX13_shiftsUntilBelow (wsV RX13 207 RX13 yX13_sum wsX13_sum) := goodIn_app (goodIn_of _ (by decide +kernel)) ggX13_shiftsUntilBelow_X13_sum
set_option maxRecDepth 20000 in
theorem ggX13_shiftsUntilBelow_X13_decays : GoodIn wsX13_shiftsUntilBelow wsX13_decays := goodIn_ca (goodIn_r _ [23, 3, 5, 24, 25, 26, 27, 28, 29, 30, 31, 8, 32, 33, 34, 35, 36, 37, 38, 39, 40, 41, 42, 59, 60, 61, 62, 63, 64, 65, 66, 67, 68, 69, 70, 71, 72, 73, 74, 75, 76, 77, 78, 79, 80, 81, 82, 83, 84, 85, 86, 87] rfl (by decide +kernel)) (goodIn_sub (fun _ h => List.mem_cons_of_mem _ (List.mem_append_right _ h)) (by decide +kernel))
set_option maxRecDepth 20000 in
theorem gX13_shiftsUntilBelow_X13_decays : GoodIn wsX13_shiftsUntilBelow (wsV RX13 204 RX13 yX13_decays wsX13_decays) := goodIn_app (goodIn_of _ (by decide +kernel)) ggX13_shiftsUntilBelow_X13_decays
set_option maxRecDepth 20000 in
theorem ggX13_shiftsUntilBelow_X13_scram : GoodIn wsX13_shiftsUntilBelow wsX13_scram := goodIn_ca (goodIn_r _ [46, 3, 40, 41, 8, 42, 47, 48, 49, 50, 51, 52, 53, 54, 59, 60, 61, 62, 63, 64, 65, 66, 67, 68, 69, 70, 71, 72, 73, 74, 75, 76, 77, 78, 79, 80, 81, 82, 83, 84, 85, 86, 87] rfl (by decide +kernel)) (goodIn_sub (fun _ h => List.mem_cons_of_mem _ (List.mem_append_right _ h)) (by decide +kernel))
set_option maxRecDepth 20000 in
theorem gX13_shiftsUntilBelow_X13_scram : GoodIn wsX13_shiftsUntilBelow (wsV RX13 211 RX13 yX13_scram wsX13_scram) := goodIn_app (goodIn_of _ (by decide +kernel)) ggX13_shiftsUntilBelow_X13_scram
set_option maxRecDepth 20000 in
theorem ggX13_shiftsUntilBelow_X13_fail : GoodIn wsX13_shiftsUntilBelow wsX13_fail := goodIn_r _ [58, 1, 59, 60, 61, 62, 63, 64, 65, 66, 67, 68, 69, 70, 71, 72, 73, 74, 75, 76, 77, 78, 79, 80, 81, 82, 83, 84, 85, 86, 87] rfl (by decide +kernel)
set_option maxRecDepth 20000 in
theorem gX13_shiftsUntilBelow_X13_fail : GoodIn wsX13_shiftsUntilBelow (wsV RX13 98 RX13 yX13_fail wsX13_fail) := goodIn_app (goodIn_of _ (by decide +kernel)) ggX13_shiftsUntilBelow_X13_fail
theorem dX13_shiftsUntilBelow_0 : decode cX13_shiftsUntilBelow 0 = .ok (.aload_n 0, 1) := by decide +kernel
theorem dX13_shiftsUntilBelow_1 : decode cX13_shiftsUntilBelow 1 = .ok (.iload_n 1, 1) := by decide +kernel
theorem dX13_shiftsUntilBelow_2 : decode cX13_shiftsUntilBelow 2 = .ok (.iconst 1, 1) := by decide +kernel
theorem dX13_shiftsUntilBelow_3 : decode cX13_shiftsUntilBelow 3 = .ok (.sipush 9999, 3) := by decide +kernel
theorem dX13_shiftsUntilBelow_6 : decode cX13_shiftsUntilBelow 6 = .ok (.invokestatic 91, 3) := by decide +kernel
theorem dX13_shiftsUntilBelow_9 : decode cX13_shiftsUntilBelow 9 = .ok (.ifCond .eq 7, 3) := by decide +kernel
theorem dX13_shiftsUntilBelow_12 : decode cX13_shiftsUntilBelow 12 = .ok (.iconst 0, 1) := by decide +kernel
theorem dX13_shiftsUntilBelow_13 : decode cX13_shiftsUntilBelow 13 = .ok (.goto 4, 3) := by decide +kernel
theorem dX13_shiftsUntilBelow_16 : decode cX13_shiftsUntilBelow 16 = .ok (.iconst 1, 1) := by decide +kernel
theorem dX13_shiftsUntilBelow_17 : decode cX13_shiftsUntilBelow 17 = .ok (.putfield 77, 3) := by decide +kernel
theorem dX13_shiftsUntilBelow_20 : decode cX13_shiftsUntilBelow 20 = .ok (.aload_n 0, 1) := by decide +kernel
theorem dX13_shiftsUntilBelow_21 : decode cX13_shiftsUntilBelow 21 = .ok (.getfield 77, 3) := by decide +kernel
theorem dX13_shiftsUntilBelow_24 : decode cX13_shiftsUntilBelow 24 = .ok (.ifCond .eq 5, 3) := by decide +kernel
theorem dX13_shiftsUntilBelow_27 : decode cX13_shiftsUntilBelow 27 = .ok (.iconst 0, 1) := by decide +kernel
theorem dX13_shiftsUntilBelow_28 : decode cX13_shiftsUntilBelow 28 = .ok (.ireturn, 1) := by decide +kernel
theorem dX13_shiftsUntilBelow_29 : decode cX13_shiftsUntilBelow 29 = .ok (.aload_n 0, 1) := by decide +kernel
theorem dX13_shiftsUntilBelow_30 : decode cX13_shiftsUntilBelow 30 = .ok (.getfield 20, 3) := by decide +kernel
theorem dX13_shiftsUntilBelow_33 : decode cX13_shiftsUntilBelow 33 = .ok (.aload_n 0, 1) := by decide +kernel
theorem dX13_shiftsUntilBelow_34 : decode cX13_shiftsUntilBelow 34 = .ok (.getfield 16, 3) := by decide +kernel
theorem dX13_shiftsUntilBelow_37 : decode cX13_shiftsUntilBelow 37 = .ok (.invokestatic 80, 3) := by decide +kernel
theorem dX13_shiftsUntilBelow_40 : decode cX13_shiftsUntilBelow 40 = .ok (.aload_n 0, 1) := by decide +kernel
theorem dX13_shiftsUntilBelow_41 : decode cX13_shiftsUntilBelow 41 = .ok (.getfield 48, 3) := by decide +kernel
theorem dX13_shiftsUntilBelow_44 : decode cX13_shiftsUntilBelow 44 = .ok (.aload_n 0, 1) := by decide +kernel
theorem dX13_shiftsUntilBelow_45 : decode cX13_shiftsUntilBelow 45 = .ok (.getfield 32, 3) := by decide +kernel
theorem dX13_shiftsUntilBelow_48 : decode cX13_shiftsUntilBelow 48 = .ok (.invokestatic 84, 3) := by decide +kernel
theorem dX13_shiftsUntilBelow_51 : decode cX13_shiftsUntilBelow 51 = .ok (.iconst 0, 1) := by decide +kernel
theorem dX13_shiftsUntilBelow_52 : decode cX13_shiftsUntilBelow 52 = .ok (.istore_n 2, 1) := by decide +kernel
theorem dX13_shiftsUntilBelow_53 : decode cX13_shiftsUntilBelow 53 = .ok (.iload_n 2, 1) := by decide +kernel
theorem dX13_shiftsUntilBelow_54 : decode cX13_shiftsUntilBelow 54 = .ok (.bipush 30, 2) := by decide +kernel
theorem dX13_shiftsUntilBelow_56 : decode cX13_shiftsUntilBelow 56 = .ok (.if_icmp .gt 42, 3) := by decide +kernel
theorem dX13_shiftsUntilBelow_59 : decode cX13_shiftsUntilBelow 59 = .ok (.aload_n 0, 1) := by decide +kernel
theorem dX13_shiftsUntilBelow_60 : decode cX13_shiftsUntilBelow 60 = .ok (.invokevirtual 207, 3) := by decide +kernel
theorem dX13_shiftsUntilBelow_63 : decode cX13_shiftsUntilBelow 63 = .ok (.iload_n 1, 1) := by decide +kernel
theorem dX13_shiftsUntilBelow_64 : decode cX13_shiftsUntilBelow 64 = .ok (.i2f, 1) := by decide +kernel
theorem dX13_shiftsUntilBelow_65 : decode cX13_shiftsUntilBelow 65 = .ok (.fcmp .l, 1) := by decide +kernel
theorem dX13_shiftsUntilBelow_66 : decode cX13_shiftsUntilBelow 66 = .ok (.ifCond .lt 32, 3) := by decide +kernel
theorem dX13_shiftsUntilBelow_69 : decode cX13_shiftsUntilBelow 69 = .ok (.aload_n 0, 1) := by decide +kernel
theorem dX13_shiftsUntilBelow_70 : decode cX13_shiftsUntilBelow 70 = .ok (.invokevirtual 204, 3) := by decide +kernel
theorem dX13_shiftsUntilBelow_73 : decode cX13_shiftsUntilBelow 73 = .ok (.aload_n 0, 1) := by decide +kernel
theorem dX13_shiftsUntilBelow_74 : decode cX13_shiftsUntilBelow 74 = .ok (.invokevirtual 207, 3) := by decide +kernel
theorem dX13_shiftsUntilBelow_77 : decode cX13_shiftsUntilBelow 77 = .ok (.aload_n 0, 1) := by decide +kernel
theorem dX13_shiftsUntilBelow_78 : decode cX13_shiftsUntilBelow 78 = .ok (.getfield 16, 3) := by decide +kernel
theorem dX13_shiftsUntilBelow_81 : decode cX13_shiftsUntilBelow 81 = .ok (.iconst 1, 1) := by decide +kernel
theorem dX13_shiftsUntilBelow_82 : decode cX13_shiftsUntilBelow 82 = .ok (.iaload, 1) := by decide +kernel
theorem dX13_shiftsUntilBelow_83 : decode cX13_shiftsUntilBelow 83 = .ok (.i2f, 1) := by decide +kernel
theorem dX13_shiftsUntilBelow_84 : decode cX13_shiftsUntilBelow 84 = .ok (.fcmp .l, 1) := by decide +kernel
theorem dX13_shiftsUntilBelow_85 : decode cX13_shiftsUntilBelow 85 = .ok (.ifCond .le 7, 3) := by decide +kernel
theorem dX13_shiftsUntilBelow_88 : decode cX13_shiftsUntilBelow 88 = .ok (.aload_n 0, 1) := by decide +kernel
theorem dX13_shiftsUntilBelow_89 : decode cX13_shiftsUntilBelow 89 = .ok (.invokevirtual 211, 3) := by decide +kernel
theorem dX13_shiftsUntilBelow_92 : decode cX13_shiftsUntilBelow 92 = .ok (.iinc 2 1, 3) := by decide +kernel
theorem dX13_shiftsUntilBelow_95 : decode cX13_shiftsUntilBelow 95 = .ok (.goto (-42), 3) := by decide +kernel
theorem dX13_shiftsUntilBelow_98 : decode cX13_shiftsUntilBelow 98 = .ok (.aload_n 0, 1) := by decide +kernel
theorem dX13_shiftsUntilBelow_99 : decode cX13_shiftsUntilBelow 99 = .ok (.getfield 16, 3) := by decide +kernel
theorem dX13_shiftsUntilBelow_102 : decode cX13_shiftsUntilBelow 102 = .ok (.aload_n 0, 1) := by decide +kernel
theorem dX13_shiftsUntilBelow_103 : decode cX13_shiftsUntilBelow 103 = .ok (.getfield 20, 3) := by decide +kernel
theorem dX13_shiftsUntilBelow_106 : decode cX13_shiftsUntilBelow 106 = .ok (.invokestatic 80, 3) := by decide +kernel
theorem dX13_shiftsUntilBelow_109 : decode cX13_shiftsUntilBelow 109 = .ok (.aload_n 0, 1) := by decide +kernel
theorem dX13_shiftsUntilBelow_110 : decode cX13_shiftsUntilBelow 110 = .ok (.getfield 32, 3) := by decide +kernel
theorem dX13_shiftsUntilBelow_113 : decode cX13_shiftsUntilBelow 113 = .ok (.aload_n 0, 1) := by decide +kernel
theorem dX13_shiftsUntilBelow_114 : decode cX13_shiftsUntilBelow 114 = .ok (.getfield 48, 3) := by decide +kernel
theorem dX13_shiftsUntilBelow_117 : decode cX13_shiftsUntilBelow 117 = .ok (.invokestatic 84, 3) := by decide +kernel
theorem dX13_shiftsUntilBelow_120 : decode cX13_shiftsUntilBelow 120 = .ok (.iload_n 2, 1) := by decide +kernel
theorem dX13_shiftsUntilBelow_121 : decode cX13_shiftsUntilBelow 121 = .ok (.bipush 30, 2) := by decide +kernel
theorem dX13_shiftsUntilBelow_123 : decode cX13_shiftsUntilBelow 123 = .ok (.if_icmp .le 11, 3) := by decide +kernel
theorem dX13_shiftsUntilBelow_126 : decode cX13_shiftsUntilBelow 126 = .ok (.aload_n 0, 1) := by decide +kernel
theorem dX13_shiftsUntilBelow_127 : decode cX13_shiftsUntilBelow 127 = .ok (.iconst 2, 1) := by decide +kernel
theorem dX13_shiftsUntilBelow_128 : decode cX13_shiftsUntilBelow 128 = .ok (.invokevirtual 98, 3) := by decide +kernel
theorem dX13_shiftsUntilBelow_131 : decode cX13_shiftsUntilBelow 131 = .ok (.goto 4, 3) := by decide +kernel
theorem dX13_shiftsUntilBelow_134 : decode cX13_shiftsUntilBelow 134 = .ok (.iload_n 2, 1) := by decide +kernel
theorem dX13_shiftsUntilBelow_135 : decode cX13_shiftsUntilBelow 135 = .ok (.ireturn, 1) := by decide +kernel
set_option maxRecDepth 20000 in
theorem ggX13_shiftCount_X13_tells : GoodIn wsX13_shiftCount wsX13_tells := goodIn_ca (goodIn_r _ [5, 6, 7, 8, 9, 10, 11, 12, 13, 14, 15, 16, 17, 18, 19, 20, 21, 22, 23, 24, 25, 26, 27, 28, 29, 30, 31, 32, 33, 34, 35, 36] rfl (by decide +kernel)) (goodIn_sub (fun _ h => List.mem_cons_of_mem _ (List.mem_append_right _ h)) (by decide +kernel))
set_option maxRecDepth 20000 in
theorem gX13_shiftCount_X13_tells : GoodIn wsX13_shiftCount (wsV RX13 126 RX13 yX13_tells wsX13_tells) := goodIn_app (goodIn_of _ (by decide +kernel)) ggX13_shiftCount_X13_tells
theorem dX13_shiftCount_0 : decode cX13_shiftCount 0 = .ok (.aload_n 0, 1) := by decide +kernel
theorem dX13_shiftCount_1 : decode cX13_shiftCount 1 = .ok (.iconst 2, 1) := by decide +kernel
theorem dX13_shiftCount_2 : decode cX13_shiftCount 2 = .ok (.invokevirtual 126, 3) := by decide +kernel
theorem dX13_shiftCount_5 : decode cX13_shiftCount 5 = .ok (.ireturn, 1) := by decide +kernel
set_option maxRecDepth 20000 in
theorem ggX13_scrams_X13_tells : GoodIn wsX13_scrams wsX13_tells := goodIn_ca (goodIn_r _ [5, 6, 7, 8, 9, 10, 11, 12, 13, 14, 15, 16, 17, 18, 19, 20, 21, 22, 23, 24, 25, 26, 27, 28, 29, 30, 31, 32, 33, 34, 35, 36] rfl (by decide +kernel)) (goodIn_sub (fun _ h => List.mem_cons_of_mem _ (List.mem_append_right _ h)) (by decide +kernel))
set_option maxRecDepth 20000 in
theorem gX13_scrams_X13_tells : GoodIn wsX13_scrams (wsV RX13 126 RX13 yX13_tells wsX13_tells) := goodIn_app (goodIn_of _ (by decide +kernel)) ggX13_scrams_X13_tells
theorem dX13_scrams_0 : decode cX13_scrams 0 = .ok (.aload_n 0, 1) := by decide +kernel
theorem dX13_scrams_1 : decode cX13_scrams 1 = .ok (.iconst 3, 1) := by decide +kernel
theorem dX13_scrams_2 : decode cX13_scrams 2 = .ok (.invokevirtual 126, 3) := by decide +kernel
theorem dX13_scrams_5 : decode cX13_scrams 5 = .ok (.ireturn, 1) := by decide +kernel
set_option maxRecDepth 20000 in
theorem ggX13_claimAtRank_X13_of : GoodIn wsX13_claimAtRank wsX13_of := goodIn_r _ [7] rfl (by decide +kernel)
set_option maxRecDepth 20000 in
theorem gX13_claimAtRank_X13_of : GoodIn wsX13_claimAtRank (va_wsS RX13 95 yX13_of wsX13_of) := goodIn_app (goodIn_of _ (by decide +kernel)) ggX13_claimAtRank_X13_of
set_option maxRecDepth 20000 in
theorem ggX13_claimAtRank_X13_fail : GoodIn wsX13_claimAtRank wsX13_fail := goodIn_r _ [11, 1, 12, 13, 14, 15, 16, 17, 18, 19, 20, 21, 22, 23, 24, 25, 26, 27, 28, 29, 30, 31, 32, 33, 34, 35, 36, 37, 38, 39, 40] rfl (by decide +kernel)
set_option maxRecDepth 20000 in
theorem gX13_claimAtRank_X13_fail : GoodIn wsX13_claimAtRank (wsV RX13 98 RX13 yX13_fail wsX13_fail) := goodIn_app (goodIn_of _ (by decide +kernel)) ggX13_claimAtRank_X13_fail
theorem dX13_claimAtRank_0 : decode cX13_claimAtRank 0 = .ok (.aload_n 0, 1) := by decide +kernel
theorem dX13_claimAtRank_1 : decode cX13_claimAtRank 1 = .ok (.iconst 0, 1) := by decide +kernel
theorem dX13_claimAtRank_2 : decode cX13_claimAtRank 2 = .ok (.putfield 77, 3) := by decide +kernel
theorem dX13_claimAtRank_5 : decode cX13_claimAtRank 5 = .ok (.iconst 0, 1) := by decide +kernel
theorem dX13_claimAtRank_6 : decode cX13_claimAtRank 6 = .ok (.istore_n 2, 1) := by decide +kernel
theorem dX13_claimAtRank_7 : decode cX13_claimAtRank 7 = .ok (.iload_n 2, 1) := by decide +kernel
theorem dX13_claimAtRank_8 : decode cX13_claimAtRank 8 = .ok (.aload_n 0, 1) := by decide +kernel
theorem dX13_claimAtRank_9 : decode cX13_claimAtRank 9 = .ok (.getfield 16, 3) := by decide +kernel
theorem dX13_claimAtRank_12 : decode cX13_claimAtRank 12 = .ok (.iconst 0, 1) := by decide +kernel
theorem dX13_claimAtRank_13 : decode cX13_claimAtRank 13 = .ok (.iaload, 1) := by decide +kernel
theorem dX13_claimAtRank_14 : decode cX13_claimAtRank 14 = .ok (.if_icmp .ge 146, 3) := by decide +kernel
theorem dX13_claimAtRank_17 : decode cX13_claimAtRank 17 = .ok (.iconst 0, 1) := by decide +kernel
theorem dX13_claimAtRank_18 : decode cX13_claimAtRank 18 = .ok (.istore_n 3, 1) := by decide +kernel
theorem dX13_claimAtRank_19 : decode cX13_claimAtRank 19 = .ok (.iconst 0, 1) := by decide +kernel
theorem dX13_claimAtRank_20 : decode cX13_claimAtRank 20 = .ok (.istore 4, 2) := by decide +kernel
theorem dX13_claimAtRank_22 : decode cX13_claimAtRank 22 = .ok (.iload 4, 2) := by decide +kernel
theorem dX13_claimAtRank_24 : decode cX13_claimAtRank 24 = .ok (.aload_n 0, 1) := by decide +kernel
theorem dX13_claimAtRank_25 : decode cX13_claimAtRank 25 = .ok (.getfield 16, 3) := by decide +kernel
theorem dX13_claimAtRank_28 : decode cX13_claimAtRank 28 = .ok (.iconst 0, 1) := by decide +kernel
theorem dX13_claimAtRank_29 : decode cX13_claimAtRank 29 = .ok (.iaload, 1) := by decide +kernel
theorem dX13_claimAtRank_30 : decode cX13_claimAtRank 30 = .ok (.if_icmp .ge 117, 3) := by decide +kernel
theorem dX13_claimAtRank_33 : decode cX13_claimAtRank 33 = .ok (.aload_n 0, 1) := by decide +kernel
theorem dX13_claimAtRank_34 : decode cX13_claimAtRank 34 = .ok (.getfield 16, 3) := by decide +kernel
theorem dX13_claimAtRank_37 : decode cX13_claimAtRank 37 = .ok (.iload 4, 2) := by decide +kernel
theorem dX13_claimAtRank_39 : decode cX13_claimAtRank 39 = .ok (.iconst 0, 1) := by decide +kernel
theorem dX13_claimAtRank_40 : decode cX13_claimAtRank 40 = .ok (.invokestatic 95, 3) := by decide +kernel
theorem dX13_claimAtRank_43 : decode cX13_claimAtRank 43 = .ok (.iaload, 1) := by decide +kernel
theorem dX13_claimAtRank_44 : decode cX13_claimAtRank 44 = .ok (.aload_n 0, 1) := by decide +kernel
theorem dX13_claimAtRank_45 : decode cX13_claimAtRank 45 = .ok (.getfield 16, 3) := by decide +kernel
theorem dX13_claimAtRank_48 : decode cX13_claimAtRank 48 = .ok (.iload_n 2, 1) := by decide +kernel
theorem dX13_claimAtRank_49 : decode cX13_claimAtRank 49 = .ok (.iconst 0, 1) := by decide +kernel
theorem dX13_claimAtRank_50 : decode cX13_claimAtRank 50 = .ok (.invokestatic 95, 3) := by decide +kernel
theorem dX13_claimAtRank_53 : decode cX13_claimAtRank 53 = .ok (.iaload, 1) := by decide +kernel
theorem dX13_claimAtRank_54 : decode cX13_claimAtRank 54 = .ok (.if_icmp .gt 33, 3) := by decide +kernel
theorem dX13_claimAtRank_57 : decode cX13_claimAtRank 57 = .ok (.aload_n 0, 1) := by decide +kernel
theorem dX13_claimAtRank_58 : decode cX13_claimAtRank 58 = .ok (.getfield 16, 3) := by decide +kernel
theorem dX13_claimAtRank_61 : decode cX13_claimAtRank 61 = .ok (.iload 4, 2) := by decide +kernel
theorem dX13_claimAtRank_63 : decode cX13_claimAtRank 63 = .ok (.iconst 0, 1) := by decide +kernel
theorem dX13_claimAtRank_64 : decode cX13_claimAtRank 64 = .ok (.invokestatic 95, 3) := by decide +kernel
theorem dX13_claimAtRank_67 : decode cX13_claimAtRank 67 = .ok (.iaload, 1) := by decide +kernel
theorem dX13_claimAtRank_68 : decode cX13_claimAtRank 68 = .ok (.aload_n 0, 1) := by decide +kernel
theorem dX13_claimAtRank_69 : decode cX13_claimAtRank 69 = .ok (.getfield 16, 3) := by decide +kernel
theorem dX13_claimAtRank_72 : decode cX13_claimAtRank 72 = .ok (.iload_n 2, 1) := by decide +kernel
theorem dX13_claimAtRank_73 : decode cX13_claimAtRank 73 = .ok (.iconst 0, 1) := by decide +kernel
theorem dX13_claimAtRank_74 : decode cX13_claimAtRank 74 = .ok (.invokestatic 95, 3) := by decide +kernel
theorem dX13_claimAtRank_77 : decode cX13_claimAtRank 77 = .ok (.iaload, 1) := by decide +kernel
theorem dX13_claimAtRank_78 : decode cX13_claimAtRank 78 = .ok (.if_icmp .ne 13, 3) := by decide +kernel
theorem dX13_claimAtRank_81 : decode cX13_claimAtRank 81 = .ok (.iload 4, 2) := by decide +kernel
theorem dX13_claimAtRank_83 : decode cX13_claimAtRank 83 = .ok (.iload_n 2, 1) := by decide +kernel
theorem dX13_claimAtRank_84 : decode cX13_claimAtRank 84 = .ok (.if_icmp .ge 7, 3) := by decide +kernel
theorem dX13_claimAtRank_87 : decode cX13_claimAtRank 87 = .ok (.iconst 1, 1) := by decide +kernel
theorem dX13_claimAtRank_88 : decode cX13_claimAtRank 88 = .ok (.goto 4, 3) := by decide +kernel
theorem dX13_claimAtRank_91 : decode cX13_claimAtRank 91 = .ok (.iconst 0, 1) := by decide +kernel
theorem dX13_claimAtRank_92 : decode cX13_claimAtRank 92 = .ok (.istore 5, 2) := by decide +kernel
theorem dX13_claimAtRank_94 : decode cX13_claimAtRank 94 = .ok (.iload_n 3, 1) := by decide +kernel
theorem dX13_claimAtRank_95 : decode cX13_claimAtRank 95 = .ok (.aload_n 0, 1) := by decide +kernel
theorem dX13_claimAtRank_96 : decode cX13_claimAtRank 96 = .ok (.getfield 32, 3) := by decide +kernel
theorem dX13_claimAtRank_99 : decode cX13_claimAtRank 99 = .ok (.iload 4, 2) := by decide +kernel
theorem dX13_claimAtRank_101 : decode cX13_claimAtRank 101 = .ok (.faload, 1) := by decide +kernel
theorem dX13_claimAtRank_102 : decode cX13_claimAtRank 102 = .ok (.aload_n 0, 1) := by decide +kernel
theorem dX13_claimAtRank_103 : decode cX13_claimAtRank 103 = .ok (.getfield 32, 3) := by decide +kernel
theorem dX13_claimAtRank_106 : decode cX13_claimAtRank 106 = .ok (.iload_n 2, 1) := by decide +kernel
theorem dX13_claimAtRank_107 : decode cX13_claimAtRank 107 = .ok (.faload, 1) := by decide +kernel
theorem dX13_claimAtRank_108 : decode cX13_claimAtRank 108 = .ok (.fcmp .l, 1) := by decide +kernel
theorem dX13_claimAtRank_109 : decode cX13_claimAtRank 109 = .ok (.ifCond .gt 25, 3) := by decide +kernel
theorem dX13_claimAtRank_112 : decode cX13_claimAtRank 112 = .ok (.aload_n 0, 1) := by decide +kernel
theorem dX13_claimAtRank_113 : decode cX13_claimAtRank 113 = .ok (.getfield 32, 3) := by decide +kernel
theorem dX13_claimAtRank_116 : decode cX13_claimAtRank 116 = .ok (.iload 4, 2) := by decide +kernel
theorem dX13_claimAtRank_118 : decode cX13_claimAtRank 118 = .ok (.faload, 1) := by decide +kernel
theorem dX13_claimAtRank_119 : decode cX13_claimAtRank 119 = .ok (.aload_n 0, 1) := by decide +kernel
theorem dX13_claimAtRank_120 : decode cX13_claimAtRank 120 = .ok (.getfield 32, 3) := by decide +kernel
theorem dX13_claimAtRank_123 : decode cX13_claimAtRank 123 = .ok (.iload_n 2, 1) := by decide +kernel
theorem dX13_claimAtRank_124 : decode cX13_claimAtRank 124 = .ok (.faload, 1) := by decide +kernel
theorem dX13_claimAtRank_125 : decode cX13_claimAtRank 125 = .ok (.fcmp .l, 1) := by decide +kernel
theorem dX13_claimAtRank_126 : decode cX13_claimAtRank 126 = .ok (.ifCond .ne 12, 3) := by decide +kernel
theorem dX13_claimAtRank_129 : decode cX13_claimAtRank 129 = .ok (.iload 5, 2) := by decide +kernel
theorem dX13_claimAtRank_131 : decode cX13_claimAtRank 131 = .ok (.ifCond .eq 7, 3) := by decide +kernel
theorem dX13_claimAtRank_134 : decode cX13_claimAtRank 134 = .ok (.iconst 1, 1) := by decide +kernel
theorem dX13_claimAtRank_135 : decode cX13_claimAtRank 135 = .ok (.goto 4, 3) := by decide +kernel
theorem dX13_claimAtRank_138 : decode cX13_claimAtRank 138 = .ok (.iconst 0, 1) := by decide +kernel
theorem dX13_claimAtRank_139 : decode cX13_claimAtRank 139 = .ok (.iadd, 1) := by decide +kernel
theorem dX13_claimAtRank_140 : decode cX13_claimAtRank 140 = .ok (.istore_n 3, 1) := by decide +kernel
theorem dX13_claimAtRank_141 : decode cX13_claimAtRank 141 = .ok (.iinc 4 1, 3) := by decide +kernel
theorem dX13_claimAtRank_144 : decode cX13_claimAtRank 144 = .ok (.goto (-122), 3) := by decide +kernel
theorem dX13_claimAtRank_147 : decode cX13_claimAtRank 147 = .ok (.iload_n 3, 1) := by decide +kernel
theorem dX13_claimAtRank_148 : decode cX13_claimAtRank 148 = .ok (.iload_n 1, 1) := by decide +kernel
theorem dX13_claimAtRank_149 : decode cX13_claimAtRank 149 = .ok (.if_icmp .ne 5, 3) := by decide +kernel
theorem dX13_claimAtRank_152 : decode cX13_claimAtRank 152 = .ok (.iload_n 2, 1) := by decide +kernel
theorem dX13_claimAtRank_153 : decode cX13_claimAtRank 153 = .ok (.ireturn, 1) := by decide +kernel
theorem dX13_claimAtRank_154 : decode cX13_claimAtRank 154 = .ok (.iinc 2 1, 3) := by decide +kernel
theorem dX13_claimAtRank_157 : decode cX13_claimAtRank 157 = .ok (.goto (-150), 3) := by decide +kernel
theorem dX13_claimAtRank_160 : decode cX13_claimAtRank 160 = .ok (.aload_n 0, 1) := by decide +kernel
theorem dX13_claimAtRank_161 : decode cX13_claimAtRank 161 = .ok (.iconst 1, 1) := by decide +kernel
theorem dX13_claimAtRank_162 : decode cX13_claimAtRank 162 = .ok (.invokevirtual 98, 3) := by decide +kernel
theorem dX13_claimAtRank_165 : decode cX13_claimAtRank 165 = .ok (.ireturn, 1) := by decide +kernel
set_option maxRecDepth 20000 in
theorem ggX13_logCount_X13_tells : GoodIn wsX13_logCount wsX13_tells := goodIn_ca (goodIn_r _ [5, 6, 7, 8, 9, 10, 11, 12, 13, 14, 15, 16, 17, 18, 19, 20, 21, 22, 23, 24, 25, 26, 27, 28, 29, 30, 31, 32, 33, 34, 35, 36] rfl (by decide +kernel)) (goodIn_sub (fun _ h => List.mem_cons_of_mem _ (List.mem_append_right _ h)) (by decide +kernel))
set_option maxRecDepth 20000 in
theorem gX13_logCount_X13_tells : GoodIn wsX13_logCount (wsV RX13 126 RX13 yX13_tells wsX13_tells) := goodIn_app (goodIn_of _ (by decide +kernel)) ggX13_logCount_X13_tells
theorem dX13_logCount_0 : decode cX13_logCount 0 = .ok (.aload_n 0, 1) := by decide +kernel
theorem dX13_logCount_1 : decode cX13_logCount 1 = .ok (.iconst 4, 1) := by decide +kernel
theorem dX13_logCount_2 : decode cX13_logCount 2 = .ok (.invokevirtual 126, 3) := by decide +kernel
theorem dX13_logCount_5 : decode cX13_logCount 5 = .ok (.ireturn, 1) := by decide +kernel
set_option maxRecDepth 20000 in
theorem ggX13_logged_X13_isIn : GoodIn wsX13_logged wsX13_isIn := goodIn_r _ [6] rfl (by decide +kernel)
set_option maxRecDepth 20000 in
theorem gX13_logged_X13_isIn : GoodIn wsX13_logged (va_wsS RX13 91 yX13_isIn wsX13_isIn) := goodIn_app (goodIn_of _ (by decide +kernel)) ggX13_logged_X13_isIn
theorem dX13_logged_0 : decode cX13_logged 0 = .ok (.aload_n 0, 1) := by decide +kernel
theorem dX13_logged_1 : decode cX13_logged 1 = .ok (.iload_n 1, 1) := by decide +kernel
theorem dX13_logged_2 : decode cX13_logged 2 = .ok (.iconst 0, 1) := by decide +kernel
theorem dX13_logged_3 : decode cX13_logged 3 = .ok (.aload_n 0, 1) := by decide +kernel
theorem dX13_logged_4 : decode cX13_logged 4 = .ok (.getfield 16, 3) := by decide +kernel
theorem dX13_logged_7 : decode cX13_logged 7 = .ok (.iconst 4, 1) := by decide +kernel
theorem dX13_logged_8 : decode cX13_logged 8 = .ok (.iaload, 1) := by decide +kernel
theorem dX13_logged_9 : decode cX13_logged 9 = .ok (.iconst 1, 1) := by decide +kernel
theorem dX13_logged_10 : decode cX13_logged 10 = .ok (.isub, 1) := by decide +kernel
theorem dX13_logged_11 : decode cX13_logged 11 = .ok (.invokestatic 91, 3) := by decide +kernel
theorem dX13_logged_14 : decode cX13_logged 14 = .ok (.ifCond .eq 7, 3) := by decide +kernel
theorem dX13_logged_17 : decode cX13_logged 17 = .ok (.iconst 0, 1) := by decide +kernel
theorem dX13_logged_18 : decode cX13_logged 18 = .ok (.goto 4, 3) := by decide +kernel
theorem dX13_logged_21 : decode cX13_logged 21 = .ok (.iconst 1, 1) := by decide +kernel
theorem dX13_logged_22 : decode cX13_logged 22 = .ok (.putfield 77, 3) := by decide +kernel
theorem dX13_logged_25 : decode cX13_logged 25 = .ok (.aload_n 0, 1) := by decide +kernel
theorem dX13_logged_26 : decode cX13_logged 26 = .ok (.getfield 77, 3) := by decide +kernel
theorem dX13_logged_29 : decode cX13_logged 29 = .ok (.ifCond .ne 28, 3) := by decide +kernel
theorem dX13_logged_32 : decode cX13_logged 32 = .ok (.aload_n 0, 1) := by decide +kernel
theorem dX13_logged_33 : decode cX13_logged 33 = .ok (.getfield 16, 3) := by decide +kernel
theorem dX13_logged_36 : decode cX13_logged 36 = .ok (.bipush 51, 2) := by decide +kernel
theorem dX13_logged_38 : decode cX13_logged 38 = .ok (.iconst 2, 1) := by decide +kernel
theorem dX13_logged_39 : decode cX13_logged 39 = .ok (.aload_n 0, 1) := by decide +kernel
theorem dX13_logged_40 : decode cX13_logged 40 = .ok (.getfield 16, 3) := by decide +kernel
theorem dX13_logged_43 : decode cX13_logged 43 = .ok (.iconst 4, 1) := by decide +kernel
theorem dX13_logged_44 : decode cX13_logged 44 = .ok (.iaload, 1) := by decide +kernel
theorem dX13_logged_45 : decode cX13_logged 45 = .ok (.iconst 1, 1) := by decide +kernel
theorem dX13_logged_46 : decode cX13_logged 46 = .ok (.isub, 1) := by decide +kernel
theorem dX13_logged_47 : decode cX13_logged 47 = .ok (.iload_n 1, 1) := by decide +kernel
theorem dX13_logged_48 : decode cX13_logged 48 = .ok (.isub, 1) := by decide +kernel
theorem dX13_logged_49 : decode cX13_logged 49 = .ok (.imul, 1) := by decide +kernel
theorem dX13_logged_50 : decode cX13_logged 50 = .ok (.iadd, 1) := by decide +kernel
theorem dX13_logged_51 : decode cX13_logged 51 = .ok (.iload_n 2, 1) := by decide +kernel
theorem dX13_logged_52 : decode cX13_logged 52 = .ok (.iadd, 1) := by decide +kernel
theorem dX13_logged_53 : decode cX13_logged 53 = .ok (.iaload, 1) := by decide +kernel
theorem dX13_logged_54 : decode cX13_logged 54 = .ok (.goto 4, 3) := by decide +kernel
theorem dX13_logged_57 : decode cX13_logged 57 = .ok (.iconst 0, 1) := by decide +kernel
theorem dX13_logged_58 : decode cX13_logged 58 = .ok (.ireturn, 1) := by decide +kernel
set_option maxRecDepth 20000 in
theorem ggX13_logShift_X13_logged : GoodIn wsX13_logShift wsX13_logged := goodIn_ca (goodIn_r _ [5, 6, 7, 8, 9, 4, 10, 11, 12, 13, 14, 15, 16, 17, 18, 19, 20, 21, 22, 23, 24, 25, 26, 27, 28, 29, 30, 31, 32, 33, 34, 35, 36, 37, 38, 39] rfl (by decide +kernel)) (goodIn_sub (fun _ h => List.mem_cons_of_mem _ (List.mem_append_right _ h)) (by decide +kernel))
set_option maxRecDepth 20000 in
theorem gX13_logShift_X13_logged : GoodIn wsX13_logShift (wsV RX13 226 RX13 yX13_logged wsX13_logged) := goodIn_app (goodIn_of _ (by decide +kernel)) ggX13_logShift_X13_logged
theorem dX13_logShift_0 : decode cX13_logShift 0 = .ok (.aload_n 0, 1) := by decide +kernel
theorem dX13_logShift_1 : decode cX13_logShift 1 = .ok (.iload_n 1, 1) := by decide +kernel
theorem dX13_logShift_2 : decode cX13_logShift 2 = .ok (.iconst 0, 1) := by decide +kernel
theorem dX13_logShift_3 : decode cX13_logShift 3 = .ok (.invokevirtual 226, 3) := by decide +kernel
theorem dX13_logShift_6 : decode cX13_logShift 6 = .ok (.ireturn, 1) := by decide +kernel
set_option maxRecDepth 20000 in
theorem ggX13_logKind_X13_logged : GoodIn wsX13_logKind wsX13_logged := goodIn_ca (goodIn_r _ [5, 6, 7, 8, 9, 4, 10, 11, 12, 13, 14, 15, 16, 17, 18, 19, 20, 21, 22, 23, 24, 25, 26, 27, 28, 29, 30, 31, 32, 33, 34, 35, 36, 37, 38, 39] rfl (by decide +kernel)) (goodIn_sub (fun _ h => List.mem_cons_of_mem _ (List.mem_append_right _ h)) (by decide +kernel))
set_option maxRecDepth 20000 in
theorem gX13_logKind_X13_logged : GoodIn wsX13_logKind (wsV RX13 226 RX13 yX13_logged wsX13_logged) := goodIn_app (goodIn_of _ (by decide +kernel)) ggX13_logKind_X13_logged
theorem dX13_logKind_0 : decode cX13_logKind 0 = .ok (.aload_n 0, 1) := by decide +kernel
theorem dX13_logKind_1 : decode cX13_logKind 1 = .ok (.iload_n 1, 1) := by decide +kernel
theorem dX13_logKind_2 : decode cX13_logKind 2 = .ok (.iconst 1, 1) := by decide +kernel
theorem dX13_logKind_3 : decode cX13_logKind 3 = .ok (.invokevirtual 226, 3) := by decide +kernel
theorem dX13_logKind_6 : decode cX13_logKind 6 = .ok (.i2c, 1) := by decide +kernel
theorem dX13_logKind_7 : decode cX13_logKind 7 = .ok (.ireturn, 1) := by decide +kernel
set_option maxRecDepth 20000 in
theorem ggX13_append_X13_isIn : GoodIn wsX13_append wsX13_isIn := goodIn_r _ [7] rfl (by decide +kernel)
set_option maxRecDepth 20000 in
theorem gX13_append_X13_isIn : GoodIn wsX13_append (va_wsS RX13 91 yX13_isIn wsX13_isIn) := goodIn_app (goodIn_of _ (by decide +kernel)) ggX13_append_X13_isIn
theorem dX13_append_0 : decode cX13_append 0 = .ok (.aload_n 0, 1) := by decide +kernel
theorem dX13_append_1 : decode cX13_append 1 = .ok (.iload_n 1, 1) := by decide +kernel
theorem dX13_append_2 : decode cX13_append 2 = .ok (.bipush 32, 2) := by decide +kernel
theorem dX13_append_4 : decode cX13_append 4 = .ok (.bipush 126, 2) := by decide +kernel
theorem dX13_append_6 : decode cX13_append 6 = .ok (.invokestatic 91, 3) := by decide +kernel
theorem dX13_append_9 : decode cX13_append 9 = .ok (.ifCond .ne 7, 3) := by decide +kernel
theorem dX13_append_12 : decode cX13_append 12 = .ok (.iconst 1, 1) := by decide +kernel
theorem dX13_append_13 : decode cX13_append 13 = .ok (.goto 17, 3) := by decide +kernel
theorem dX13_append_16 : decode cX13_append 16 = .ok (.aload_n 0, 1) := by decide +kernel
theorem dX13_append_17 : decode cX13_append 17 = .ok (.getfield 229, 3) := by decide +kernel
theorem dX13_append_20 : decode cX13_append 20 = .ok (.bipush 60, 2) := by decide +kernel
theorem dX13_append_22 : decode cX13_append 22 = .ok (.if_icmp .ne 7, 3) := by decide +kernel
theorem dX13_append_25 : decode cX13_append 25 = .ok (.iconst 2, 1) := by decide +kernel
theorem dX13_append_26 : decode cX13_append 26 = .ok (.goto 4, 3) := by decide +kernel
theorem dX13_append_29 : decode cX13_append 29 = .ok (.iconst 0, 1) := by decide +kernel
theorem dX13_append_30 : decode cX13_append 30 = .ok (.putfield 77, 3) := by decide +kernel
theorem dX13_append_33 : decode cX13_append 33 = .ok (.aload_n 0, 1) := by decide +kernel
theorem dX13_append_34 : decode cX13_append 34 = .ok (.getfield 77, 3) := by decide +kernel
theorem dX13_append_37 : decode cX13_append 37 = .ok (.ifCond .eq 5, 3) := by decide +kernel
theorem dX13_append_40 : decode cX13_append 40 = .ok (.iconst 0, 1) := by decide +kernel
theorem dX13_append_41 : decode cX13_append 41 = .ok (.ireturn, 1) := by decide +kernel
theorem dX13_append_42 : decode cX13_append 42 = .ok (.aload_n 0, 1) := by decide +kernel
theorem dX13_append_43 : decode cX13_append 43 = .ok (.getfield 58, 3) := by decide +kernel
theorem dX13_append_46 : decode cX13_append 46 = .ok (.aload_n 0, 1) := by decide +kernel
theorem dX13_append_47 : decode cX13_append 47 = .ok (.getfield 229, 3) := by decide +kernel
theorem dX13_append_50 : decode cX13_append 50 = .ok (.iload_n 1, 1) := by decide +kernel
theorem dX13_append_51 : decode cX13_append 51 = .ok (.iastore, 1) := by decide +kernel
theorem dX13_append_52 : decode cX13_append 52 = .ok (.aload_n 0, 1) := by decide +kernel
theorem dX13_append_53 : decode cX13_append 53 = .ok (.dup, 1) := by decide +kernel
theorem dX13_append_54 : decode cX13_append 54 = .ok (.getfield 229, 3) := by decide +kernel
theorem dX13_append_57 : decode cX13_append 57 = .ok (.iconst 1, 1) := by decide +kernel
theorem dX13_append_58 : decode cX13_append 58 = .ok (.iadd, 1) := by decide +kernel
theorem dX13_append_59 : decode cX13_append 59 = .ok (.putfield 229, 3) := by decide +kernel
theorem dX13_append_62 : decode cX13_append 62 = .ok (.aload_n 0, 1) := by decide +kernel
theorem dX13_append_63 : decode cX13_append 63 = .ok (.getfield 229, 3) := by decide +kernel
theorem dX13_append_66 : decode cX13_append 66 = .ok (.ireturn, 1) := by decide +kernel
theorem dX13_sign_0 : decode cX13_sign 0 = .ok (.aload_n 0, 1) := by decide +kernel
theorem dX13_sign_1 : decode cX13_sign 1 = .ok (.getfield 232, 3) := by decide +kernel
theorem dX13_sign_4 : decode cX13_sign 4 = .ok (.aload_n 0, 1) := by decide +kernel
theorem dX13_sign_5 : decode cX13_sign 5 = .ok (.getfield 235, 3) := by decide +kernel
theorem dX13_sign_8 : decode cX13_sign 8 = .ok (.if_icmp .ge 15, 3) := by decide +kernel
theorem dX13_sign_11 : decode cX13_sign 11 = .ok (.aload_n 0, 1) := by decide +kernel
theorem dX13_sign_12 : decode cX13_sign 12 = .ok (.getfield 58, 3) := by decide +kernel
theorem dX13_sign_15 : decode cX13_sign 15 = .ok (.aload_n 0, 1) := by decide +kernel
theorem dX13_sign_16 : decode cX13_sign 16 = .ok (.getfield 232, 3) := by decide +kernel
theorem dX13_sign_19 : decode cX13_sign 19 = .ok (.iaload, 1) := by decide +kernel
theorem dX13_sign_20 : decode cX13_sign 20 = .ok (.goto 4, 3) := by decide +kernel
theorem dX13_sign_23 : decode cX13_sign 23 = .ok (.iconst (-1), 1) := by decide +kernel
theorem dX13_sign_24 : decode cX13_sign 24 = .ok (.ireturn, 1) := by decide +kernel
set_option maxRecDepth 20000 in
theorem ggX13_expects_X13_sign : GoodIn wsX13_expects wsX13_sign := goodIn_ca (goodIn_r _ [7, 2, 8, 9, 10, 11, 12, 13, 14, 15, 16, 17, 18, 19, 20, 21, 22, 23, 24, 25, 26, 27, 28, 29, 30, 31, 32, 33, 34, 35, 36, 37, 38] rfl (by decide +kernel)) (goodIn_sub (fun _ h => List.mem_cons_of_mem _ (List.mem_append_right _ h)) (by decide +kernel))
set_option maxRecDepth 20000 in
theorem gX13_expects_X13_sign : GoodIn wsX13_expects (wsV RX13 242 RX13 yX13_sign wsX13_sign) := goodIn_app (goodIn_of _ (by decide +kernel)) ggX13_expects_X13_sign
theorem dX13_expects_0 : decode cX13_expects 0 = .ok (.aload_n 0, 1) := by decide +kernel
theorem dX13_expects_1 : decode cX13_expects 1 = .ok (.getfield 238, 3) := by decide +kernel
theorem dX13_expects_4 : decode cX13_expects 4 = .ok (.ifCond .eq 4, 3) := by decide +kernel
theorem dX13_expects_7 : decode cX13_expects 7 = .ok (.return_, 1) := by decide +kernel
theorem dX13_expects_8 : decode cX13_expects 8 = .ok (.aload_n 0, 1) := by decide +kernel
theorem dX13_expects_9 : decode cX13_expects 9 = .ok (.aload_n 0, 1) := by decide +kernel
theorem dX13_expects_10 : decode cX13_expects 10 = .ok (.invokevirtual 242, 3) := by decide +kernel
theorem dX13_expects_13 : decode cX13_expects 13 = .ok (.iload_n 1, 1) := by decide +kernel
theorem dX13_expects_14 : decode cX13_expects 14 = .ok (.if_icmp .eq 7, 3) := by decide +kernel
theorem dX13_expects_17 : decode cX13_expects 17 = .ok (.iconst 1, 1) := by decide +kernel
theorem dX13_expects_18 : decode cX13_expects 18 = .ok (.goto 4, 3) := by decide +kernel
theorem dX13_expects_21 : decode cX13_expects 21 = .ok (.iconst 0, 1) := by decide +kernel
theorem dX13_expects_22 : decode cX13_expects 22 = .ok (.putfield 238, 3) := by decide +kernel
theorem dX13_expects_25 : decode cX13_expects 25 = .ok (.aload_n 0, 1) := by decide +kernel
theorem dX13_expects_26 : decode cX13_expects 26 = .ok (.dup, 1) := by decide +kernel
theorem dX13_expects_27 : decode cX13_expects 27 = .ok (.getfield 232, 3) := by decide +kernel
theorem dX13_expects_30 : decode cX13_expects 30 = .ok (.aload_n 0, 1) := by decide +kernel
theorem dX13_expects_31 : decode cX13_expects 31 = .ok (.getfield 238, 3) := by decide +kernel
theorem dX13_expects_34 : decode cX13_expects 34 = .ok (.ifCond .eq 7, 3) := by decide +kernel
theorem dX13_expects_37 : decode cX13_expects 37 = .ok (.iconst 0, 1) := by decide +kernel
theorem dX13_expects_38 : decode cX13_expects 38 = .ok (.goto 4, 3) := by decide +kernel
theorem dX13_expects_41 : decode cX13_expects 41 = .ok (.iconst 1, 1) := by decide +kernel
theorem dX13_expects_42 : decode cX13_expects 42 = .ok (.iadd, 1) := by decide +kernel
theorem dX13_expects_43 : decode cX13_expects 43 = .ok (.putfield 232, 3) := by decide +kernel
theorem dX13_expects_46 : decode cX13_expects 46 = .ok (.return_, 1) := by decide +kernel
set_option maxRecDepth 20000 in
theorem ggX13_digits_X13_sign : GoodIn wsX13_digits wsX13_sign := goodIn_ca (goodIn_r _ [7, 2, 8, 9, 13, 14, 15, 16, 17, 18, 19, 20, 21, 22, 23, 24, 25, 26, 27, 28, 29, 30, 31, 32, 33, 34, 35, 36, 37, 38, 39, 40, 41] rfl (by decide +kernel)) (goodIn_sub (fun _ h => List.mem_cons_of_mem _ (List.mem_append_right _ h)) (by decide +kernel))
set_option maxRecDepth 20000 in
theorem gX13_digits_X13_sign : GoodIn wsX13_digits (wsV RX13 242 RX13 yX13_sign wsX13_sign) := goodIn_app (goodIn_of _ (by decide +kernel)) ggX13_digits_X13_sign
set_option maxRecDepth 20000 in
theorem ggX13_digits_X13_isIn : GoodIn wsX13_digits wsX13_isIn := goodIn_r _ [12] rfl (by decide +kernel)
set_option maxRecDepth 20000 in
theorem gX13_digits_X13_isIn : GoodIn wsX13_digits (va_wsS RX13 91 yX13_isIn wsX13_isIn) := goodIn_app (goodIn_of _ (by decide +kernel)) ggX13_digits_X13_isIn
theorem dX13_digits_0 : decode cX13_digits 0 = .ok (.iconst 0, 1) := by decide +kernel
theorem dX13_digits_1 : decode cX13_digits 1 = .ok (.istore_n 2, 1) := by decide +kernel
theorem dX13_digits_2 : decode cX13_digits 2 = .ok (.iconst 0, 1) := by decide +kernel
theorem dX13_digits_3 : decode cX13_digits 3 = .ok (.istore_n 3, 1) := by decide +kernel
theorem dX13_digits_4 : decode cX13_digits 4 = .ok (.aload_n 0, 1) := by decide +kernel
theorem dX13_digits_5 : decode cX13_digits 5 = .ok (.getfield 238, 3) := by decide +kernel
theorem dX13_digits_8 : decode cX13_digits 8 = .ok (.ifCond .ne 51, 3) := by decide +kernel
theorem dX13_digits_11 : decode cX13_digits 11 = .ok (.iload_n 3, 1) := by decide +kernel
theorem dX13_digits_12 : decode cX13_digits 12 = .ok (.iload_n 1, 1) := by decide +kernel
theorem dX13_digits_13 : decode cX13_digits 13 = .ok (.if_icmp .ge 46, 3) := by decide +kernel
theorem dX13_digits_16 : decode cX13_digits 16 = .ok (.aload_n 0, 1) := by decide +kernel
theorem dX13_digits_17 : decode cX13_digits 17 = .ok (.invokevirtual 242, 3) := by decide +kernel
theorem dX13_digits_20 : decode cX13_digits 20 = .ok (.bipush 48, 2) := by decide +kernel
theorem dX13_digits_22 : decode cX13_digits 22 = .ok (.bipush 57, 2) := by decide +kernel
theorem dX13_digits_24 : decode cX13_digits 24 = .ok (.invokestatic 91, 3) := by decide +kernel
theorem dX13_digits_27 : decode cX13_digits 27 = .ok (.ifCond .eq 32, 3) := by decide +kernel
theorem dX13_digits_30 : decode cX13_digits 30 = .ok (.bipush 10, 2) := by decide +kernel
theorem dX13_digits_32 : decode cX13_digits 32 = .ok (.iload_n 2, 1) := by decide +kernel
theorem dX13_digits_33 : decode cX13_digits 33 = .ok (.imul, 1) := by decide +kernel
theorem dX13_digits_34 : decode cX13_digits 34 = .ok (.aload_n 0, 1) := by decide +kernel
theorem dX13_digits_35 : decode cX13_digits 35 = .ok (.invokevirtual 242, 3) := by decide +kernel
theorem dX13_digits_38 : decode cX13_digits 38 = .ok (.iadd, 1) := by decide +kernel
theorem dX13_digits_39 : decode cX13_digits 39 = .ok (.bipush 48, 2) := by decide +kernel
theorem dX13_digits_41 : decode cX13_digits 41 = .ok (.isub, 1) := by decide +kernel
theorem dX13_digits_42 : decode cX13_digits 42 = .ok (.istore_n 2, 1) := by decide +kernel
theorem dX13_digits_43 : decode cX13_digits 43 = .ok (.aload_n 0, 1) := by decide +kernel
theorem dX13_digits_44 : decode cX13_digits 44 = .ok (.dup, 1) := by decide +kernel
theorem dX13_digits_45 : decode cX13_digits 45 = .ok (.getfield 232, 3) := by decide +kernel
theorem dX13_digits_48 : decode cX13_digits 48 = .ok (.iconst 1, 1) := by decide +kernel
theorem dX13_digits_49 : decode cX13_digits 49 = .ok (.iadd, 1) := by decide +kernel
theorem dX13_digits_50 : decode cX13_digits 50 = .ok (.putfield 232, 3) := by decide +kernel
theorem dX13_digits_53 : decode cX13_digits 53 = .ok (.iinc 3 1, 3) := by decide +kernel
theorem dX13_digits_56 : decode cX13_digits 56 = .ok (.goto (-52), 3) := by decide +kernel
theorem dX13_digits_59 : decode cX13_digits 59 = .ok (.aload_n 0, 1) := by decide +kernel
theorem dX13_digits_60 : decode cX13_digits 60 = .ok (.dup, 1) := by decide +kernel
theorem dX13_digits_61 : decode cX13_digits 61 = .ok (.getfield 238, 3) := by decide +kernel
theorem dX13_digits_64 : decode cX13_digits 64 = .ok (.iload_n 3, 1) := by decide +kernel
theorem dX13_digits_65 : decode cX13_digits 65 = .ok (.ifCond .ne 7, 3) := by decide +kernel
theorem dX13_digits_68 : decode cX13_digits 68 = .ok (.iconst 1, 1) := by decide +kernel
theorem dX13_digits_69 : decode cX13_digits 69 = .ok (.goto 4, 3) := by decide +kernel
theorem dX13_digits_72 : decode cX13_digits 72 = .ok (.iconst 0, 1) := by decide +kernel
theorem dX13_digits_73 : decode cX13_digits 73 = .ok (.ior, 1) := by decide +kernel
theorem dX13_digits_74 : decode cX13_digits 74 = .ok (.putfield 238, 3) := by decide +kernel
theorem dX13_digits_77 : decode cX13_digits 77 = .ok (.iload_n 2, 1) := by decide +kernel
theorem dX13_digits_78 : decode cX13_digits 78 = .ok (.ireturn, 1) := by decide +kernel
set_option maxRecDepth 20000 in
theorem ggX13_behind_X13_expects : GoodIn wsX13_behind wsX13_expects := goodIn_ca (goodIn_r _ [6, 1, 7, 8, 9, 10, 5, 11, 12, 13, 21, 22, 23, 24, 25, 26, 27, 28, 29, 30, 31, 32, 33, 34, 35, 36, 37, 38, 39, 40, 41, 42, 43, 44, 45, 46, 47, 48, 49] rfl (by decide +kernel)) (goodIn_sub (fun _ h => List.mem_cons_of_mem _ (List.mem_append_right _ h)) (by decide +kernel))
set_option maxRecDepth 20000 in
theorem gX13_behind_X13_expects : GoodIn wsX13_behind (wsV RX13 245 RX13 yX13_expects wsX13_expects) := goodIn_app (goodIn_of _ (by decide +kernel)) ggX13_behind_X13_expects
set_option maxRecDepth 20000 in
theorem ggX13_behind_X13_digits : GoodIn wsX13_behind wsX13_digits := goodIn_ca (goodIn_r _ [17, 1, 7, 8, 9, 10, 5, 11, 12, 13, 18, 19, 20, 21, 22, 23, 24, 25, 26, 27, 28, 29, 30, 31, 32, 33, 34, 35, 36, 37, 38, 39, 40, 41, 42, 43, 44, 45, 46, 47, 48, 49] rfl (by decide +kernel)) (goodIn_sub (fun _ h => List.mem_cons_of_mem _ (List.mem_append_right _ h)) (by decide +kernel))
set_option maxRecDepth 20000 in
theorem gX13_behind_X13_digits : GoodIn wsX13_behind (wsV RX13 248 RX13 yX13_digits wsX13_digits) := goodIn_app (goodIn_of _ (by decide +kernel)) ggX13_behind_X13_digits
theorem dX13_behind_0 : decode cX13_behind 0 = .ok (.aload_n 0, 1) := by decide +kernel
theorem dX13_behind_1 : decode cX13_behind 1 = .ok (.iload_n 1, 1) := by decide +kernel
theorem dX13_behind_2 : decode cX13_behind 2 = .ok (.invokevirtual 245, 3) := by decide +kernel
theorem dX13_behind_5 : decode cX13_behind 5 = .ok (.aload_n 0, 1) := by decide +kernel
theorem dX13_behind_6 : decode cX13_behind 6 = .ok (.getfield 238, 3) := by decide +kernel
theorem dX13_behind_9 : decode cX13_behind 9 = .ok (.ifCond .eq 7, 3) := by decide +kernel
theorem dX13_behind_12 : decode cX13_behind 12 = .ok (.iconst 0, 1) := by decide +kernel
theorem dX13_behind_13 : decode cX13_behind 13 = .ok (.goto 8, 3) := by decide +kernel
theorem dX13_behind_16 : decode cX13_behind 16 = .ok (.aload_n 0, 1) := by decide +kernel
theorem dX13_behind_17 : decode cX13_behind 17 = .ok (.iload_n 2, 1) := by decide +kernel
theorem dX13_behind_18 : decode cX13_behind 18 = .ok (.invokevirtual 248, 3) := by decide +kernel
theorem dX13_behind_21 : decode cX13_behind 21 = .ok (.ireturn, 1) := by decide +kernel
set_option maxRecDepth 20000 in
theorem ggX13_letter_X13_sign : GoodIn wsX13_letter wsX13_sign := goodIn_ca (goodIn_r _ [7, 2, 8, 9, 10, 11, 12, 13, 14, 15, 16, 17, 18, 19, 20, 21, 22, 23, 24, 25, 26, 27, 28, 29, 30, 31, 32, 33, 34, 35, 36, 37, 38] rfl (by decide +kernel)) (goodIn_sub (fun _ h => List.mem_cons_of_mem _ (List.mem_append_right _ h)) (by decide +kernel))
set_option maxRecDepth 20000 in
theorem gX13_letter_X13_sign : GoodIn wsX13_letter (wsV RX13 242 RX13 yX13_sign wsX13_sign) := goodIn_app (goodIn_of _ (by decide +kernel)) ggX13_letter_X13_sign
theorem dX13_letter_0 : decode cX13_letter 0 = .ok (.aload_n 0, 1) := by decide +kernel
theorem dX13_letter_1 : decode cX13_letter 1 = .ok (.invokevirtual 242, 3) := by decide +kernel
theorem dX13_letter_4 : decode cX13_letter 4 = .ok (.istore_n 2, 1) := by decide +kernel
theorem dX13_letter_5 : decode cX13_letter 5 = .ok (.aload_n 0, 1) := by decide +kernel
theorem dX13_letter_6 : decode cX13_letter 6 = .ok (.dup, 1) := by decide +kernel
theorem dX13_letter_7 : decode cX13_letter 7 = .ok (.getfield 238, 3) := by decide +kernel
theorem dX13_letter_10 : decode cX13_letter 10 = .ok (.iload_n 2, 1) := by decide +kernel
theorem dX13_letter_11 : decode cX13_letter 11 = .ok (.bipush 113, 2) := by decide +kernel
theorem dX13_letter_13 : decode cX13_letter 13 = .ok (.if_icmp .eq 23, 3) := by decide +kernel
theorem dX13_letter_16 : decode cX13_letter 16 = .ok (.iload_n 2, 1) := by decide +kernel
theorem dX13_letter_17 : decode cX13_letter 17 = .ok (.bipush 111, 2) := by decide +kernel
theorem dX13_letter_19 : decode cX13_letter 19 = .ok (.if_icmp .eq 17, 3) := by decide +kernel
theorem dX13_letter_22 : decode cX13_letter 22 = .ok (.iload_n 2, 1) := by decide +kernel
theorem dX13_letter_23 : decode cX13_letter 23 = .ok (.bipush 97, 2) := by decide +kernel
theorem dX13_letter_25 : decode cX13_letter 25 = .ok (.if_icmp .ne 7, 3) := by decide +kernel
theorem dX13_letter_28 : decode cX13_letter 28 = .ok (.iload_n 1, 1) := by decide +kernel
theorem dX13_letter_29 : decode cX13_letter 29 = .ok (.ifCond .ne 7, 3) := by decide +kernel
theorem dX13_letter_32 : decode cX13_letter 32 = .ok (.iconst 1, 1) := by decide +kernel
theorem dX13_letter_33 : decode cX13_letter 33 = .ok (.goto 4, 3) := by decide +kernel
theorem dX13_letter_36 : decode cX13_letter 36 = .ok (.iconst 0, 1) := by decide +kernel
theorem dX13_letter_37 : decode cX13_letter 37 = .ok (.ior, 1) := by decide +kernel
theorem dX13_letter_38 : decode cX13_letter 38 = .ok (.putfield 238, 3) := by decide +kernel
theorem dX13_letter_41 : decode cX13_letter 41 = .ok (.aload_n 0, 1) := by decide +kernel
theorem dX13_letter_42 : decode cX13_letter 42 = .ok (.dup, 1) := by decide +kernel
theorem dX13_letter_43 : decode cX13_letter 43 = .ok (.getfield 232, 3) := by decide +kernel
theorem dX13_letter_46 : decode cX13_letter 46 = .ok (.aload_n 0, 1) := by decide +kernel
theorem dX13_letter_47 : decode cX13_letter 47 = .ok (.getfield 238, 3) := by decide +kernel
theorem dX13_letter_50 : decode cX13_letter 50 = .ok (.ifCond .eq 7, 3) := by decide +kernel
theorem dX13_letter_53 : decode cX13_letter 53 = .ok (.iconst 0, 1) := by decide +kernel
theorem dX13_letter_54 : decode cX13_letter 54 = .ok (.goto 4, 3) := by decide +kernel
theorem dX13_letter_57 : decode cX13_letter 57 = .ok (.iconst 1, 1) := by decide +kernel
theorem dX13_letter_58 : decode cX13_letter 58 = .ok (.iadd, 1) := by decide +kernel
theorem dX13_letter_59 : decode cX13_letter 59 = .ok (.putfield 232, 3) := by decide +kernel
theorem dX13_letter_62 : decode cX13_letter 62 = .ok (.iload_n 2, 1) := by decide +kernel
theorem dX13_letter_63 : decode cX13_letter 63 = .ok (.ireturn, 1) := by decide +kernel
set_option maxRecDepth 20000 in
theorem ggX13_word_X13_sign : GoodIn wsX13_word wsX13_sign := goodIn_ca (goodIn_r _ [10, 5, 11, 12, 13, 14, 15, 16, 17, 18, 19, 20, 21, 22, 23, 24, 25, 26, 27, 28, 29, 30, 31, 32, 33, 34, 35, 36, 37, 38, 39, 40, 41] rfl (by decide +kernel)) (goodIn_sub (fun _ h => List.mem_cons_of_mem _ (List.mem_append_right _ h)) (by decide +kernel))
set_option maxRecDepth 20000 in
theorem gX13_word_X13_sign : GoodIn wsX13_word (wsV RX13 242 RX13 yX13_sign wsX13_sign) := goodIn_app (goodIn_of _ (by decide +kernel)) ggX13_word_X13_sign
theorem dX13_word_0 : decode cX13_word 0 = .ok (.iconst 0, 1) := by decide +kernel
theorem dX13_word_1 : decode cX13_word 1 = .ok (.istore_n 1, 1) := by decide +kernel
theorem dX13_word_2 : decode cX13_word 2 = .ok (.iload_n 1, 1) := by decide +kernel
theorem dX13_word_3 : decode cX13_word 3 = .ok (.bipush 10, 2) := by decide +kernel
theorem dX13_word_5 : decode cX13_word 5 = .ok (.if_icmp .ge 16, 3) := by decide +kernel
theorem dX13_word_8 : decode cX13_word 8 = .ok (.aload_n 0, 1) := by decide +kernel
theorem dX13_word_9 : decode cX13_word 9 = .ok (.getfield 64, 3) := by decide +kernel
theorem dX13_word_12 : decode cX13_word 12 = .ok (.iload_n 1, 1) := by decide +kernel
theorem dX13_word_13 : decode cX13_word 13 = .ok (.iconst 1, 1) := by decide +kernel
theorem dX13_word_14 : decode cX13_word 14 = .ok (.iastore, 1) := by decide +kernel
theorem dX13_word_15 : decode cX13_word 15 = .ok (.iinc 1 1, 3) := by decide +kernel
theorem dX13_word_18 : decode cX13_word 18 = .ok (.goto (-16), 3) := by decide +kernel
theorem dX13_word_21 : decode cX13_word 21 = .ok (.iconst 0, 1) := by decide +kernel
theorem dX13_word_22 : decode cX13_word 22 = .ok (.istore_n 1, 1) := by decide +kernel
theorem dX13_word_23 : decode cX13_word 23 = .ok (.iconst (-1), 1) := by decide +kernel
theorem dX13_word_24 : decode cX13_word 24 = .ok (.istore_n 2, 1) := by decide +kernel
theorem dX13_word_25 : decode cX13_word 25 = .ok (.iload_n 2, 1) := by decide +kernel
theorem dX13_word_26 : decode cX13_word 26 = .ok (.ifCond .ge 196, 3) := by decide +kernel
theorem dX13_word_29 : decode cX13_word 29 = .ok (.aload_n 0, 1) := by decide +kernel
theorem dX13_word_30 : decode cX13_word 30 = .ok (.getfield 238, 3) := by decide +kernel
theorem dX13_word_33 : decode cX13_word 33 = .ok (.ifCond .ne 189, 3) := by decide +kernel
theorem dX13_word_36 : decode cX13_word 36 = .ok (.iconst 0, 1) := by decide +kernel
theorem dX13_word_37 : decode cX13_word 37 = .ok (.istore_n 3, 1) := by decide +kernel
theorem dX13_word_38 : decode cX13_word 38 = .ok (.iconst 0, 1) := by decide +kernel
theorem dX13_word_39 : decode cX13_word 39 = .ok (.istore 4, 2) := by decide +kernel
theorem dX13_word_41 : decode cX13_word 41 = .ok (.iload 4, 2) := by decide +kernel
theorem dX13_word_43 : decode cX13_word 43 = .ok (.bipush 10, 2) := by decide +kernel
theorem dX13_word_45 : decode cX13_word 45 = .ok (.if_icmp .ge 85, 3) := by decide +kernel
theorem dX13_word_48 : decode cX13_word 48 = .ok (.aload_n 0, 1) := by decide +kernel
theorem dX13_word_49 : decode cX13_word 49 = .ok (.getfield 64, 3) := by decide +kernel
theorem dX13_word_52 : decode cX13_word 52 = .ok (.iload 4, 2) := by decide +kernel
theorem dX13_word_54 : decode cX13_word 54 = .ok (.dup2, 1) := by decide +kernel
theorem dX13_word_55 : decode cX13_word 55 = .ok (.iaload, 1) := by decide +kernel
theorem dX13_word_56 : decode cX13_word 56 = .ok (.aload_n 0, 1) := by decide +kernel
theorem dX13_word_57 : decode cX13_word 57 = .ok (.getfield 70, 3) := by decide +kernel
theorem dX13_word_60 : decode cX13_word 60 = .ok (.iload 4, 2) := by decide +kernel
theorem dX13_word_62 : decode cX13_word 62 = .ok (.iaload, 1) := by decide +kernel
theorem dX13_word_63 : decode cX13_word 63 = .ok (.iload_n 1, 1) := by decide +kernel
theorem dX13_word_64 : decode cX13_word 64 = .ok (.iadd, 1) := by decide +kernel
theorem dX13_word_65 : decode cX13_word 65 = .ok (.aload_n 0, 1) := by decide +kernel
theorem dX13_word_66 : decode cX13_word 66 = .ok (.getfield 70, 3) := by decide +kernel
theorem dX13_word_69 : decode cX13_word 69 = .ok (.iload 4, 2) := by decide +kernel
theorem dX13_word_71 : decode cX13_word 71 = .ok (.iconst 1, 1) := by decide +kernel
theorem dX13_word_72 : decode cX13_word 72 = .ok (.iadd, 1) := by decide +kernel
theorem dX13_word_73 : decode cX13_word 73 = .ok (.iaload, 1) := by decide +kernel
theorem dX13_word_74 : decode cX13_word 74 = .ok (.if_icmp .ge 28, 3) := by decide +kernel
theorem dX13_word_77 : decode cX13_word 77 = .ok (.aload_n 0, 1) := by decide +kernel
theorem dX13_word_78 : decode cX13_word 78 = .ok (.getfield 67, 3) := by decide +kernel
theorem dX13_word_81 : decode cX13_word 81 = .ok (.aload_n 0, 1) := by decide +kernel
theorem dX13_word_82 : decode cX13_word 82 = .ok (.getfield 70, 3) := by decide +kernel
theorem dX13_word_85 : decode cX13_word 85 = .ok (.iload 4, 2) := by decide +kernel
theorem dX13_word_87 : decode cX13_word 87 = .ok (.iaload, 1) := by decide +kernel
theorem dX13_word_88 : decode cX13_word 88 = .ok (.iload_n 1, 1) := by decide +kernel
theorem dX13_word_89 : decode cX13_word 89 = .ok (.iadd, 1) := by decide +kernel
theorem dX13_word_90 : decode cX13_word 90 = .ok (.iaload, 1) := by decide +kernel
theorem dX13_word_91 : decode cX13_word 91 = .ok (.aload_n 0, 1) := by decide +kernel
theorem dX13_word_92 : decode cX13_word 92 = .ok (.invokevirtual 242, 3) := by decide +kernel
theorem dX13_word_95 : decode cX13_word 95 = .ok (.if_icmp .ne 7, 3) := by decide +kernel
theorem dX13_word_98 : decode cX13_word 98 = .ok (.iconst 1, 1) := by decide +kernel
theorem dX13_word_99 : decode cX13_word 99 = .ok (.goto 4, 3) := by decide +kernel
theorem dX13_word_102 : decode cX13_word 102 = .ok (.iconst 0, 1) := by decide +kernel
theorem dX13_word_103 : decode cX13_word 103 = .ok (.iand, 1) := by decide +kernel
theorem dX13_word_104 : decode cX13_word 104 = .ok (.iastore, 1) := by decide +kernel
theorem dX13_word_105 : decode cX13_word 105 = .ok (.iload_n 3, 1) := by decide +kernel
theorem dX13_word_106 : decode cX13_word 106 = .ok (.aload_n 0, 1) := by decide +kernel
theorem dX13_word_107 : decode cX13_word 107 = .ok (.getfield 64, 3) := by decide +kernel
theorem dX13_word_110 : decode cX13_word 110 = .ok (.iload 4, 2) := by decide +kernel
theorem dX13_word_112 : decode cX13_word 112 = .ok (.iaload, 1) := by decide +kernel
theorem dX13_word_113 : decode cX13_word 113 = .ok (.iconst 1, 1) := by decide +kernel
theorem dX13_word_114 : decode cX13_word 114 = .ok (.if_icmp .ne 7, 3) := by decide +kernel
theorem dX13_word_117 : decode cX13_word 117 = .ok (.iconst 1, 1) := by decide +kernel
theorem dX13_word_118 : decode cX13_word 118 = .ok (.goto 4, 3) := by decide +kernel
theorem dX13_word_121 : decode cX13_word 121 = .ok (.iconst 0, 1) := by decide +kernel
theorem dX13_word_122 : decode cX13_word 122 = .ok (.ior, 1) := by decide +kernel
theorem dX13_word_123 : decode cX13_word 123 = .ok (.istore_n 3, 1) := by decide +kernel
theorem dX13_word_124 : decode cX13_word 124 = .ok (.iinc 4 1, 3) := by decide +kernel
theorem dX13_word_127 : decode cX13_word 127 = .ok (.goto (-86), 3) := by decide +kernel
theorem dX13_word_130 : decode cX13_word 130 = .ok (.aload_n 0, 1) := by decide +kernel
theorem dX13_word_131 : decode cX13_word 131 = .ok (.iload_n 3, 1) := by decide +kernel
theorem dX13_word_132 : decode cX13_word 132 = .ok (.ifCond .ne 7, 3) := by decide +kernel
theorem dX13_word_135 : decode cX13_word 135 = .ok (.iconst 1, 1) := by decide +kernel
theorem dX13_word_136 : decode cX13_word 136 = .ok (.goto 4, 3) := by decide +kernel
theorem dX13_word_139 : decode cX13_word 139 = .ok (.iconst 0, 1) := by decide +kernel
theorem dX13_word_140 : decode cX13_word 140 = .ok (.putfield 238, 3) := by decide +kernel
theorem dX13_word_143 : decode cX13_word 143 = .ok (.aload_n 0, 1) := by decide +kernel
theorem dX13_word_144 : decode cX13_word 144 = .ok (.dup, 1) := by decide +kernel
theorem dX13_word_145 : decode cX13_word 145 = .ok (.getfield 232, 3) := by decide +kernel
theorem dX13_word_148 : decode cX13_word 148 = .ok (.iload_n 3, 1) := by decide +kernel
theorem dX13_word_149 : decode cX13_word 149 = .ok (.ifCond .eq 7, 3) := by decide +kernel
theorem dX13_word_152 : decode cX13_word 152 = .ok (.iconst 1, 1) := by decide +kernel
theorem dX13_word_153 : decode cX13_word 153 = .ok (.goto 4, 3) := by decide +kernel
theorem dX13_word_156 : decode cX13_word 156 = .ok (.iconst 0, 1) := by decide +kernel
theorem dX13_word_157 : decode cX13_word 157 = .ok (.iadd, 1) := by decide +kernel
theorem dX13_word_158 : decode cX13_word 158 = .ok (.putfield 232, 3) := by decide +kernel
theorem dX13_word_161 : decode cX13_word 161 = .ok (.iinc 1 1, 3) := by decide +kernel
theorem dX13_word_164 : decode cX13_word 164 = .ok (.iconst 0, 1) := by decide +kernel
theorem dX13_word_165 : decode cX13_word 165 = .ok (.istore 4, 2) := by decide +kernel
theorem dX13_word_167 : decode cX13_word 167 = .ok (.iload 4, 2) := by decide +kernel
theorem dX13_word_169 : decode cX13_word 169 = .ok (.bipush 10, 2) := by decide +kernel
theorem dX13_word_171 : decode cX13_word 171 = .ok (.if_icmp .ge 48, 3) := by decide +kernel
theorem dX13_word_174 : decode cX13_word 174 = .ok (.aload_n 0, 1) := by decide +kernel
theorem dX13_word_175 : decode cX13_word 175 = .ok (.getfield 64, 3) := by decide +kernel
theorem dX13_word_178 : decode cX13_word 178 = .ok (.iload 4, 2) := by decide +kernel
theorem dX13_word_180 : decode cX13_word 180 = .ok (.iaload, 1) := by decide +kernel
theorem dX13_word_181 : decode cX13_word 181 = .ok (.iconst 1, 1) := by decide +kernel
theorem dX13_word_182 : decode cX13_word 182 = .ok (.if_icmp .ne 29, 3) := by decide +kernel
theorem dX13_word_185 : decode cX13_word 185 = .ok (.aload_n 0, 1) := by decide +kernel
theorem dX13_word_186 : decode cX13_word 186 = .ok (.getfield 70, 3) := by decide +kernel
theorem dX13_word_189 : decode cX13_word 189 = .ok (.iload 4, 2) := by decide +kernel
theorem dX13_word_191 : decode cX13_word 191 = .ok (.iaload, 1) := by decide +kernel
theorem dX13_word_192 : decode cX13_word 192 = .ok (.iload_n 1, 1) := by decide +kernel
theorem dX13_word_193 : decode cX13_word 193 = .ok (.iadd, 1) := by decide +kernel
theorem dX13_word_194 : decode cX13_word 194 = .ok (.aload_n 0, 1) := by decide +kernel
theorem dX13_word_195 : decode cX13_word 195 = .ok (.getfield 70, 3) := by decide +kernel
theorem dX13_word_198 : decode cX13_word 198 = .ok (.iload 4, 2) := by decide +kernel
theorem dX13_word_200 : decode cX13_word 200 = .ok (.iconst 1, 1) := by decide +kernel
theorem dX13_word_201 : decode cX13_word 201 = .ok (.iadd, 1) := by decide +kernel
theorem dX13_word_202 : decode cX13_word 202 = .ok (.iaload, 1) := by decide +kernel
theorem dX13_word_203 : decode cX13_word 203 = .ok (.if_icmp .ne 8, 3) := by decide +kernel
theorem dX13_word_206 : decode cX13_word 206 = .ok (.iload 4, 2) := by decide +kernel
theorem dX13_word_208 : decode cX13_word 208 = .ok (.goto 4, 3) := by decide +kernel
theorem dX13_word_211 : decode cX13_word 211 = .ok (.iload_n 2, 1) := by decide +kernel
theorem dX13_word_212 : decode cX13_word 212 = .ok (.istore_n 2, 1) := by decide +kernel
theorem dX13_word_213 : decode cX13_word 213 = .ok (.iinc 4 1, 3) := by decide +kernel
theorem dX13_word_216 : decode cX13_word 216 = .ok (.goto (-49), 3) := by decide +kernel
theorem dX13_word_219 : decode cX13_word 219 = .ok (.goto (-194), 3) := by decide +kernel
theorem dX13_word_222 : decode cX13_word 222 = .ok (.iload_n 2, 1) := by decide +kernel
theorem dX13_word_223 : decode cX13_word 223 = .ok (.ireturn, 1) := by decide +kernel
set_option maxRecDepth 20000 in
theorem ggX13_does_X13_adds : GoodIn wsX13_does wsX13_adds := goodIn_ca (goodIn_r _ [5, 6, 7, 8, 9, 4, 10, 11, 12, 13, 14, 15, 16, 17, 18, 94, 95, 96, 97, 98, 99, 100, 101, 102, 103, 104, 105, 106, 107, 108, 109, 110, 111, 112, 113, 114, 115, 116, 117, 118, 119, 120, 121, 122] rfl (by decide +kernel)) (goodIn_sub (fun _ h => List.mem_cons_of_mem _ (List.mem_append_right _ h)) (by decide +kernel))
set_option maxRecDepth 20000 in
theorem gX13_does_X13_adds : GoodIn wsX13_does (wsV RX13 105 RX13 yX13_adds wsX13_adds) := goodIn_app (goodIn_of _ (by decide +kernel)) ggX13_does_X13_adds
set_option maxRecDepth 20000 in
theorem ggX13_does_X13_sets : GoodIn wsX13_does wsX13_sets := goodIn_ca (goodIn_r _ [22, 6, 23, 24, 25, 4, 26, 8, 9, 10, 11, 12, 13, 14, 15, 27, 28, 29, 30, 16, 17, 18, 94, 95, 96, 97, 98, 99, 100, 101, 102, 103, 104, 105, 106, 107, 108, 109, 110, 111, 112, 113, 114, 115, 116, 117, 118, 119, 120, 121, 122] rfl (by decide +kernel)) (goodIn_sub (fun _ h => List.mem_cons_of_mem _ (List.mem_append_right _ h)) (by decide +kernel))
set_option maxRecDepth 20000 in
theorem gX13_does_X13_sets : GoodIn wsX13_does (wsV RX13 119 RX13 yX13_sets wsX13_sets) := goodIn_app (goodIn_of _ (by decide +kernel)) ggX13_does_X13_sets
set_option maxRecDepth 20000 in
theorem ggX13_does_X13_moves : GoodIn wsX13_does wsX13_moves := goodIn_ca (goodIn_r _ [34, 6, 23, 24, 25, 4, 26, 8, 9, 10, 11, 12, 13, 14, 15, 16, 17, 18, 94, 95, 96, 97, 98, 99, 100, 101, 102, 103, 104, 105, 106, 107, 108, 109, 110, 111, 112, 113, 114, 115, 116, 117, 118, 119, 120, 121, 122] rfl (by decide +kernel)) (goodIn_sub (fun _ h => List.mem_cons_of_mem _ (List.mem_append_right _ h)) (by decide +kernel))
set_option maxRecDepth 20000 in
theorem gX13_does_X13_moves : GoodIn wsX13_does (wsV RX13 123 RX13 yX13_moves wsX13_moves) := goodIn_app (goodIn_of _ (by decide +kernel)) ggX13_does_X13_moves
set_option maxRecDepth 20000 in
theorem ggX13_does_X13_racks : GoodIn wsX13_does wsX13_racks := goodIn_ca (goodIn_r _ [38, 6, 39, 40, 4, 41, 8, 9, 10, 11, 12, 13, 14, 15, 42, 43, 44, 45, 46, 47, 48, 94, 95, 96, 97, 98, 99, 100, 101, 102, 103, 104, 105, 106, 107, 108, 109, 110, 111, 112, 113, 114, 115, 116, 117, 118, 119, 120, 121, 122] rfl (by decide +kernel)) (goodIn_sub (fun _ h => List.mem_cons_of_mem _ (List.mem_append_right _ h)) (by decide +kernel))
set_option maxRecDepth 20000 in
theorem gX13_does_X13_racks : GoodIn wsX13_does (wsV RX13 181 RX13 yX13_racks wsX13_racks) := goodIn_app (goodIn_of _ (by decide +kernel)) ggX13_does_X13_racks
set_option maxRecDepth 20000 in
theorem ggX13_does_X13_inserts : GoodIn wsX13_does wsX13_inserts := goodIn_ca (goodIn_r _ [52, 6, 39, 40, 4, 41, 8, 9, 10, 11, 12, 13, 14, 15, 46, 47, 48, 53, 54, 55, 56, 57, 58, 59, 60, 42, 43, 44, 45, 94, 95, 96, 97, 98, 99, 100, 101, 102, 103, 104, 105, 106, 107, 108, 109, 110, 111, 112, 113, 114, 115, 116, 117, 118, 119, 120, 121, 122] rfl (by decide +kernel)) (goodIn_sub (fun _ h => List.mem_cons_of_mem _ (List.mem_append_right _ h)) (by decide +kernel))
set_option maxRecDepth 20000 in
theorem gX13_does_X13_inserts : GoodIn wsX13_does (wsV RX13 191 RX13 yX13_inserts wsX13_inserts) := goodIn_app (goodIn_of _ (by decide +kernel)) ggX13_does_X13_inserts
set_option maxRecDepth 20000 in
theorem ggX13_does_X13_draws : GoodIn wsX13_does wsX13_draws := goodIn_ca (goodIn_r _ [64, 6, 39, 40, 4, 41, 8, 9, 10, 11, 12, 13, 14, 15, 46, 47, 48, 57, 58, 59, 60, 94, 95, 96, 97, 98, 99, 100, 101, 102, 103, 104, 105, 106, 107, 108, 109, 110, 111, 112, 113, 114, 115, 116, 117, 118, 119, 120, 121, 122] rfl (by decide +kernel)) (goodIn_sub (fun _ h => List.mem_cons_of_mem _ (List.mem_append_right _ h)) (by decide +kernel))
set_option maxRecDepth 20000 in
theorem gX13_does_X13_draws : GoodIn wsX13_does (wsV RX13 194 RX13 yX13_draws wsX13_draws) := goodIn_app (goodIn_of _ (by decide +kernel)) ggX13_does_X13_draws
set_option maxRecDepth 20000 in
theorem ggX13_does_X13_excites : GoodIn wsX13_does wsX13_excites := goodIn_ca (goodIn_r _ [68, 7, 69, 23, 24, 25, 4, 26, 6, 8, 9, 10, 11, 12, 13, 14, 15, 57, 58, 59, 60, 94, 95, 96, 97, 98, 99, 100, 101, 102, 103, 104, 105, 106, 107, 108, 109, 110, 111, 112, 113, 114, 115, 116, 117, 118, 119, 120, 121, 122] rfl (by decide +kernel)) (goodIn_sub (fun _ h => List.mem_cons_of_mem _ (List.mem_append_right _ h)) (by decide +kernel))
set_option maxRecDepth 20000 in
theorem gX13_does_X13_excites : GoodIn wsX13_does (wsV RX13 198 RX13 yX13_excites wsX13_excites) := goodIn_app (goodIn_of _ (by decide +kernel)) ggX13_does_X13_excites
set_option maxRecDepth 20000 in
theorem ggX13_does_X13_limits : GoodIn wsX13_does wsX13_limits := goodIn_ca (goodIn_r _ [73, 6, 8, 9, 4, 10, 11, 12, 13, 14, 15, 94, 95, 96, 97, 98, 99, 100, 101, 102, 103, 104, 105, 106, 107, 108, 109, 110, 111, 112, 113, 114, 115, 116, 117, 118, 119, 120, 121, 122] rfl (by decide +kernel)) (goodIn_sub (fun _ h => List.mem_cons_of_mem _ (List.mem_append_right _ h)) (by decide +kernel))
set_option maxRecDepth 20000 in
theorem gX13_does_X13_limits : GoodIn wsX13_does (wsV RX13 217 RX13 yX13_limits wsX13_limits) := goodIn_app (goodIn_of _ (by decide +kernel)) ggX13_does_X13_limits
set_option maxRecDepth 20000 in
theorem ggX13_does_X13_passes : GoodIn wsX13_does wsX13_passes := goodIn_ca (goodIn_r _ [77, 6, 8, 9, 4, 10, 11, 12, 13, 14, 15, 78, 79, 80, 81, 7, 82, 83, 84, 85, 69, 27, 28, 29, 30, 16, 17, 18, 42, 43, 44, 45, 46, 47, 48, 86, 87, 88, 89, 90, 91, 92, 93, 53, 54, 55, 56, 57, 58, 59, 60, 94, 95, 96, 97, 98, 99, 100, 101, 102, 103, 104, 105, 106, 107, 108, 109, 110, 111, 112, 113, 114, 115, 116, 117, 118, 119, 120, 121, 122] rfl (by decide +kernel)) (goodIn_sub (fun _ h => List.mem_cons_of_mem _ (List.mem_append_right _ h)) (by decide +kernel))
set_option maxRecDepth 20000 in
theorem gX13_does_X13_passes : GoodIn wsX13_does (wsV RX13 214 RX13 yX13_passes wsX13_passes) := goodIn_app (goodIn_of _ (by decide +kernel)) ggX13_does_X13_passes
theorem dX13_does_0 : decode cX13_does 0 = .ok (.iload_n 1, 1) := by decide +kernel
theorem dX13_does_1 : decode cX13_does 1 = .ok (.tableswitch 116 0 8 #[51, 57, 65, 73, 80, 87, 96, 103, 110], 51) := by decide +kernel
theorem dX13_does_52 : decode cX13_does 52 = .ok (.aload_n 0, 1) := by decide +kernel
theorem dX13_does_53 : decode cX13_does 53 = .ok (.iload_n 2, 1) := by decide +kernel
theorem dX13_does_54 : decode cX13_does 54 = .ok (.invokevirtual 105, 3) := by decide +kernel
theorem dX13_does_57 : decode cX13_does 57 = .ok (.ireturn, 1) := by decide +kernel
theorem dX13_does_58 : decode cX13_does 58 = .ok (.aload_n 0, 1) := by decide +kernel
theorem dX13_does_59 : decode cX13_does 59 = .ok (.iload_n 2, 1) := by decide +kernel
theorem dX13_does_60 : decode cX13_does 60 = .ok (.iload_n 3, 1) := by decide +kernel
theorem dX13_does_61 : decode cX13_does 61 = .ok (.iconst 1, 1) := by decide +kernel
theorem dX13_does_62 : decode cX13_does 62 = .ok (.invokevirtual 119, 3) := by decide +kernel
theorem dX13_does_65 : decode cX13_does 65 = .ok (.ireturn, 1) := by decide +kernel
theorem dX13_does_66 : decode cX13_does 66 = .ok (.aload_n 0, 1) := by decide +kernel
theorem dX13_does_67 : decode cX13_does 67 = .ok (.iload_n 2, 1) := by decide +kernel
theorem dX13_does_68 : decode cX13_does 68 = .ok (.iload_n 3, 1) := by decide +kernel
theorem dX13_does_69 : decode cX13_does 69 = .ok (.iconst 0, 1) := by decide +kernel
theorem dX13_does_70 : decode cX13_does 70 = .ok (.invokevirtual 119, 3) := by decide +kernel
theorem dX13_does_73 : decode cX13_does 73 = .ok (.ireturn, 1) := by decide +kernel
theorem dX13_does_74 : decode cX13_does 74 = .ok (.aload_n 0, 1) := by decide +kernel
theorem dX13_does_75 : decode cX13_does 75 = .ok (.iload_n 2, 1) := by decide +kernel
theorem dX13_does_76 : decode cX13_does 76 = .ok (.iload_n 3, 1) := by decide +kernel
theorem dX13_does_77 : decode cX13_does 77 = .ok (.invokevirtual 123, 3) := by decide +kernel
theorem dX13_does_80 : decode cX13_does 80 = .ok (.ireturn, 1) := by decide +kernel
theorem dX13_does_81 : decode cX13_does 81 = .ok (.aload_n 0, 1) := by decide +kernel
theorem dX13_does_82 : decode cX13_does 82 = .ok (.iload_n 2, 1) := by decide +kernel
theorem dX13_does_83 : decode cX13_does 83 = .ok (.iload_n 3, 1) := by decide +kernel
theorem dX13_does_84 : decode cX13_does 84 = .ok (.invokevirtual 181, 3) := by decide +kernel
theorem dX13_does_87 : decode cX13_does 87 = .ok (.ireturn, 1) := by decide +kernel
theorem dX13_does_88 : decode cX13_does 88 = .ok (.aload_n 0, 1) := by decide +kernel
theorem dX13_does_89 : decode cX13_does 89 = .ok (.iload_n 2, 1) := by decide +kernel
theorem dX13_does_90 : decode cX13_does 90 = .ok (.iload_n 3, 1) := by decide +kernel
theorem dX13_does_91 : decode cX13_does 91 = .ok (.iload 4, 2) := by decide +kernel
theorem dX13_does_93 : decode cX13_does 93 = .ok (.invokevirtual 191, 3) := by decide +kernel
theorem dX13_does_96 : decode cX13_does 96 = .ok (.ireturn, 1) := by decide +kernel
theorem dX13_does_97 : decode cX13_does 97 = .ok (.aload_n 0, 1) := by decide +kernel
theorem dX13_does_98 : decode cX13_does 98 = .ok (.iload_n 2, 1) := by decide +kernel
theorem dX13_does_99 : decode cX13_does 99 = .ok (.iload_n 3, 1) := by decide +kernel
theorem dX13_does_100 : decode cX13_does 100 = .ok (.invokevirtual 194, 3) := by decide +kernel
theorem dX13_does_103 : decode cX13_does 103 = .ok (.ireturn, 1) := by decide +kernel
theorem dX13_does_104 : decode cX13_does 104 = .ok (.aload_n 0, 1) := by decide +kernel
theorem dX13_does_105 : decode cX13_does 105 = .ok (.iload_n 2, 1) := by decide +kernel
theorem dX13_does_106 : decode cX13_does 106 = .ok (.iload_n 3, 1) := by decide +kernel
theorem dX13_does_107 : decode cX13_does 107 = .ok (.invokevirtual 198, 3) := by decide +kernel
theorem dX13_does_110 : decode cX13_does 110 = .ok (.ireturn, 1) := by decide +kernel
theorem dX13_does_111 : decode cX13_does 111 = .ok (.aload_n 0, 1) := by decide +kernel
theorem dX13_does_112 : decode cX13_does 112 = .ok (.iload_n 2, 1) := by decide +kernel
theorem dX13_does_113 : decode cX13_does 113 = .ok (.invokevirtual 217, 3) := by decide +kernel
theorem dX13_does_116 : decode cX13_does 116 = .ok (.ireturn, 1) := by decide +kernel
theorem dX13_does_117 : decode cX13_does 117 = .ok (.aload_n 0, 1) := by decide +kernel
theorem dX13_does_118 : decode cX13_does 118 = .ok (.iload_n 2, 1) := by decide +kernel
theorem dX13_does_119 : decode cX13_does 119 = .ok (.invokevirtual 214, 3) := by decide +kernel
theorem dX13_does_122 : decode cX13_does 122 = .ok (.ireturn, 1) := by decide +kernel
set_option maxRecDepth 20000 in
theorem ggX13_command_X13_word : GoodIn wsX13_command wsX13_word := goodIn_ca (goodIn_r _ [7, 8, 1, 9, 10, 11, 12, 13, 14, 6, 15, 16, 17, 130, 131, 132, 133, 134, 135, 136, 137, 138, 139, 140, 141, 142, 143, 144, 145, 146, 147, 148, 149, 150, 151, 152, 153, 154, 155, 156, 157, 158] rfl (by decide +kernel)) (goodIn_sub (fun _ h => List.mem_cons_of_mem _ (List.mem_append_right _ h)) (by decide +kernel))
set_option maxRecDepth 20000 in
theorem gX13_command_X13_word : GoodIn wsX13_command (wsV RX13 251 RX13 yX13_word wsX13_word) := goodIn_app (goodIn_of _ (by decide +kernel)) ggX13_command_X13_word
set_option maxRecDepth 20000 in
theorem ggX13_command_X13_digits : GoodIn wsX13_command wsX13_digits := goodIn_ca (goodIn_r _ [21, 1, 11, 12, 13, 14, 6, 15, 16, 17, 22, 23, 24, 130, 131, 132, 133, 134, 135, 136, 137, 138, 139, 140, 141, 142, 143, 144, 145, 146, 147, 148, 149, 150, 151, 152, 153, 154, 155, 156, 157, 158] rfl (by decide +kernel)) (goodIn_sub (fun _ h => List.mem_cons_of_mem _ (List.mem_append_right _ h)) (by decide +kernel))
set_option maxRecDepth 20000 in
theorem gX13_command_X13_digits : GoodIn wsX13_command (wsV RX13 248 RX13 yX13_digits wsX13_digits) := goodIn_app (goodIn_of _ (by decide +kernel)) ggX13_command_X13_digits
set_option maxRecDepth 20000 in
theorem ggX13_command_X13_behind : GoodIn wsX13_command wsX13_behind := goodIn_ca (goodIn_r _ [28, 1, 29, 30, 31, 6, 32, 11, 12, 13, 14, 15, 16, 17, 18, 19, 20, 21, 22, 23, 24, 130, 131, 132, 133, 134, 135, 136, 137, 138, 139, 140, 141, 142, 143, 144, 145, 146, 147, 148, 149, 150, 151, 152, 153, 154, 155, 156, 157, 158] rfl (by decide +kernel)) (goodIn_sub (fun _ h => List.mem_cons_of_mem _ (List.mem_append_right _ h)) (by decide +kernel))
set_option maxRecDepth 20000 in
theorem gX13_command_X13_behind : GoodIn wsX13_command (wsV RX13 254 RX13 yX13_behind wsX13_behind) := goodIn_app (goodIn_of _ (by decide +kernel)) ggX13_command_X13_behind
set_option maxRecDepth 20000 in
theorem ggX13_command_X13_letter : GoodIn wsX13_command wsX13_letter := goodIn_ca (goodIn_r _ [36, 1, 11, 12, 13, 14, 6, 15, 16, 17, 130, 131, 132, 133, 134, 135, 136, 137, 138, 139, 140, 141, 142, 143, 144, 145, 146, 147, 148, 149, 150, 151, 152, 153, 154, 155, 156, 157, 158] rfl (by decide +kernel)) (goodIn_sub (fun _ h => List.mem_cons_of_mem _ (List.mem_append_right _ h)) (by decide +kernel))
set_option maxRecDepth 20000 in
theorem gX13_command_X13_letter : GoodIn wsX13_command (wsV RX13 257 RX13 yX13_letter wsX13_letter) := goodIn_app (goodIn_of _ (by decide +kernel)) ggX13_command_X13_letter
set_option maxRecDepth 20000 in
theorem ggX13_command_X13_does : GoodIn wsX13_command wsX13_does := goodIn_ca (goodIn_r _ [40, 41, 42, 43, 6, 44, 45, 46, 22, 23, 24, 47, 48, 49, 50, 51, 52, 53, 54, 55, 56, 57, 58, 59, 60, 61, 62, 63, 64, 65, 66, 67, 68, 69, 70, 71, 72, 73, 74, 75, 76, 77, 78, 79, 80, 81, 82, 83, 84, 85, 86, 87, 88, 89, 90, 91, 92, 93, 94, 95, 96, 97, 98, 99, 100, 101, 102, 103, 104, 105, 106, 107, 108, 109, 110, 111, 112, 113, 114, 115, 116, 117, 118, 119, 120, 121, 122, 123, 124, 125, 126, 127, 128, 129, 130, 131, 132, 133, 134, 135, 136, 137, 138, 139, 140, 141, 142, 143, 144, 145, 146, 147, 148, 149, 150, 151, 152, 153, 154, 155, 156, 157, 158] rfl (by decide +kernel)) (goodIn_sub (fun _ h => List.mem_cons_of_mem _ (List.mem_append_right _ h)) (by decide +kernel))
set_option maxRecDepth 20000 in
theorem gX13_command_X13_does : GoodIn wsX13_command (wsV RX13 264 RX13 yX13_does wsX13_does) := goodIn_app (goodIn_of _ (by decide +kernel)) ggX13_command_X13_does
theorem dX13_command_0 : decode cX13_command 0 = .ok (.aload_n 0, 1) := by decide +kernel
theorem dX13_command_1 : decode cX13_command 1 = .ok (.invokevirtual 251, 3) := by decide +kernel
theorem dX13_command_4 : decode cX13_command 4 = .ok (.istore_n 1, 1) := by decide +kernel
theorem dX13_command_5 : decode cX13_command 5 = .ok (.iconst 0, 1) := by decide +kernel
theorem dX13_command_6 : decode cX13_command 6 = .ok (.istore_n 2, 1) := by decide +kernel
theorem dX13_command_7 : decode cX13_command 7 = .ok (.iconst 0, 1) := by decide +kernel
theorem dX13_command_8 : decode cX13_command 8 = .ok (.istore_n 3, 1) := by decide +kernel
theorem dX13_command_9 : decode cX13_command 9 = .ok (.aload_n 0, 1) := by decide +kernel
theorem dX13_command_10 : decode cX13_command 10 = .ok (.getfield 238, 3) := by decide +kernel
theorem dX13_command_13 : decode cX13_command 13 = .ok (.ifCond .eq 4, 3) := by decide +kernel
theorem dX13_command_16 : decode cX13_command 16 = .ok (.return_, 1) := by decide +kernel
theorem dX13_command_17 : decode cX13_command 17 = .ok (.aload_n 0, 1) := by decide +kernel
theorem dX13_command_18 : decode cX13_command 18 = .ok (.iload_n 1, 1) := by decide +kernel
theorem dX13_command_19 : decode cX13_command 19 = .ok (.ifCond .eq 9, 3) := by decide +kernel
theorem dX13_command_22 : decode cX13_command 22 = .ok (.iload_n 1, 1) := by decide +kernel
theorem dX13_command_23 : decode cX13_command 23 = .ok (.bipush 7, 2) := by decide +kernel
theorem dX13_command_25 : decode cX13_command 25 = .ok (.if_icmp .le 7, 3) := by decide +kernel
theorem dX13_command_28 : decode cX13_command 28 = .ok (.iconst 4, 1) := by decide +kernel
theorem dX13_command_29 : decode cX13_command 29 = .ok (.goto 4, 3) := by decide +kernel
theorem dX13_command_32 : decode cX13_command 32 = .ok (.iconst 1, 1) := by decide +kernel
theorem dX13_command_33 : decode cX13_command 33 = .ok (.invokevirtual 248, 3) := by decide +kernel
theorem dX13_command_36 : decode cX13_command 36 = .ok (.istore 4, 2) := by decide +kernel
theorem dX13_command_38 : decode cX13_command 38 = .ok (.iload_n 1, 1) := by decide +kernel
theorem dX13_command_39 : decode cX13_command 39 = .ok (.iconst 1, 1) := by decide +kernel
theorem dX13_command_40 : decode cX13_command 40 = .ok (.if_icmp .eq 8, 3) := by decide +kernel
theorem dX13_command_43 : decode cX13_command 43 = .ok (.iload_n 1, 1) := by decide +kernel
theorem dX13_command_44 : decode cX13_command 44 = .ok (.iconst 2, 1) := by decide +kernel
theorem dX13_command_45 : decode cX13_command 45 = .ok (.if_icmp .ne 18, 3) := by decide +kernel
theorem dX13_command_48 : decode cX13_command 48 = .ok (.aload_n 0, 1) := by decide +kernel
theorem dX13_command_49 : decode cX13_command 49 = .ok (.getfield 238, 3) := by decide +kernel
theorem dX13_command_52 : decode cX13_command 52 = .ok (.ifCond .ne 11, 3) := by decide +kernel
theorem dX13_command_55 : decode cX13_command 55 = .ok (.aload_n 0, 1) := by decide +kernel
theorem dX13_command_56 : decode cX13_command 56 = .ok (.bipush 62, 2) := by decide +kernel
theorem dX13_command_58 : decode cX13_command 58 = .ok (.iconst 1, 1) := by decide +kernel
theorem dX13_command_59 : decode cX13_command 59 = .ok (.invokevirtual 254, 3) := by decide +kernel
theorem dX13_command_62 : decode cX13_command 62 = .ok (.istore_n 2, 1) := by decide +kernel
theorem dX13_command_63 : decode cX13_command 63 = .ok (.iload_n 1, 1) := by decide +kernel
theorem dX13_command_64 : decode cX13_command 64 = .ok (.iconst 3, 1) := by decide +kernel
theorem dX13_command_65 : decode cX13_command 65 = .ok (.if_icmp .ne 18, 3) := by decide +kernel
theorem dX13_command_68 : decode cX13_command 68 = .ok (.aload_n 0, 1) := by decide +kernel
theorem dX13_command_69 : decode cX13_command 69 = .ok (.getfield 238, 3) := by decide +kernel
theorem dX13_command_72 : decode cX13_command 72 = .ok (.ifCond .ne 11, 3) := by decide +kernel
theorem dX13_command_75 : decode cX13_command 75 = .ok (.aload_n 0, 1) := by decide +kernel
theorem dX13_command_76 : decode cX13_command 76 = .ok (.bipush 61, 2) := by decide +kernel
theorem dX13_command_78 : decode cX13_command 78 = .ok (.iconst 1, 1) := by decide +kernel
theorem dX13_command_79 : decode cX13_command 79 = .ok (.invokevirtual 254, 3) := by decide +kernel
theorem dX13_command_82 : decode cX13_command 82 = .ok (.istore_n 2, 1) := by decide +kernel
theorem dX13_command_83 : decode cX13_command 83 = .ok (.iload_n 1, 1) := by decide +kernel
theorem dX13_command_84 : decode cX13_command 84 = .ok (.iconst 4, 1) := by decide +kernel
theorem dX13_command_85 : decode cX13_command 85 = .ok (.if_icmp .ne 16, 3) := by decide +kernel
theorem dX13_command_88 : decode cX13_command 88 = .ok (.aload_n 0, 1) := by decide +kernel
theorem dX13_command_89 : decode cX13_command 89 = .ok (.getfield 238, 3) := by decide +kernel
theorem dX13_command_92 : decode cX13_command 92 = .ok (.ifCond .ne 9, 3) := by decide +kernel
theorem dX13_command_95 : decode cX13_command 95 = .ok (.aload_n 0, 1) := by decide +kernel
theorem dX13_command_96 : decode cX13_command 96 = .ok (.iconst 1, 1) := by decide +kernel
theorem dX13_command_97 : decode cX13_command 97 = .ok (.invokevirtual 257, 3) := by decide +kernel
theorem dX13_command_100 : decode cX13_command 100 = .ok (.istore_n 2, 1) := by decide +kernel
theorem dX13_command_101 : decode cX13_command 101 = .ok (.iload_n 1, 1) := by decide +kernel
theorem dX13_command_102 : decode cX13_command 102 = .ok (.iconst 5, 1) := by decide +kernel
theorem dX13_command_103 : decode cX13_command 103 = .ok (.if_icmp .eq 9, 3) := by decide +kernel
theorem dX13_command_106 : decode cX13_command 106 = .ok (.iload_n 1, 1) := by decide +kernel
theorem dX13_command_107 : decode cX13_command 107 = .ok (.bipush 6, 2) := by decide +kernel
theorem dX13_command_109 : decode cX13_command 109 = .ok (.if_icmp .ne 16, 3) := by decide +kernel
theorem dX13_command_112 : decode cX13_command 112 = .ok (.aload_n 0, 1) := by decide +kernel
theorem dX13_command_113 : decode cX13_command 113 = .ok (.getfield 238, 3) := by decide +kernel
theorem dX13_command_116 : decode cX13_command 116 = .ok (.ifCond .ne 9, 3) := by decide +kernel
theorem dX13_command_119 : decode cX13_command 119 = .ok (.aload_n 0, 1) := by decide +kernel
theorem dX13_command_120 : decode cX13_command 120 = .ok (.iconst 1, 1) := by decide +kernel
theorem dX13_command_121 : decode cX13_command 121 = .ok (.invokevirtual 248, 3) := by decide +kernel
theorem dX13_command_124 : decode cX13_command 124 = .ok (.istore_n 2, 1) := by decide +kernel
theorem dX13_command_125 : decode cX13_command 125 = .ok (.iload_n 1, 1) := by decide +kernel
theorem dX13_command_126 : decode cX13_command 126 = .ok (.iconst 5, 1) := by decide +kernel
theorem dX13_command_127 : decode cX13_command 127 = .ok (.if_icmp .ne 16, 3) := by decide +kernel
theorem dX13_command_130 : decode cX13_command 130 = .ok (.aload_n 0, 1) := by decide +kernel
theorem dX13_command_131 : decode cX13_command 131 = .ok (.getfield 238, 3) := by decide +kernel
theorem dX13_command_134 : decode cX13_command 134 = .ok (.ifCond .ne 9, 3) := by decide +kernel
theorem dX13_command_137 : decode cX13_command 137 = .ok (.aload_n 0, 1) := by decide +kernel
theorem dX13_command_138 : decode cX13_command 138 = .ok (.iconst 0, 1) := by decide +kernel
theorem dX13_command_139 : decode cX13_command 139 = .ok (.invokevirtual 257, 3) := by decide +kernel
theorem dX13_command_142 : decode cX13_command 142 = .ok (.istore_n 3, 1) := by decide +kernel
theorem dX13_command_143 : decode cX13_command 143 = .ok (.iload_n 1, 1) := by decide +kernel
theorem dX13_command_144 : decode cX13_command 144 = .ok (.bipush 7, 2) := by decide +kernel
theorem dX13_command_146 : decode cX13_command 146 = .ok (.if_icmp .ne 18, 3) := by decide +kernel
theorem dX13_command_149 : decode cX13_command 149 = .ok (.aload_n 0, 1) := by decide +kernel
theorem dX13_command_150 : decode cX13_command 150 = .ok (.getfield 238, 3) := by decide +kernel
theorem dX13_command_153 : decode cX13_command 153 = .ok (.ifCond .ne 11, 3) := by decide +kernel
theorem dX13_command_156 : decode cX13_command 156 = .ok (.aload_n 0, 1) := by decide +kernel
theorem dX13_command_157 : decode cX13_command 157 = .ok (.bipush 43, 2) := by decide +kernel
theorem dX13_command_159 : decode cX13_command 159 = .ok (.iconst 4, 1) := by decide +kernel
theorem dX13_command_160 : decode cX13_command 160 = .ok (.invokevirtual 254, 3) := by decide +kernel
theorem dX13_command_163 : decode cX13_command 163 = .ok (.istore_n 2, 1) := by decide +kernel
theorem dX13_command_164 : decode cX13_command 164 = .ok (.aload_n 0, 1) := by decide +kernel
theorem dX13_command_165 : decode cX13_command 165 = .ok (.getfield 238, 3) := by decide +kernel
theorem dX13_command_168 : decode cX13_command 168 = .ok (.ifCond .ne 10, 3) := by decide +kernel
theorem dX13_command_171 : decode cX13_command 171 = .ok (.aload_n 0, 1) := by decide +kernel
theorem dX13_command_172 : decode cX13_command 172 = .ok (.getfield 261, 3) := by decide +kernel
theorem dX13_command_175 : decode cX13_command 175 = .ok (.ifCond .ne 4, 3) := by decide +kernel
theorem dX13_command_178 : decode cX13_command 178 = .ok (.return_, 1) := by decide +kernel
theorem dX13_command_179 : decode cX13_command 179 = .ok (.aload_n 0, 1) := by decide +kernel
theorem dX13_command_180 : decode cX13_command 180 = .ok (.iload_n 1, 1) := by decide +kernel
theorem dX13_command_181 : decode cX13_command 181 = .ok (.iload 4, 2) := by decide +kernel
theorem dX13_command_183 : decode cX13_command 183 = .ok (.iload_n 2, 1) := by decide +kernel
theorem dX13_command_184 : decode cX13_command 184 = .ok (.iload_n 3, 1) := by decide +kernel
theorem dX13_command_185 : decode cX13_command 185 = .ok (.invokevirtual 264, 3) := by decide +kernel
theorem dX13_command_188 : decode cX13_command 188 = .ok (.istore 5, 2) := by decide +kernel
theorem dX13_command_190 : decode cX13_command 190 = .ok (.return_, 1) := by decide +kernel
set_option maxRecDepth 20000 in
theorem ggX13_commands_X13_command : GoodIn wsX13_commands wsX13_command := goodIn_ca (goodIn_r _ [9, 2, 10, 11, 12, 13, 8, 14, 15, 16, 17, 1, 18, 19, 20, 21, 4, 22, 23, 24, 25, 26, 27, 28, 29, 30, 31, 32, 33, 34, 35, 36, 37, 38, 39, 40, 41, 42, 43, 44, 45, 46, 47, 48, 49, 50, 51, 52, 53, 54, 55, 3, 56, 57, 58, 59, 60, 61, 62, 63, 64, 65, 66, 67, 68, 69, 70, 71, 72, 73, 74, 75, 76, 77, 78, 79, 80, 81, 82, 83, 84, 85, 86, 87, 88, 89, 90, 91, 92, 93, 94, 95, 96, 97, 98, 99, 100, 101, 102, 103, 104, 105, 106, 107, 108, 109, 110, 111, 112, 113, 114, 115, 116, 117, 118, 119, 120, 121, 122, 123, 124, 125, 126, 127, 128, 129, 130, 131, 132, 133, 134, 135, 136, 137, 138, 139, 140, 141, 142, 143, 144, 145, 146, 147, 148, 149, 150, 151, 152, 153, 154, 155, 156, 157, 158, 159, 160, 161, 162] rfl (by decide +kernel)) (goodIn_sub (fun _ h => List.mem_cons_of_mem _ (List.mem_append_right _ h)) (by decide +kernel))
set_option maxRecDepth 20000 in
theorem gX13_commands_X13_command : GoodIn wsX13_commands (wsV RX13 268 RX13 yX13_command wsX13_command) := goodIn_app (goodIn_of _ (by decide +kernel)) ggX13_commands_X13_command
set_option maxRecDepth 20000 in
theorem ggX13_commands_X13_expects : GoodIn wsX13_commands wsX13_expects := goodIn_ca (goodIn_r _ [37, 2, 1, 18, 19, 20, 8, 21, 4, 22, 134, 135, 136, 137, 138, 139, 140, 141, 142, 143, 144, 145, 146, 147, 148, 149, 150, 151, 152, 153, 154, 155, 156, 157, 158, 159, 160, 161, 162] rfl (by decide +kernel)) (goodIn_sub (fun _ h => List.mem_cons_of_mem _ (List.mem_append_right _ h)) (by decide +kernel))
set_option maxRecDepth 20000 in
theorem gX13_commands_X13_expects : GoodIn wsX13_commands (wsV RX13 245 RX13 yX13_expects wsX13_expects) := goodIn_app (goodIn_of _ (by decide +kernel)) ggX13_commands_X13_expects
theorem dX13_commands_0 : decode cX13_commands 0 = .ok (.aload_n 0, 1) := by decide +kernel
theorem dX13_commands_1 : decode cX13_commands 1 = .ok (.iconst 0, 1) := by decide +kernel
theorem dX13_commands_2 : decode cX13_commands 2 = .ok (.putfield 232, 3) := by decide +kernel
theorem dX13_commands_5 : decode cX13_commands 5 = .ok (.aload_n 0, 1) := by decide +kernel
theorem dX13_commands_6 : decode cX13_commands 6 = .ok (.iconst 0, 1) := by decide +kernel
theorem dX13_commands_7 : decode cX13_commands 7 = .ok (.putfield 238, 3) := by decide +kernel
theorem dX13_commands_10 : decode cX13_commands 10 = .ok (.iconst 1, 1) := by decide +kernel
theorem dX13_commands_11 : decode cX13_commands 11 = .ok (.istore_n 1, 1) := by decide +kernel
theorem dX13_commands_12 : decode cX13_commands 12 = .ok (.aload_n 0, 1) := by decide +kernel
theorem dX13_commands_13 : decode cX13_commands 13 = .ok (.invokevirtual 268, 3) := by decide +kernel
theorem dX13_commands_16 : decode cX13_commands 16 = .ok (.aload_n 0, 1) := by decide +kernel
theorem dX13_commands_17 : decode cX13_commands 17 = .ok (.getfield 238, 3) := by decide +kernel
theorem dX13_commands_20 : decode cX13_commands 20 = .ok (.ifCond .ne 44, 3) := by decide +kernel
theorem dX13_commands_23 : decode cX13_commands 23 = .ok (.aload_n 0, 1) := by decide +kernel
theorem dX13_commands_24 : decode cX13_commands 24 = .ok (.getfield 77, 3) := by decide +kernel
theorem dX13_commands_27 : decode cX13_commands 27 = .ok (.ifCond .ne 37, 3) := by decide +kernel
theorem dX13_commands_30 : decode cX13_commands 30 = .ok (.aload_n 0, 1) := by decide +kernel
theorem dX13_commands_31 : decode cX13_commands 31 = .ok (.getfield 232, 3) := by decide +kernel
theorem dX13_commands_34 : decode cX13_commands 34 = .ok (.aload_n 0, 1) := by decide +kernel
theorem dX13_commands_35 : decode cX13_commands 35 = .ok (.getfield 235, 3) := by decide +kernel
theorem dX13_commands_38 : decode cX13_commands 38 = .ok (.if_icmp .ge 26, 3) := by decide +kernel
theorem dX13_commands_41 : decode cX13_commands 41 = .ok (.aload_n 0, 1) := by decide +kernel
theorem dX13_commands_42 : decode cX13_commands 42 = .ok (.bipush 59, 2) := by decide +kernel
theorem dX13_commands_44 : decode cX13_commands 44 = .ok (.invokevirtual 245, 3) := by decide +kernel
theorem dX13_commands_47 : decode cX13_commands 47 = .ok (.aload_n 0, 1) := by decide +kernel
theorem dX13_commands_48 : decode cX13_commands 48 = .ok (.getfield 238, 3) := by decide +kernel
theorem dX13_commands_51 : decode cX13_commands 51 = .ok (.ifCond .ne 7, 3) := by decide +kernel
theorem dX13_commands_54 : decode cX13_commands 54 = .ok (.aload_n 0, 1) := by decide +kernel
theorem dX13_commands_55 : decode cX13_commands 55 = .ok (.invokevirtual 268, 3) := by decide +kernel
theorem dX13_commands_58 : decode cX13_commands 58 = .ok (.iinc 1 1, 3) := by decide +kernel
theorem dX13_commands_61 : decode cX13_commands 61 = .ok (.goto (-45), 3) := by decide +kernel
theorem dX13_commands_64 : decode cX13_commands 64 = .ok (.iload_n 1, 1) := by decide +kernel
theorem dX13_commands_65 : decode cX13_commands 65 = .ok (.ireturn, 1) := by decide +kernel
set_option maxRecDepth 20000 in
theorem ggX13_run_X13_begins : GoodIn wsX13_run wsX13_begins := goodIn_ca (goodIn_r _ [13, 7, 14, 15, 16, 17, 18, 19, 12, 20, 21, 22, 23, 160, 161, 162, 163, 164, 165, 166, 167, 168, 169, 170, 171, 172, 173, 174, 175, 176, 177, 178, 179, 180, 181, 182, 183, 184, 185, 186, 187, 188] rfl (by decide +kernel)) (goodIn_sub (fun _ h => List.mem_cons_of_mem _ (List.mem_append_right _ h)) (by decide +kernel))
set_option maxRecDepth 20000 in
theorem gX13_run_X13_begins : GoodIn wsX13_run (wsV RX13 102 RX13 yX13_begins wsX13_begins) := goodIn_app (goodIn_of _ (by decide +kernel)) ggX13_run_X13_begins
set_option maxRecDepth 20000 in
theorem ggX13_run_X13_commands : GoodIn wsX13_run wsX13_commands := goodIn_ca (goodIn_r _ [27, 5, 4, 7, 2, 28, 29, 30, 12, 31, 3, 32, 33, 34, 35, 36, 37, 38, 39, 40, 41, 42, 43, 44, 45, 46, 47, 48, 49, 50, 51, 52, 53, 54, 55, 56, 57, 58, 59, 60, 61, 62, 63, 64, 65, 66, 67, 68, 69, 70, 15, 17, 71, 72, 73, 74, 75, 76, 77, 78, 79, 80, 81, 82, 83, 84, 85, 86, 87, 88, 89, 90, 91, 92, 93, 94, 95, 96, 97, 98, 99, 100, 101, 102, 103, 104, 105, 106, 107, 108, 109, 110, 111, 112, 113, 114, 115, 116, 117, 118, 119, 120, 121, 122, 123, 124, 125, 126, 127, 128, 129, 130, 131, 132, 133, 134, 135, 136, 137, 138, 139, 140, 141, 142, 143, 144, 145, 146, 147, 148, 149, 150, 151, 152, 160, 161, 162, 163, 164, 165, 166, 167, 168, 169, 170, 171, 172, 173, 174, 175, 176, 177, 178, 179, 180, 181, 182, 183, 184, 185, 186, 187, 188] rfl (by decide +kernel)) (goodIn_sub (fun _ h => List.mem_cons_of_mem _ (List.mem_append_right _ h)) (by decide +kernel))
set_option maxRecDepth 20000 in
theorem gX13_run_X13_commands : GoodIn wsX13_run (wsV RX13 271 RX13 yX13_commands wsX13_commands) := goodIn_app (goodIn_of _ (by decide +kernel)) ggX13_run_X13_commands
set_option maxRecDepth 20000 in
theorem ggX13_run_X13_fail : GoodIn wsX13_run wsX13_fail := goodIn_r _ [74, 7, 160, 161, 162, 163, 164, 165, 166, 167, 168, 169, 170, 171, 172, 173, 174, 175, 176, 177, 178, 179, 180, 181, 182, 183, 184, 185, 186, 187, 188] rfl (by decide +kernel)
set_option maxRecDepth 20000 in
theorem gX13_run_X13_fail : GoodIn wsX13_run (wsV RX13 98 RX13 yX13_fail wsX13_fail) := goodIn_app (goodIn_of _ (by decide +kernel)) ggX13_run_X13_fail
set_option maxRecDepth 20000 in
theorem ggX13_run_X13_ends : GoodIn wsX13_run wsX13_ends := goodIn_ca (goodIn_r _ [156, 7, 15, 14, 17, 16, 157, 158, 159, 18, 19, 12, 20, 21, 22, 23, 160, 161, 162, 163, 164, 165, 166, 167, 168, 169, 170, 171, 172, 173, 174, 175, 176, 177, 178, 179, 180, 181, 182, 183, 184, 185, 186, 187, 188] rfl (by decide +kernel)) (goodIn_sub (fun _ h => List.mem_cons_of_mem _ (List.mem_append_right _ h)) (by decide +kernel))
set_option maxRecDepth 20000 in
theorem gX13_run_X13_ends : GoodIn wsX13_run (wsV RX13 108 RX13 yX13_ends wsX13_ends) := goodIn_app (goodIn_of _ (by decide +kernel)) ggX13_run_X13_ends
theorem dX13_run_0 : decode cX13_run 0 = .ok (.aload_n 0, 1) := by decide +kernel
theorem dX13_run_1 : decode cX13_run 1 = .ok (.invokevirtual 102, 3) := by decide +kernel
theorem dX13_run_4 : decode cX13_run 4 = .ok (.aload_n 0, 1) := by decide +kernel
theorem dX13_run_5 : decode cX13_run 5 = .ok (.aload_n 0, 1) := by decide +kernel
theorem dX13_run_6 : decode cX13_run 6 = .ok (.getfield 229, 3) := by decide +kernel
theorem dX13_run_9 : decode cX13_run 9 = .ok (.putfield 235, 3) := by decide +kernel
theorem dX13_run_12 : decode cX13_run 12 = .ok (.aload_n 0, 1) := by decide +kernel
theorem dX13_run_13 : decode cX13_run 13 = .ok (.iconst 0, 1) := by decide +kernel
theorem dX13_run_14 : decode cX13_run 14 = .ok (.putfield 229, 3) := by decide +kernel
theorem dX13_run_17 : decode cX13_run 17 = .ok (.aload_n 0, 1) := by decide +kernel
theorem dX13_run_18 : decode cX13_run 18 = .ok (.iconst 0, 1) := by decide +kernel
theorem dX13_run_19 : decode cX13_run 19 = .ok (.putfield 261, 3) := by decide +kernel
theorem dX13_run_22 : decode cX13_run 22 = .ok (.aload_n 0, 1) := by decide +kernel
theorem dX13_run_23 : decode cX13_run 23 = .ok (.invokevirtual 271, 3) := by decide +kernel
theorem dX13_run_26 : decode cX13_run 26 = .ok (.istore_n 1, 1) := by decide +kernel
theorem dX13_run_27 : decode cX13_run 27 = .ok (.aload_n 0, 1) := by decide +kernel
theorem dX13_run_28 : decode cX13_run 28 = .ok (.getfield 238, 3) := by decide +kernel
theorem dX13_run_31 : decode cX13_run 31 = .ok (.ifCond .eq 17, 3) := by decide +kernel
theorem dX13_run_34 : decode cX13_run 34 = .ok (.aload_n 0, 1) := by decide +kernel
theorem dX13_run_35 : decode cX13_run 35 = .ok (.aload_n 0, 1) := by decide +kernel
theorem dX13_run_36 : decode cX13_run 36 = .ok (.getfield 232, 3) := by decide +kernel
theorem dX13_run_39 : decode cX13_run 39 = .ok (.putfield 7, 3) := by decide +kernel
theorem dX13_run_42 : decode cX13_run 42 = .ok (.aload_n 0, 1) := by decide +kernel
theorem dX13_run_43 : decode cX13_run 43 = .ok (.iconst 1, 1) := by decide +kernel
theorem dX13_run_44 : decode cX13_run 44 = .ok (.invokevirtual 98, 3) := by decide +kernel
theorem dX13_run_47 : decode cX13_run 47 = .ok (.ireturn, 1) := by decide +kernel
theorem dX13_run_48 : decode cX13_run 48 = .ok (.aload_n 0, 1) := by decide +kernel
theorem dX13_run_49 : decode cX13_run 49 = .ok (.iconst 1, 1) := by decide +kernel
theorem dX13_run_50 : decode cX13_run 50 = .ok (.putfield 261, 3) := by decide +kernel
theorem dX13_run_53 : decode cX13_run 53 = .ok (.aload_n 0, 1) := by decide +kernel
theorem dX13_run_54 : decode cX13_run 54 = .ok (.invokevirtual 271, 3) := by decide +kernel
theorem dX13_run_57 : decode cX13_run 57 = .ok (.istore_n 1, 1) := by decide +kernel
theorem dX13_run_58 : decode cX13_run 58 = .ok (.aload_n 0, 1) := by decide +kernel
theorem dX13_run_59 : decode cX13_run 59 = .ok (.getfield 77, 3) := by decide +kernel
theorem dX13_run_62 : decode cX13_run 62 = .ok (.ifCond .eq 15, 3) := by decide +kernel
theorem dX13_run_65 : decode cX13_run 65 = .ok (.aload_n 0, 1) := by decide +kernel
theorem dX13_run_66 : decode cX13_run 66 = .ok (.iload_n 1, 1) := by decide +kernel
theorem dX13_run_67 : decode cX13_run 67 = .ok (.iconst 1, 1) := by decide +kernel
theorem dX13_run_68 : decode cX13_run 68 = .ok (.isub, 1) := by decide +kernel
theorem dX13_run_69 : decode cX13_run 69 = .ok (.putfield 13, 3) := by decide +kernel
theorem dX13_run_72 : decode cX13_run 72 = .ok (.aload_n 0, 1) := by decide +kernel
theorem dX13_run_73 : decode cX13_run 73 = .ok (.iconst 2, 1) := by decide +kernel
theorem dX13_run_74 : decode cX13_run 74 = .ok (.putfield 77, 3) := by decide +kernel
theorem dX13_run_77 : decode cX13_run 77 = .ok (.aload_n 0, 1) := by decide +kernel
theorem dX13_run_78 : decode cX13_run 78 = .ok (.iload_n 1, 1) := by decide +kernel
theorem dX13_run_79 : decode cX13_run 79 = .ok (.invokevirtual 108, 3) := by decide +kernel
theorem dX13_run_82 : decode cX13_run 82 = .ok (.ireturn, 1) := by decide +kernel
theorem dX13_errorPosition_0 : decode cX13_errorPosition 0 = .ok (.aload_n 0, 1) := by decide +kernel
theorem dX13_errorPosition_1 : decode cX13_errorPosition 1 = .ok (.aload_n 0, 1) := by decide +kernel
theorem dX13_errorPosition_2 : decode cX13_errorPosition 2 = .ok (.getfield 7, 3) := by decide +kernel
theorem dX13_errorPosition_5 : decode cX13_errorPosition 5 = .ok (.ifCond .ge 7, 3) := by decide +kernel
theorem dX13_errorPosition_8 : decode cX13_errorPosition 8 = .ok (.iconst 1, 1) := by decide +kernel
theorem dX13_errorPosition_9 : decode cX13_errorPosition 9 = .ok (.goto 4, 3) := by decide +kernel
theorem dX13_errorPosition_12 : decode cX13_errorPosition 12 = .ok (.iconst 0, 1) := by decide +kernel
theorem dX13_errorPosition_13 : decode cX13_errorPosition 13 = .ok (.putfield 77, 3) := by decide +kernel
theorem dX13_errorPosition_16 : decode cX13_errorPosition 16 = .ok (.aload_n 0, 1) := by decide +kernel
theorem dX13_errorPosition_17 : decode cX13_errorPosition 17 = .ok (.getfield 77, 3) := by decide +kernel
theorem dX13_errorPosition_20 : decode cX13_errorPosition 20 = .ok (.ifCond .ne 10, 3) := by decide +kernel
theorem dX13_errorPosition_23 : decode cX13_errorPosition 23 = .ok (.aload_n 0, 1) := by decide +kernel
theorem dX13_errorPosition_24 : decode cX13_errorPosition 24 = .ok (.getfield 7, 3) := by decide +kernel
theorem dX13_errorPosition_27 : decode cX13_errorPosition 27 = .ok (.goto 4, 3) := by decide +kernel
theorem dX13_errorPosition_30 : decode cX13_errorPosition 30 = .ok (.iconst 0, 1) := by decide +kernel
theorem dX13_errorPosition_31 : decode cX13_errorPosition 31 = .ok (.ireturn, 1) := by decide +kernel
theorem dX13_failedCommand_0 : decode cX13_failedCommand 0 = .ok (.aload_n 0, 1) := by decide +kernel
theorem dX13_failedCommand_1 : decode cX13_failedCommand 1 = .ok (.aload_n 0, 1) := by decide +kernel
theorem dX13_failedCommand_2 : decode cX13_failedCommand 2 = .ok (.getfield 13, 3) := by decide +kernel
theorem dX13_failedCommand_5 : decode cX13_failedCommand 5 = .ok (.ifCond .ge 7, 3) := by decide +kernel
theorem dX13_failedCommand_8 : decode cX13_failedCommand 8 = .ok (.iconst 1, 1) := by decide +kernel
theorem dX13_failedCommand_9 : decode cX13_failedCommand 9 = .ok (.goto 4, 3) := by decide +kernel
theorem dX13_failedCommand_12 : decode cX13_failedCommand 12 = .ok (.iconst 0, 1) := by decide +kernel
theorem dX13_failedCommand_13 : decode cX13_failedCommand 13 = .ok (.putfield 77, 3) := by decide +kernel
theorem dX13_failedCommand_16 : decode cX13_failedCommand 16 = .ok (.aload_n 0, 1) := by decide +kernel
theorem dX13_failedCommand_17 : decode cX13_failedCommand 17 = .ok (.getfield 77, 3) := by decide +kernel
theorem dX13_failedCommand_20 : decode cX13_failedCommand 20 = .ok (.ifCond .ne 10, 3) := by decide +kernel
theorem dX13_failedCommand_23 : decode cX13_failedCommand 23 = .ok (.aload_n 0, 1) := by decide +kernel
theorem dX13_failedCommand_24 : decode cX13_failedCommand 24 = .ok (.getfield 13, 3) := by decide +kernel
theorem dX13_failedCommand_27 : decode cX13_failedCommand 27 = .ok (.goto 4, 3) := by decide +kernel
theorem dX13_failedCommand_30 : decode cX13_failedCommand 30 = .ok (.iconst 0, 1) := by decide +kernel
theorem dX13_failedCommand_31 : decode cX13_failedCommand 31 = .ok (.ireturn, 1) := by decide +kernel
theorem dX13_writes_0 : decode cX13_writes 0 = .ok (.aload_n 0, 1) := by decide +kernel
theorem dX13_writes_1 : decode cX13_writes 1 = .ok (.getfield 61, 3) := by decide +kernel
theorem dX13_writes_4 : decode cX13_writes 4 = .ok (.aload_n 0, 1) := by decide +kernel
theorem dX13_writes_5 : decode cX13_writes 5 = .ok (.getfield 274, 3) := by decide +kernel
theorem dX13_writes_8 : decode cX13_writes 8 = .ok (.iload_n 1, 1) := by decide +kernel
theorem dX13_writes_9 : decode cX13_writes 9 = .ok (.iastore, 1) := by decide +kernel
theorem dX13_writes_10 : decode cX13_writes 10 = .ok (.aload_n 0, 1) := by decide +kernel
theorem dX13_writes_11 : decode cX13_writes 11 = .ok (.dup, 1) := by decide +kernel
theorem dX13_writes_12 : decode cX13_writes 12 = .ok (.getfield 274, 3) := by decide +kernel
theorem dX13_writes_15 : decode cX13_writes 15 = .ok (.iconst 1, 1) := by decide +kernel
theorem dX13_writes_16 : decode cX13_writes 16 = .ok (.iadd, 1) := by decide +kernel
theorem dX13_writes_17 : decode cX13_writes 17 = .ok (.putfield 274, 3) := by decide +kernel
theorem dX13_writes_20 : decode cX13_writes 20 = .ok (.return_, 1) := by decide +kernel
set_option maxRecDepth 20000 in
theorem ggX13_describeClaim_X13_looks : GoodIn wsX13_describeClaim wsX13_looks := goodIn_ca (goodIn_r _ [7, 8, 9, 10, 11, 6, 12, 2, 13, 14, 15, 40, 41, 42, 43, 44, 45, 46, 47, 48, 49, 50, 51, 52, 53, 54, 55, 56, 57, 58, 59, 60, 61, 62, 63, 64, 65, 66, 67, 68] rfl (by decide +kernel)) (goodIn_sub (fun _ h => List.mem_cons_of_mem _ (List.mem_append_right _ h)) (by decide +kernel))
set_option maxRecDepth 20000 in
theorem gX13_describeClaim_X13_looks : GoodIn wsX13_describeClaim (wsV RX13 129 RX13 yX13_looks wsX13_looks) := goodIn_app (goodIn_of _ (by decide +kernel)) ggX13_describeClaim_X13_looks
set_option maxRecDepth 20000 in
theorem ggX13_describeClaim_X13_accepted : GoodIn wsX13_describeClaim wsX13_accepted := goodIn_ca (goodIn_r _ [19, 2, 20, 21, 22, 6, 23, 24, 25, 26, 27, 28, 29, 30, 31, 32, 33, 34, 40, 41, 42, 43, 44, 45, 46, 47, 48, 49, 50, 51, 52, 53, 54, 55, 56, 57, 58, 59, 60, 61, 62, 63, 64, 65, 66, 67, 68] rfl (by decide +kernel)) (goodIn_sub (fun _ h => List.mem_cons_of_mem _ (List.mem_append_right _ h)) (by decide +kernel))
set_option maxRecDepth 20000 in
theorem gX13_describeClaim_X13_accepted : GoodIn wsX13_describeClaim (wsV RX13 138 RX13 yX13_accepted wsX13_accepted) := goodIn_app (goodIn_of _ (by decide +kernel)) ggX13_describeClaim_X13_accepted
set_option maxRecDepth 20000 in
theorem ggX13_describeClaim_X13_writes : GoodIn wsX13_describeClaim wsX13_writes := goodIn_ca (goodIn_r _ [38, 39, 1, 40, 41, 42, 43, 44, 45, 46, 47, 48, 49, 50, 51, 52, 53, 54, 55, 56, 57, 58, 59, 60, 61, 62, 63, 64, 65, 66, 67, 68] rfl (by decide +kernel)) (goodIn_sub (fun _ h => List.mem_cons_of_mem _ (List.mem_append_right _ h)) (by decide +kernel))
set_option maxRecDepth 20000 in
theorem gX13_describeClaim_X13_writes : GoodIn wsX13_describeClaim (wsV RX13 277 RX13 yX13_writes wsX13_writes) := goodIn_app (goodIn_of _ (by decide +kernel)) ggX13_describeClaim_X13_writes
set_option maxRecDepth 20000 in
theorem ggX13_describeClaim_X13_hitBy : GoodIn wsX13_describeClaim wsX13_hitBy := goodIn_ca (goodIn_r _ [27, 2, 28, 29, 6, 30, 40, 41, 42, 43, 44, 45, 46, 47, 48, 49, 50, 51, 52, 53, 54, 55, 56, 57, 58, 59, 60, 61, 62, 63, 64, 65, 66, 67, 68] rfl (by decide +kernel)) (goodIn_sub (fun _ h => List.mem_cons_of_mem _ (List.mem_append_right _ h)) (by decide +kernel))
set_option maxRecDepth 20000 in
theorem gX13_describeClaim_X13_hitBy : GoodIn wsX13_describeClaim (wsV RX13 132 RX13 yX13_hitBy wsX13_hitBy) := goodIn_app (goodIn_of _ (by decide +kernel)) ggX13_describeClaim_X13_hitBy
set_option maxRecDepth 20000 in
theorem ggX13_describeClaim_X13_hits : GoodIn wsX13_describeClaim wsX13_hits := goodIn_ca (goodIn_r _ [34, 2, 28, 29, 6, 30, 40, 41, 42, 43, 44, 45, 46, 47, 48, 49, 50, 51, 52, 53, 54, 55, 56, 57, 58, 59, 60, 61, 62, 63, 64, 65, 66, 67, 68] rfl (by decide +kernel)) (goodIn_sub (fun _ h => List.mem_cons_of_mem _ (List.mem_append_right _ h)) (by decide +kernel))
set_option maxRecDepth 20000 in
theorem gX13_describeClaim_X13_hits : GoodIn wsX13_describeClaim (wsV RX13 115 RX13 yX13_hits wsX13_hits) := goodIn_app (goodIn_of _ (by decide +kernel)) ggX13_describeClaim_X13_hits
theorem dX13_describeClaim_0 : decode cX13_describeClaim 0 = .ok (.aload_n 0, 1) := by decide +kernel
theorem dX13_describeClaim_1 : decode cX13_describeClaim 1 = .ok (.iload_n 1, 1) := by decide +kernel
theorem dX13_describeClaim_2 : decode cX13_describeClaim 2 = .ok (.invokevirtual 129, 3) := by decide +kernel
theorem dX13_describeClaim_5 : decode cX13_describeClaim 5 = .ok (.ifCond .ne 5, 3) := by decide +kernel
theorem dX13_describeClaim_8 : decode cX13_describeClaim 8 = .ok (.iconst 0, 1) := by decide +kernel
theorem dX13_describeClaim_9 : decode cX13_describeClaim 9 = .ok (.ireturn, 1) := by decide +kernel
theorem dX13_describeClaim_10 : decode cX13_describeClaim 10 = .ok (.aload_n 0, 1) := by decide +kernel
theorem dX13_describeClaim_11 : decode cX13_describeClaim 11 = .ok (.invokevirtual 138, 3) := by decide +kernel
theorem dX13_describeClaim_14 : decode cX13_describeClaim 14 = .ok (.istore_n 2, 1) := by decide +kernel
theorem dX13_describeClaim_15 : decode cX13_describeClaim 15 = .ok (.aload_n 0, 1) := by decide +kernel
theorem dX13_describeClaim_16 : decode cX13_describeClaim 16 = .ok (.iconst 0, 1) := by decide +kernel
theorem dX13_describeClaim_17 : decode cX13_describeClaim 17 = .ok (.putfield 274, 3) := by decide +kernel
theorem dX13_describeClaim_20 : decode cX13_describeClaim 20 = .ok (.aload_n 0, 1) := by decide +kernel
theorem dX13_describeClaim_21 : decode cX13_describeClaim 21 = .ok (.bipush 48, 2) := by decide +kernel
theorem dX13_describeClaim_23 : decode cX13_describeClaim 23 = .ok (.iload_n 1, 1) := by decide +kernel
theorem dX13_describeClaim_24 : decode cX13_describeClaim 24 = .ok (.iadd, 1) := by decide +kernel
theorem dX13_describeClaim_25 : decode cX13_describeClaim 25 = .ok (.invokevirtual 277, 3) := by decide +kernel
theorem dX13_describeClaim_28 : decode cX13_describeClaim 28 = .ok (.aload_n 0, 1) := by decide +kernel
theorem dX13_describeClaim_29 : decode cX13_describeClaim 29 = .ok (.iload_n 2, 1) := by decide +kernel
theorem dX13_describeClaim_30 : decode cX13_describeClaim 30 = .ok (.iload_n 1, 1) := by decide +kernel
theorem dX13_describeClaim_31 : decode cX13_describeClaim 31 = .ok (.ishr, 1) := by decide +kernel
theorem dX13_describeClaim_32 : decode cX13_describeClaim 32 = .ok (.iconst 1, 1) := by decide +kernel
theorem dX13_describeClaim_33 : decode cX13_describeClaim 33 = .ok (.iand, 1) := by decide +kernel
theorem dX13_describeClaim_34 : decode cX13_describeClaim 34 = .ok (.iconst 1, 1) := by decide +kernel
theorem dX13_describeClaim_35 : decode cX13_describeClaim 35 = .ok (.if_icmp .ne 8, 3) := by decide +kernel
theorem dX13_describeClaim_38 : decode cX13_describeClaim 38 = .ok (.bipush 43, 2) := by decide +kernel
theorem dX13_describeClaim_40 : decode cX13_describeClaim 40 = .ok (.goto 23, 3) := by decide +kernel
theorem dX13_describeClaim_43 : decode cX13_describeClaim 43 = .ok (.aload_n 0, 1) := by decide +kernel
theorem dX13_describeClaim_44 : decode cX13_describeClaim 44 = .ok (.iload_n 2, 1) := by decide +kernel
theorem dX13_describeClaim_45 : decode cX13_describeClaim 45 = .ok (.invokevirtual 132, 3) := by decide +kernel
theorem dX13_describeClaim_48 : decode cX13_describeClaim 48 = .ok (.iload_n 1, 1) := by decide +kernel
theorem dX13_describeClaim_49 : decode cX13_describeClaim 49 = .ok (.ishr, 1) := by decide +kernel
theorem dX13_describeClaim_50 : decode cX13_describeClaim 50 = .ok (.iconst 1, 1) := by decide +kernel
theorem dX13_describeClaim_51 : decode cX13_describeClaim 51 = .ok (.iand, 1) := by decide +kernel
theorem dX13_describeClaim_52 : decode cX13_describeClaim 52 = .ok (.iconst 1, 1) := by decide +kernel
theorem dX13_describeClaim_53 : decode cX13_describeClaim 53 = .ok (.if_icmp .ne 8, 3) := by decide +kernel
theorem dX13_describeClaim_56 : decode cX13_describeClaim 56 = .ok (.bipush 45, 2) := by decide +kernel
theorem dX13_describeClaim_58 : decode cX13_describeClaim 58 = .ok (.goto 5, 3) := by decide +kernel
theorem dX13_describeClaim_61 : decode cX13_describeClaim 61 = .ok (.bipush 63, 2) := by decide +kernel
theorem dX13_describeClaim_63 : decode cX13_describeClaim 63 = .ok (.invokevirtual 277, 3) := by decide +kernel
theorem dX13_describeClaim_66 : decode cX13_describeClaim 66 = .ok (.iconst 0, 1) := by decide +kernel
theorem dX13_describeClaim_67 : decode cX13_describeClaim 67 = .ok (.istore_n 3, 1) := by decide +kernel
theorem dX13_describeClaim_68 : decode cX13_describeClaim 68 = .ok (.iload_n 3, 1) := by decide +kernel
theorem dX13_describeClaim_69 : decode cX13_describeClaim 69 = .ok (.aload_n 0, 1) := by decide +kernel
theorem dX13_describeClaim_70 : decode cX13_describeClaim 70 = .ok (.getfield 16, 3) := by decide +kernel
theorem dX13_describeClaim_73 : decode cX13_describeClaim 73 = .ok (.iconst 0, 1) := by decide +kernel
theorem dX13_describeClaim_74 : decode cX13_describeClaim 74 = .ok (.iaload, 1) := by decide +kernel
theorem dX13_describeClaim_75 : decode cX13_describeClaim 75 = .ok (.if_icmp .ge 26, 3) := by decide +kernel
theorem dX13_describeClaim_78 : decode cX13_describeClaim 78 = .ok (.aload_n 0, 1) := by decide +kernel
theorem dX13_describeClaim_79 : decode cX13_describeClaim 79 = .ok (.iload_n 1, 1) := by decide +kernel
theorem dX13_describeClaim_80 : decode cX13_describeClaim 80 = .ok (.iload_n 3, 1) := by decide +kernel
theorem dX13_describeClaim_81 : decode cX13_describeClaim 81 = .ok (.invokevirtual 115, 3) := by decide +kernel
theorem dX13_describeClaim_84 : decode cX13_describeClaim 84 = .ok (.ifCond .eq 11, 3) := by decide +kernel
theorem dX13_describeClaim_87 : decode cX13_describeClaim 87 = .ok (.aload_n 0, 1) := by decide +kernel
theorem dX13_describeClaim_88 : decode cX13_describeClaim 88 = .ok (.bipush 48, 2) := by decide +kernel
theorem dX13_describeClaim_90 : decode cX13_describeClaim 90 = .ok (.iload_n 3, 1) := by decide +kernel
theorem dX13_describeClaim_91 : decode cX13_describeClaim 91 = .ok (.iadd, 1) := by decide +kernel
theorem dX13_describeClaim_92 : decode cX13_describeClaim 92 = .ok (.invokevirtual 277, 3) := by decide +kernel
theorem dX13_describeClaim_95 : decode cX13_describeClaim 95 = .ok (.iinc 3 1, 3) := by decide +kernel
theorem dX13_describeClaim_98 : decode cX13_describeClaim 98 = .ok (.goto (-30), 3) := by decide +kernel
theorem dX13_describeClaim_101 : decode cX13_describeClaim 101 = .ok (.aload_n 0, 1) := by decide +kernel
theorem dX13_describeClaim_102 : decode cX13_describeClaim 102 = .ok (.getfield 274, 3) := by decide +kernel
theorem dX13_describeClaim_105 : decode cX13_describeClaim 105 = .ok (.ireturn, 1) := by decide +kernel
set_option maxRecDepth 20000 in
theorem ggX13_describeRacks_X13_writes : GoodIn wsX13_describeRacks wsX13_writes := goodIn_ca (goodIn_r _ [8, 9, 2, 13, 14, 15, 16, 17, 18, 19, 20, 21, 22, 23, 24, 25, 26, 27, 28, 29, 30, 31, 32, 33, 34, 35, 36, 37, 38, 39, 40, 41] rfl (by decide +kernel)) (goodIn_sub (fun _ h => List.mem_cons_of_mem _ (List.mem_append_right _ h)) (by decide +kernel))
set_option maxRecDepth 20000 in
theorem gX13_describeRacks_X13_writes : GoodIn wsX13_describeRacks (wsV RX13 277 RX13 yX13_writes wsX13_writes) := goodIn_app (goodIn_of _ (by decide +kernel)) ggX13_describeRacks_X13_writes
set_option maxRecDepth 20000 in
theorem ggX13_describeRacks_X13_rackAt : GoodIn wsX13_describeRacks wsX13_rackAt := goodIn_r _ [12] rfl (by decide +kernel)
set_option maxRecDepth 20000 in
theorem gX13_describeRacks_X13_rackAt : GoodIn wsX13_describeRacks (va_wsS RX13 73 yX13_rackAt wsX13_rackAt) := goodIn_app (goodIn_of _ (by decide +kernel)) ggX13_describeRacks_X13_rackAt
theorem dX13_describeRacks_0 : decode cX13_describeRacks 0 = .ok (.aload_n 0, 1) := by decide +kernel
theorem dX13_describeRacks_1 : decode cX13_describeRacks 1 = .ok (.iconst 0, 1) := by decide +kernel
theorem dX13_describeRacks_2 : decode cX13_describeRacks 2 = .ok (.putfield 77, 3) := by decide +kernel
theorem dX13_describeRacks_5 : decode cX13_describeRacks 5 = .ok (.aload_n 0, 1) := by decide +kernel
theorem dX13_describeRacks_6 : decode cX13_describeRacks 6 = .ok (.iconst 0, 1) := by decide +kernel
theorem dX13_describeRacks_7 : decode cX13_describeRacks 7 = .ok (.putfield 274, 3) := by decide +kernel
theorem dX13_describeRacks_10 : decode cX13_describeRacks 10 = .ok (.iconst 0, 1) := by decide +kernel
theorem dX13_describeRacks_11 : decode cX13_describeRacks 11 = .ok (.istore_n 1, 1) := by decide +kernel
theorem dX13_describeRacks_12 : decode cX13_describeRacks 12 = .ok (.iload_n 1, 1) := by decide +kernel
theorem dX13_describeRacks_13 : decode cX13_describeRacks 13 = .ok (.iconst 4, 1) := by decide +kernel
theorem dX13_describeRacks_14 : decode cX13_describeRacks 14 = .ok (.if_icmp .ge 64, 3) := by decide +kernel
theorem dX13_describeRacks_17 : decode cX13_describeRacks 17 = .ok (.iload_n 1, 1) := by decide +kernel
theorem dX13_describeRacks_18 : decode cX13_describeRacks 18 = .ok (.ifCond .le 9, 3) := by decide +kernel
theorem dX13_describeRacks_21 : decode cX13_describeRacks 21 = .ok (.aload_n 0, 1) := by decide +kernel
theorem dX13_describeRacks_22 : decode cX13_describeRacks 22 = .ok (.bipush 32, 2) := by decide +kernel
theorem dX13_describeRacks_24 : decode cX13_describeRacks 24 = .ok (.invokevirtual 277, 3) := by decide +kernel
theorem dX13_describeRacks_27 : decode cX13_describeRacks 27 = .ok (.iconst 0, 1) := by decide +kernel
theorem dX13_describeRacks_28 : decode cX13_describeRacks 28 = .ok (.istore_n 2, 1) := by decide +kernel
theorem dX13_describeRacks_29 : decode cX13_describeRacks 29 = .ok (.iload_n 2, 1) := by decide +kernel
theorem dX13_describeRacks_30 : decode cX13_describeRacks 30 = .ok (.iconst 3, 1) := by decide +kernel
theorem dX13_describeRacks_31 : decode cX13_describeRacks 31 = .ok (.if_icmp .gt 41, 3) := by decide +kernel
theorem dX13_describeRacks_34 : decode cX13_describeRacks 34 = .ok (.aload_n 0, 1) := by decide +kernel
theorem dX13_describeRacks_35 : decode cX13_describeRacks 35 = .ok (.aload_n 0, 1) := by decide +kernel
theorem dX13_describeRacks_36 : decode cX13_describeRacks 36 = .ok (.getfield 16, 3) := by decide +kernel
theorem dX13_describeRacks_39 : decode cX13_describeRacks 39 = .ok (.iload_n 1, 1) := by decide +kernel
theorem dX13_describeRacks_40 : decode cX13_describeRacks 40 = .ok (.iload_n 2, 1) := by decide +kernel
theorem dX13_describeRacks_41 : decode cX13_describeRacks 41 = .ok (.invokestatic 73, 3) := by decide +kernel
theorem dX13_describeRacks_44 : decode cX13_describeRacks 44 = .ok (.iaload, 1) := by decide +kernel
theorem dX13_describeRacks_45 : decode cX13_describeRacks 45 = .ok (.ifCond .ne 8, 3) := by decide +kernel
theorem dX13_describeRacks_48 : decode cX13_describeRacks 48 = .ok (.bipush 46, 2) := by decide +kernel
theorem dX13_describeRacks_50 : decode cX13_describeRacks 50 = .ok (.goto 13, 3) := by decide +kernel
theorem dX13_describeRacks_53 : decode cX13_describeRacks 53 = .ok (.aload_n 0, 1) := by decide +kernel
theorem dX13_describeRacks_54 : decode cX13_describeRacks 54 = .ok (.getfield 16, 3) := by decide +kernel
theorem dX13_describeRacks_57 : decode cX13_describeRacks 57 = .ok (.iload_n 1, 1) := by decide +kernel
theorem dX13_describeRacks_58 : decode cX13_describeRacks 58 = .ok (.iload_n 2, 1) := by decide +kernel
theorem dX13_describeRacks_59 : decode cX13_describeRacks 59 = .ok (.invokestatic 73, 3) := by decide +kernel
theorem dX13_describeRacks_62 : decode cX13_describeRacks 62 = .ok (.iaload, 1) := by decide +kernel
theorem dX13_describeRacks_63 : decode cX13_describeRacks 63 = .ok (.invokevirtual 277, 3) := by decide +kernel
theorem dX13_describeRacks_66 : decode cX13_describeRacks 66 = .ok (.iinc 2 1, 3) := by decide +kernel
theorem dX13_describeRacks_69 : decode cX13_describeRacks 69 = .ok (.goto (-40), 3) := by decide +kernel
theorem dX13_describeRacks_72 : decode cX13_describeRacks 72 = .ok (.iinc 1 1, 3) := by decide +kernel
theorem dX13_describeRacks_75 : decode cX13_describeRacks 75 = .ok (.goto (-63), 3) := by decide +kernel
theorem dX13_describeRacks_78 : decode cX13_describeRacks 78 = .ok (.aload_n 0, 1) := by decide +kernel
theorem dX13_describeRacks_79 : decode cX13_describeRacks 79 = .ok (.getfield 274, 3) := by decide +kernel
theorem dX13_describeRacks_82 : decode cX13_describeRacks 82 = .ok (.ireturn, 1) := by decide +kernel
set_option maxRecDepth 20000 in
theorem ggX13_lineAt_X13_isIn : GoodIn wsX13_lineAt wsX13_isIn := goodIn_r _ [7] rfl (by decide +kernel)
set_option maxRecDepth 20000 in
theorem gX13_lineAt_X13_isIn : GoodIn wsX13_lineAt (va_wsS RX13 91 yX13_isIn wsX13_isIn) := goodIn_app (goodIn_of _ (by decide +kernel)) ggX13_lineAt_X13_isIn
theorem dX13_lineAt_0 : decode cX13_lineAt 0 = .ok (.aload_n 0, 1) := by decide +kernel
theorem dX13_lineAt_1 : decode cX13_lineAt 1 = .ok (.iload_n 1, 1) := by decide +kernel
theorem dX13_lineAt_2 : decode cX13_lineAt 2 = .ok (.iconst 0, 1) := by decide +kernel
theorem dX13_lineAt_3 : decode cX13_lineAt 3 = .ok (.aload_n 0, 1) := by decide +kernel
theorem dX13_lineAt_4 : decode cX13_lineAt 4 = .ok (.getfield 274, 3) := by decide +kernel
theorem dX13_lineAt_7 : decode cX13_lineAt 7 = .ok (.iconst 1, 1) := by decide +kernel
theorem dX13_lineAt_8 : decode cX13_lineAt 8 = .ok (.isub, 1) := by decide +kernel
theorem dX13_lineAt_9 : decode cX13_lineAt 9 = .ok (.invokestatic 91, 3) := by decide +kernel
theorem dX13_lineAt_12 : decode cX13_lineAt 12 = .ok (.ifCond .eq 7, 3) := by decide +kernel
theorem dX13_lineAt_15 : decode cX13_lineAt 15 = .ok (.iconst 0, 1) := by decide +kernel
theorem dX13_lineAt_16 : decode cX13_lineAt 16 = .ok (.goto 4, 3) := by decide +kernel
theorem dX13_lineAt_19 : decode cX13_lineAt 19 = .ok (.iconst 1, 1) := by decide +kernel
theorem dX13_lineAt_20 : decode cX13_lineAt 20 = .ok (.putfield 77, 3) := by decide +kernel
theorem dX13_lineAt_23 : decode cX13_lineAt 23 = .ok (.aload_n 0, 1) := by decide +kernel
theorem dX13_lineAt_24 : decode cX13_lineAt 24 = .ok (.getfield 77, 3) := by decide +kernel
theorem dX13_lineAt_27 : decode cX13_lineAt 27 = .ok (.ifCond .ne 13, 3) := by decide +kernel
theorem dX13_lineAt_30 : decode cX13_lineAt 30 = .ok (.aload_n 0, 1) := by decide +kernel
theorem dX13_lineAt_31 : decode cX13_lineAt 31 = .ok (.getfield 61, 3) := by decide +kernel
theorem dX13_lineAt_34 : decode cX13_lineAt 34 = .ok (.iload_n 1, 1) := by decide +kernel
theorem dX13_lineAt_35 : decode cX13_lineAt 35 = .ok (.iaload, 1) := by decide +kernel
theorem dX13_lineAt_36 : decode cX13_lineAt 36 = .ok (.i2c, 1) := by decide +kernel
theorem dX13_lineAt_37 : decode cX13_lineAt 37 = .ok (.goto 5, 3) := by decide +kernel
theorem dX13_lineAt_40 : decode cX13_lineAt 40 = .ok (.bipush 97, 2) := by decide +kernel
theorem dX13_lineAt_42 : decode cX13_lineAt 42 = .ok (.ireturn, 1) := by decide +kernel
set_option maxRecDepth 20000 in
theorem ggX13_meanWeight_X13_weight : GoodIn wsX13_meanWeight wsX13_weight := goodIn_ca (goodIn_r _ [7, 1, 8, 9, 6, 10, 11, 12, 13, 14, 15, 16, 17, 18, 19, 20, 21, 22, 23, 24, 25, 26, 27, 28, 29, 30, 31, 32, 33, 34, 35, 36, 37, 38, 39] rfl (by decide +kernel)) (goodIn_sub (fun _ h => List.mem_cons_of_mem _ (List.mem_append_right _ h)) (by decide +kernel))
set_option maxRecDepth 20000 in
theorem gX13_meanWeight_X13_weight : GoodIn wsX13_meanWeight (wsV RX13 154 RX13 yX13_weight wsX13_weight) := goodIn_app (goodIn_of _ (by decide +kernel)) ggX13_meanWeight_X13_weight
theorem dX13_meanWeight_0 : decode cX13_meanWeight 0 = .ok (.aload_n 0, 1) := by decide +kernel
theorem dX13_meanWeight_1 : decode cX13_meanWeight 1 = .ok (.aload_n 0, 1) := by decide +kernel
theorem dX13_meanWeight_2 : decode cX13_meanWeight 2 = .ok (.getfield 16, 3) := by decide +kernel
theorem dX13_meanWeight_5 : decode cX13_meanWeight 5 = .ok (.iconst 0, 1) := by decide +kernel
theorem dX13_meanWeight_6 : decode cX13_meanWeight 6 = .ok (.iaload, 1) := by decide +kernel
theorem dX13_meanWeight_7 : decode cX13_meanWeight 7 = .ok (.ifCond .ne 7, 3) := by decide +kernel
theorem dX13_meanWeight_10 : decode cX13_meanWeight 10 = .ok (.iconst 1, 1) := by decide +kernel
theorem dX13_meanWeight_11 : decode cX13_meanWeight 11 = .ok (.goto 4, 3) := by decide +kernel
theorem dX13_meanWeight_14 : decode cX13_meanWeight 14 = .ok (.iconst 0, 1) := by decide +kernel
theorem dX13_meanWeight_15 : decode cX13_meanWeight 15 = .ok (.putfield 77, 3) := by decide +kernel
theorem dX13_meanWeight_18 : decode cX13_meanWeight 18 = .ok (.aload_n 0, 1) := by decide +kernel
theorem dX13_meanWeight_19 : decode cX13_meanWeight 19 = .ok (.getfield 77, 3) := by decide +kernel
theorem dX13_meanWeight_22 : decode cX13_meanWeight 22 = .ok (.ifCond .ne 29, 3) := by decide +kernel
theorem dX13_meanWeight_25 : decode cX13_meanWeight 25 = .ok (.aload_n 0, 1) := by decide +kernel
theorem dX13_meanWeight_26 : decode cX13_meanWeight 26 = .ok (.iconst 1, 1) := by decide +kernel
theorem dX13_meanWeight_27 : decode cX13_meanWeight 27 = .ok (.aload_n 0, 1) := by decide +kernel
theorem dX13_meanWeight_28 : decode cX13_meanWeight 28 = .ok (.getfield 16, 3) := by decide +kernel
theorem dX13_meanWeight_31 : decode cX13_meanWeight 31 = .ok (.iconst 0, 1) := by decide +kernel
theorem dX13_meanWeight_32 : decode cX13_meanWeight 32 = .ok (.iaload, 1) := by decide +kernel
theorem dX13_meanWeight_33 : decode cX13_meanWeight 33 = .ok (.ishl, 1) := by decide +kernel
theorem dX13_meanWeight_34 : decode cX13_meanWeight 34 = .ok (.iconst 1, 1) := by decide +kernel
theorem dX13_meanWeight_35 : decode cX13_meanWeight 35 = .ok (.isub, 1) := by decide +kernel
theorem dX13_meanWeight_36 : decode cX13_meanWeight 36 = .ok (.invokevirtual 154, 3) := by decide +kernel
theorem dX13_meanWeight_39 : decode cX13_meanWeight 39 = .ok (.i2d, 1) := by decide +kernel
theorem dX13_meanWeight_40 : decode cX13_meanWeight 40 = .ok (.aload_n 0, 1) := by decide +kernel
theorem dX13_meanWeight_41 : decode cX13_meanWeight 41 = .ok (.getfield 16, 3) := by decide +kernel
theorem dX13_meanWeight_44 : decode cX13_meanWeight 44 = .ok (.iconst 0, 1) := by decide +kernel
theorem dX13_meanWeight_45 : decode cX13_meanWeight 45 = .ok (.iaload, 1) := by decide +kernel
theorem dX13_meanWeight_46 : decode cX13_meanWeight 46 = .ok (.i2d, 1) := by decide +kernel
theorem dX13_meanWeight_47 : decode cX13_meanWeight 47 = .ok (.ddiv, 1) := by decide +kernel
theorem dX13_meanWeight_48 : decode cX13_meanWeight 48 = .ok (.goto 4, 3) := by decide +kernel
theorem dX13_meanWeight_51 : decode cX13_meanWeight 51 = .ok (.dconst 0, 1) := by decide +kernel
theorem dX13_meanWeight_52 : decode cX13_meanWeight 52 = .ok (.dreturn, 1) := by decide +kernel
set_option maxRecDepth 20000 in
theorem ggX13_meanWeightBits_X13_meanWeight : GoodIn wsX13_meanWeightBits wsX13_meanWeight := goodIn_ca (goodIn_r _ [6, 7, 1, 8, 9, 10, 5, 11, 12, 13, 14, 27, 28, 29, 30, 31, 32, 33, 34, 35, 36, 37, 38, 39, 40, 41, 42, 43, 44, 45, 46, 47, 48, 49, 50, 51, 52, 53, 54, 55] rfl (by decide +kernel)) (goodIn_sub (fun _ h => List.mem_cons_of_mem _ (List.mem_append_right _ h)) (by decide +kernel))
set_option maxRecDepth 20000 in
theorem gX13_meanWeightBits_X13_meanWeight : GoodIn wsX13_meanWeightBits (wsV RX13 280 RX13 yX13_meanWeight wsX13_meanWeight) := goodIn_app (goodIn_of _ (by decide +kernel)) ggX13_meanWeightBits_X13_meanWeight
set_option maxRecDepth 20000 in
theorem ggX13_meanWeightBits_Jxe99ae_doubleToLongBits_ccdee : GoodIn wsX13_meanWeightBits wsJxe99ae_doubleToLongBits_ccdee := goodIn_r _ [18, 19, 20, 21, 22, 23, 24, 25, 17, 26] rfl (by decide +kernel)
set_option maxRecDepth 20000 in
theorem gX13_meanWeightBits_Jxe99ae_doubleToLongBits_ccdee : GoodIn wsX13_meanWeightBits (va_wsS RX13 284 yJxe99ae_doubleToLongBits_ccdee wsJxe99ae_doubleToLongBits_ccdee) := goodIn_app (goodIn_of _ (by decide +kernel)) ggX13_meanWeightBits_Jxe99ae_doubleToLongBits_ccdee
theorem dX13_meanWeightBits_0 : decode cX13_meanWeightBits 0 = .ok (.aload_n 0, 1) := by decide +kernel
theorem dX13_meanWeightBits_1 : decode cX13_meanWeightBits 1 = .ok (.invokevirtual 280, 3) := by decide +kernel
theorem dX13_meanWeightBits_4 : decode cX13_meanWeightBits 4 = .ok (.dstore_n 1, 1) := by decide +kernel
theorem dX13_meanWeightBits_5 : decode cX13_meanWeightBits 5 = .ok (.aload_n 0, 1) := by decide +kernel
theorem dX13_meanWeightBits_6 : decode cX13_meanWeightBits 6 = .ok (.getfield 77, 3) := by decide +kernel
theorem dX13_meanWeightBits_9 : decode cX13_meanWeightBits 9 = .ok (.ifCond .ne 10, 3) := by decide +kernel
theorem dX13_meanWeightBits_12 : decode cX13_meanWeightBits 12 = .ok (.dload_n 1, 1) := by decide +kernel
theorem dX13_meanWeightBits_13 : decode cX13_meanWeightBits 13 = .ok (.invokestatic 284, 3) := by decide +kernel
theorem dX13_meanWeightBits_16 : decode cX13_meanWeightBits 16 = .ok (.goto 4, 3) := by decide +kernel
theorem dX13_meanWeightBits_19 : decode cX13_meanWeightBits 19 = .ok (.lconst 0, 1) := by decide +kernel
theorem dX13_meanWeightBits_20 : decode cX13_meanWeightBits 20 = .ok (.lreturn, 1) := by decide +kernel
set_option maxRecDepth 20000 in
theorem ggX13_isConsistent_X13_accepted : GoodIn wsX13_isConsistent wsX13_accepted := goodIn_ca (goodIn_r _ [6, 7, 8, 9, 10, 5, 11, 12, 13, 14, 15, 16, 17, 18, 19, 20, 21, 22, 32, 33, 34, 35, 36, 37, 38, 39, 40, 41, 42, 43, 44, 45, 46, 47, 48, 49, 50, 51, 52, 53, 54, 55, 56, 57, 58, 59, 60] rfl (by decide +kernel)) (goodIn_sub (fun _ h => List.mem_cons_of_mem _ (List.mem_append_right _ h)) (by decide +kernel))
set_option maxRecDepth 20000 in
theorem gX13_isConsistent_X13_accepted : GoodIn wsX13_isConsistent (wsV RX13 138 RX13 yX13_accepted wsX13_accepted) := goodIn_app (goodIn_of _ (by decide +kernel)) ggX13_isConsistent_X13_accepted
set_option maxRecDepth 20000 in
theorem ggX13_isConsistent_X13_holds : GoodIn wsX13_isConsistent wsX13_holds := goodIn_ca (goodIn_r _ [26, 7, 12, 13, 14, 5, 15, 16, 17, 18, 8, 9, 10, 11, 19, 20, 21, 22, 32, 33, 34, 35, 36, 37, 38, 39, 40, 41, 42, 43, 44, 45, 46, 47, 48, 49, 50, 51, 52, 53, 54, 55, 56, 57, 58, 59, 60] rfl (by decide +kernel)) (goodIn_sub (fun _ h => List.mem_cons_of_mem _ (List.mem_append_right _ h)) (by decide +kernel))
set_option maxRecDepth 20000 in
theorem gX13_isConsistent_X13_holds : GoodIn wsX13_isConsistent (wsV RX13 148 RX13 yX13_holds wsX13_holds) := goodIn_app (goodIn_of _ (by decide +kernel)) ggX13_isConsistent_X13_holds
set_option maxRecDepth 20000 in
theorem ggX13_isConsistent_X13_sum : GoodIn wsX13_isConsistent wsX13_sum := goodIn_ca (goodIn_r _ [30, 7, 31, 32, 33, 34, 35, 36, 37, 38, 39, 40, 41, 42, 43, 44, 45, 46, 47, 48, 49, 50, 51, 52, 53, 54, 55, 56, 57, 58, 59, 60] rfl (by decide +kernel)) (goodIn_sub (fun _ h => List.mem_cons_of_mem _ (List.mem_append_right _ h)) (by decide +kernel))
set_option maxRecDepth 20000 in
theorem gX13_isConsistent_X13_sum : GoodIn wsX13_isConsistent (wsV RX13 207 RX13 yX13_sum wsX13_sum) := goodIn_app (goodIn_of _ (by decide +kernel)) ggX13_isConsistent_X13_sum
theorem dX13_isConsistent_0 : decode cX13_isConsistent 0 = .ok (.aload_n 0, 1) := by decide +kernel
theorem dX13_isConsistent_1 : decode cX13_isConsistent 1 = .ok (.iconst 0, 1) := by decide +kernel
theorem dX13_isConsistent_2 : decode cX13_isConsistent 2 = .ok (.putfield 77, 3) := by decide +kernel
theorem dX13_isConsistent_5 : decode cX13_isConsistent 5 = .ok (.aload_n 0, 1) := by decide +kernel
theorem dX13_isConsistent_6 : decode cX13_isConsistent 6 = .ok (.aload_n 0, 1) := by decide +kernel
theorem dX13_isConsistent_7 : decode cX13_isConsistent 7 = .ok (.invokevirtual 138, 3) := by decide +kernel
theorem dX13_isConsistent_10 : decode cX13_isConsistent 10 = .ok (.invokevirtual 148, 3) := by decide +kernel
theorem dX13_isConsistent_13 : decode cX13_isConsistent 13 = .ok (.ifCond .eq 16, 3) := by decide +kernel
theorem dX13_isConsistent_16 : decode cX13_isConsistent 16 = .ok (.aload_n 0, 1) := by decide +kernel
theorem dX13_isConsistent_17 : decode cX13_isConsistent 17 = .ok (.invokevirtual 207, 3) := by decide +kernel
theorem dX13_isConsistent_20 : decode cX13_isConsistent 20 = .ok (.fconst 0, 1) := by decide +kernel
theorem dX13_isConsistent_21 : decode cX13_isConsistent 21 = .ok (.fcmp .l, 1) := by decide +kernel
theorem dX13_isConsistent_22 : decode cX13_isConsistent 22 = .ok (.ifCond .lt 7, 3) := by decide +kernel
theorem dX13_isConsistent_25 : decode cX13_isConsistent 25 = .ok (.iconst 1, 1) := by decide +kernel
theorem dX13_isConsistent_26 : decode cX13_isConsistent 26 = .ok (.goto 4, 3) := by decide +kernel
theorem dX13_isConsistent_29 : decode cX13_isConsistent 29 = .ok (.iconst 0, 1) := by decide +kernel
theorem dX13_isConsistent_30 : decode cX13_isConsistent 30 = .ok (.ireturn, 1) := by decide +kernel
theorem dX13_undo_0 : decode cX13_undo 0 = .ok (.aload_n 0, 1) := by decide +kernel
theorem dX13_undo_1 : decode cX13_undo 1 = .ok (.aload_n 0, 1) := by decide +kernel
theorem dX13_undo_2 : decode cX13_undo 2 = .ok (.getfield 88, 3) := by decide +kernel
theorem dX13_undo_5 : decode cX13_undo 5 = .ok (.ifCond .ne 7, 3) := by decide +kernel
theorem dX13_undo_8 : decode cX13_undo 8 = .ok (.iconst 1, 1) := by decide +kernel
theorem dX13_undo_9 : decode cX13_undo 9 = .ok (.goto 4, 3) := by decide +kernel
theorem dX13_undo_12 : decode cX13_undo 12 = .ok (.iconst 0, 1) := by decide +kernel
theorem dX13_undo_13 : decode cX13_undo 13 = .ok (.putfield 77, 3) := by decide +kernel
theorem dX13_undo_16 : decode cX13_undo 16 = .ok (.aload_n 0, 1) := by decide +kernel
theorem dX13_undo_17 : decode cX13_undo 17 = .ok (.getfield 77, 3) := by decide +kernel
theorem dX13_undo_20 : decode cX13_undo 20 = .ok (.ifCond .eq 5, 3) := by decide +kernel
theorem dX13_undo_23 : decode cX13_undo 23 = .ok (.iconst 0, 1) := by decide +kernel
theorem dX13_undo_24 : decode cX13_undo 24 = .ok (.ireturn, 1) := by decide +kernel
theorem dX13_undo_25 : decode cX13_undo 25 = .ok (.aload_n 0, 1) := by decide +kernel
theorem dX13_undo_26 : decode cX13_undo 26 = .ok (.dup, 1) := by decide +kernel
theorem dX13_undo_27 : decode cX13_undo 27 = .ok (.getfield 88, 3) := by decide +kernel
theorem dX13_undo_30 : decode cX13_undo 30 = .ok (.iconst 1, 1) := by decide +kernel
theorem dX13_undo_31 : decode cX13_undo 31 = .ok (.isub, 1) := by decide +kernel
theorem dX13_undo_32 : decode cX13_undo 32 = .ok (.putfield 88, 3) := by decide +kernel
theorem dX13_undo_35 : decode cX13_undo 35 = .ok (.iconst 0, 1) := by decide +kernel
theorem dX13_undo_36 : decode cX13_undo 36 = .ok (.istore_n 1, 1) := by decide +kernel
theorem dX13_undo_37 : decode cX13_undo 37 = .ok (.iload_n 1, 1) := by decide +kernel
theorem dX13_undo_38 : decode cX13_undo 38 = .ok (.bipush 83, 2) := by decide +kernel
theorem dX13_undo_40 : decode cX13_undo 40 = .ok (.if_icmp .ge 29, 3) := by decide +kernel
theorem dX13_undo_43 : decode cX13_undo 43 = .ok (.aload_n 0, 1) := by decide +kernel
theorem dX13_undo_44 : decode cX13_undo 44 = .ok (.getfield 16, 3) := by decide +kernel
theorem dX13_undo_47 : decode cX13_undo 47 = .ok (.iload_n 1, 1) := by decide +kernel
theorem dX13_undo_48 : decode cX13_undo 48 = .ok (.aload_n 0, 1) := by decide +kernel
theorem dX13_undo_49 : decode cX13_undo 49 = .ok (.getfield 26, 3) := by decide +kernel
theorem dX13_undo_52 : decode cX13_undo 52 = .ok (.aload_n 0, 1) := by decide +kernel
theorem dX13_undo_53 : decode cX13_undo 53 = .ok (.getfield 88, 3) := by decide +kernel
theorem dX13_undo_56 : decode cX13_undo 56 = .ok (.bipush 83, 2) := by decide +kernel
theorem dX13_undo_58 : decode cX13_undo 58 = .ok (.imul, 1) := by decide +kernel
theorem dX13_undo_59 : decode cX13_undo 59 = .ok (.iload_n 1, 1) := by decide +kernel
theorem dX13_undo_60 : decode cX13_undo 60 = .ok (.iadd, 1) := by decide +kernel
theorem dX13_undo_61 : decode cX13_undo 61 = .ok (.iaload, 1) := by decide +kernel
theorem dX13_undo_62 : decode cX13_undo 62 = .ok (.iastore, 1) := by decide +kernel
theorem dX13_undo_63 : decode cX13_undo 63 = .ok (.iinc 1 1, 3) := by decide +kernel
theorem dX13_undo_66 : decode cX13_undo 66 = .ok (.goto (-29), 3) := by decide +kernel
theorem dX13_undo_69 : decode cX13_undo 69 = .ok (.iconst 0, 1) := by decide +kernel
theorem dX13_undo_70 : decode cX13_undo 70 = .ok (.istore_n 1, 1) := by decide +kernel
theorem dX13_undo_71 : decode cX13_undo 71 = .ok (.iload_n 1, 1) := by decide +kernel
theorem dX13_undo_72 : decode cX13_undo 72 = .ok (.bipush 10, 2) := by decide +kernel
theorem dX13_undo_74 : decode cX13_undo 74 = .ok (.if_icmp .ge 29, 3) := by decide +kernel
theorem dX13_undo_77 : decode cX13_undo 77 = .ok (.aload_n 0, 1) := by decide +kernel
theorem dX13_undo_78 : decode cX13_undo 78 = .ok (.getfield 32, 3) := by decide +kernel
theorem dX13_undo_81 : decode cX13_undo 81 = .ok (.iload_n 1, 1) := by decide +kernel
theorem dX13_undo_82 : decode cX13_undo 82 = .ok (.aload_n 0, 1) := by decide +kernel
theorem dX13_undo_83 : decode cX13_undo 83 = .ok (.getfield 42, 3) := by decide +kernel
theorem dX13_undo_86 : decode cX13_undo 86 = .ok (.aload_n 0, 1) := by decide +kernel
theorem dX13_undo_87 : decode cX13_undo 87 = .ok (.getfield 88, 3) := by decide +kernel
theorem dX13_undo_90 : decode cX13_undo 90 = .ok (.bipush 10, 2) := by decide +kernel
theorem dX13_undo_92 : decode cX13_undo 92 = .ok (.imul, 1) := by decide +kernel
theorem dX13_undo_93 : decode cX13_undo 93 = .ok (.iload_n 1, 1) := by decide +kernel
theorem dX13_undo_94 : decode cX13_undo 94 = .ok (.iadd, 1) := by decide +kernel
theorem dX13_undo_95 : decode cX13_undo 95 = .ok (.faload, 1) := by decide +kernel
theorem dX13_undo_96 : decode cX13_undo 96 = .ok (.fastore, 1) := by decide +kernel
theorem dX13_undo_97 : decode cX13_undo 97 = .ok (.iinc 1 1, 3) := by decide +kernel
theorem dX13_undo_100 : decode cX13_undo 100 = .ok (.goto (-29), 3) := by decide +kernel
theorem dX13_undo_103 : decode cX13_undo 103 = .ok (.aload_n 0, 1) := by decide +kernel
theorem dX13_undo_104 : decode cX13_undo 104 = .ok (.getfield 88, 3) := by decide +kernel
theorem dX13_undo_107 : decode cX13_undo 107 = .ok (.ireturn, 1) := by decide +kernel
set_option maxRecDepth 20000 in
theorem ggX13_save_X13_lays : GoodIn wsX13_save wsX13_lays := goodIn_ca (goodIn_r _ [10] rfl (by decide +kernel)) (goodIn_sub (fun _ h => List.mem_cons_of_mem _ (List.mem_append_right _ h)) (by decide +kernel))
set_option maxRecDepth 20000 in
theorem gX13_save_X13_lays : GoodIn wsX13_save (va_wsS RX13 80 yX13_lays wsX13_lays) := goodIn_app (goodIn_of _ (by decide +kernel)) ggX13_save_X13_lays
set_option maxRecDepth 20000 in
theorem ggX13_save_X13_flows : GoodIn wsX13_save wsX13_flows := goodIn_ca (goodIn_r _ [13] rfl (by decide +kernel)) (goodIn_sub (fun _ h => List.mem_cons_of_mem _ (List.mem_append_right _ h)) (by decide +kernel))
set_option maxRecDepth 20000 in
theorem gX13_save_X13_flows : GoodIn wsX13_save (va_wsS RX13 84 yX13_flows wsX13_flows) := goodIn_app (goodIn_of _ (by decide +kernel)) ggX13_save_X13_flows
theorem dX13_save_0 : decode cX13_save 0 = .ok (.aload_n 0, 1) := by decide +kernel
theorem dX13_save_1 : decode cX13_save 1 = .ok (.iconst 0, 1) := by decide +kernel
theorem dX13_save_2 : decode cX13_save 2 = .ok (.putfield 77, 3) := by decide +kernel
theorem dX13_save_5 : decode cX13_save 5 = .ok (.aload_n 0, 1) := by decide +kernel
theorem dX13_save_6 : decode cX13_save 6 = .ok (.getfield 23, 3) := by decide +kernel
theorem dX13_save_9 : decode cX13_save 9 = .ok (.aload_n 0, 1) := by decide +kernel
theorem dX13_save_10 : decode cX13_save 10 = .ok (.getfield 16, 3) := by decide +kernel
theorem dX13_save_13 : decode cX13_save 13 = .ok (.invokestatic 80, 3) := by decide +kernel
theorem dX13_save_16 : decode cX13_save 16 = .ok (.aload_n 0, 1) := by decide +kernel
theorem dX13_save_17 : decode cX13_save 17 = .ok (.getfield 39, 3) := by decide +kernel
theorem dX13_save_20 : decode cX13_save 20 = .ok (.aload_n 0, 1) := by decide +kernel
theorem dX13_save_21 : decode cX13_save 21 = .ok (.getfield 32, 3) := by decide +kernel
theorem dX13_save_24 : decode cX13_save 24 = .ok (.invokestatic 84, 3) := by decide +kernel
theorem dX13_save_27 : decode cX13_save 27 = .ok (.aload_n 0, 1) := by decide +kernel
theorem dX13_save_28 : decode cX13_save 28 = .ok (.iconst 1, 1) := by decide +kernel
theorem dX13_save_29 : decode cX13_save 29 = .ok (.putfield 290, 3) := by decide +kernel
theorem dX13_save_32 : decode cX13_save 32 = .ok (.aload_n 0, 1) := by decide +kernel
theorem dX13_save_33 : decode cX13_save 33 = .ok (.getfield 16, 3) := by decide +kernel
theorem dX13_save_36 : decode cX13_save 36 = .ok (.iconst 0, 1) := by decide +kernel
theorem dX13_save_37 : decode cX13_save 37 = .ok (.iaload, 1) := by decide +kernel
theorem dX13_save_38 : decode cX13_save 38 = .ok (.ireturn, 1) := by decide +kernel
set_option maxRecDepth 20000 in
theorem ggX13_restore_X13_lays : GoodIn wsX13_restore wsX13_lays := goodIn_ca (goodIn_r _ [11] rfl (by decide +kernel)) (goodIn_sub (fun _ h => List.mem_cons_of_mem _ (List.mem_append_right _ h)) (by decide +kernel))
set_option maxRecDepth 20000 in
theorem gX13_restore_X13_lays : GoodIn wsX13_restore (va_wsS RX13 80 yX13_lays wsX13_lays) := goodIn_app (goodIn_of _ (by decide +kernel)) ggX13_restore_X13_lays
set_option maxRecDepth 20000 in
theorem ggX13_restore_X13_flows : GoodIn wsX13_restore wsX13_flows := goodIn_ca (goodIn_r _ [14] rfl (by decide +kernel)) (goodIn_sub (fun _ h => List.mem_cons_of_mem _ (List.mem_append_right _ h)) (by decide +kernel))
set_option maxRecDepth 20000 in
theorem gX13_restore_X13_flows : GoodIn wsX13_restore (va_wsS RX13 84 yX13_flows wsX13_flows) := goodIn_app (goodIn_of _ (by decide +kernel)) ggX13_restore_X13_flows
theorem dX13_restore_0 : decode cX13_restore 0 = .ok (.aload_n 0, 1) := by decide +kernel
theorem dX13_restore_1 : decode cX13_restore 1 = .ok (.aload_n 0, 1) := by decide +kernel
theorem dX13_restore_2 : decode cX13_restore 2 = .ok (.getfield 290, 3) := by decide +kernel
theorem dX13_restore_5 : decode cX13_restore 5 = .ok (.ifCond .eq 7, 3) := by decide +kernel
theorem dX13_restore_8 : decode cX13_restore 8 = .ok (.iconst 0, 1) := by decide +kernel
theorem dX13_restore_9 : decode cX13_restore 9 = .ok (.goto 4, 3) := by decide +kernel
theorem dX13_restore_12 : decode cX13_restore 12 = .ok (.iconst 1, 1) := by decide +kernel
theorem dX13_restore_13 : decode cX13_restore 13 = .ok (.putfield 77, 3) := by decide +kernel
theorem dX13_restore_16 : decode cX13_restore 16 = .ok (.aload_n 0, 1) := by decide +kernel
theorem dX13_restore_17 : decode cX13_restore 17 = .ok (.getfield 77, 3) := by decide +kernel
theorem dX13_restore_20 : decode cX13_restore 20 = .ok (.ifCond .eq 5, 3) := by decide +kernel
theorem dX13_restore_23 : decode cX13_restore 23 = .ok (.iconst 0, 1) := by decide +kernel
theorem dX13_restore_24 : decode cX13_restore 24 = .ok (.ireturn, 1) := by decide +kernel
theorem dX13_restore_25 : decode cX13_restore 25 = .ok (.aload_n 0, 1) := by decide +kernel
theorem dX13_restore_26 : decode cX13_restore 26 = .ok (.getfield 16, 3) := by decide +kernel
theorem dX13_restore_29 : decode cX13_restore 29 = .ok (.aload_n 0, 1) := by decide +kernel
theorem dX13_restore_30 : decode cX13_restore 30 = .ok (.getfield 23, 3) := by decide +kernel
theorem dX13_restore_33 : decode cX13_restore 33 = .ok (.invokestatic 80, 3) := by decide +kernel
theorem dX13_restore_36 : decode cX13_restore 36 = .ok (.aload_n 0, 1) := by decide +kernel
theorem dX13_restore_37 : decode cX13_restore 37 = .ok (.getfield 32, 3) := by decide +kernel
theorem dX13_restore_40 : decode cX13_restore 40 = .ok (.aload_n 0, 1) := by decide +kernel
theorem dX13_restore_41 : decode cX13_restore 41 = .ok (.getfield 39, 3) := by decide +kernel
theorem dX13_restore_44 : decode cX13_restore 44 = .ok (.invokestatic 84, 3) := by decide +kernel
theorem dX13_restore_47 : decode cX13_restore 47 = .ok (.aload_n 0, 1) := by decide +kernel
theorem dX13_restore_48 : decode cX13_restore 48 = .ok (.iconst 0, 1) := by decide +kernel
theorem dX13_restore_49 : decode cX13_restore 49 = .ok (.putfield 88, 3) := by decide +kernel
theorem dX13_restore_52 : decode cX13_restore 52 = .ok (.aload_n 0, 1) := by decide +kernel
theorem dX13_restore_53 : decode cX13_restore 53 = .ok (.getfield 16, 3) := by decide +kernel
theorem dX13_restore_56 : decode cX13_restore 56 = .ok (.iconst 0, 1) := by decide +kernel
theorem dX13_restore_57 : decode cX13_restore 57 = .ok (.iaload, 1) := by decide +kernel
theorem dX13_restore_58 : decode cX13_restore 58 = .ok (.ireturn, 1) := by decide +kernel
