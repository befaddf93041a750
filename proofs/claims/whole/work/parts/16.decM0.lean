theorem dX9_init_0 : decode cX9_init 0 = .ok (.aload_n 0, 1) := by decide +kernel
theorem dX9_init_1 : decode cX9_init 1 = .ok (.invokespecial 1, 3) := by decide +kernel
theorem dX9_init_4 : decode cX9_init 4 = .ok (.aload_n 0, 1) := by decide +kernel
theorem dX9_init_5 : decode cX9_init 5 = .ok (.bipush 7, 2) := by decide +kernel
theorem dX9_init_7 : decode cX9_init 7 = .ok (.newarray .int, 2) := by decide +kernel
theorem dX9_init_9 : decode cX9_init 9 = .ok (.putfield 7, 3) := by decide +kernel
theorem dX9_init_12 : decode cX9_init 12 = .ok (.aload_n 0, 1) := by decide +kernel
theorem dX9_init_13 : decode cX9_init 13 = .ok (.bipush 7, 2) := by decide +kernel
theorem dX9_init_15 : decode cX9_init 15 = .ok (.newarray .int, 2) := by decide +kernel
theorem dX9_init_17 : decode cX9_init 17 = .ok (.putfield 13, 3) := by decide +kernel
theorem dX9_init_20 : decode cX9_init 20 = .ok (.aload_n 0, 1) := by decide +kernel
theorem dX9_init_21 : decode cX9_init 21 = .ok (.bipush 7, 2) := by decide +kernel
theorem dX9_init_23 : decode cX9_init 23 = .ok (.newarray .int, 2) := by decide +kernel
theorem dX9_init_25 : decode cX9_init 25 = .ok (.putfield 16, 3) := by decide +kernel
theorem dX9_init_28 : decode cX9_init 28 = .ok (.aload_n 0, 1) := by decide +kernel
theorem dX9_init_29 : decode cX9_init 29 = .ok (.bipush 7, 2) := by decide +kernel
theorem dX9_init_31 : decode cX9_init 31 = .ok (.newarray .int, 2) := by decide +kernel
theorem dX9_init_33 : decode cX9_init 33 = .ok (.putfield 19, 3) := by decide +kernel
theorem dX9_init_36 : decode cX9_init 36 = .ok (.aload_n 0, 1) := by decide +kernel
theorem dX9_init_37 : decode cX9_init 37 = .ok (.bipush 7, 2) := by decide +kernel
theorem dX9_init_39 : decode cX9_init 39 = .ok (.newarray .int, 2) := by decide +kernel
theorem dX9_init_41 : decode cX9_init 41 = .ok (.putfield 22, 3) := by decide +kernel
theorem dX9_init_44 : decode cX9_init 44 = .ok (.aload_n 0, 1) := by decide +kernel
theorem dX9_init_45 : decode cX9_init 45 = .ok (.sipush 160, 3) := by decide +kernel
theorem dX9_init_48 : decode cX9_init 48 = .ok (.newarray .int, 2) := by decide +kernel
theorem dX9_init_50 : decode cX9_init 50 = .ok (.putfield 25, 3) := by decide +kernel
theorem dX9_init_53 : decode cX9_init 53 = .ok (.aload_n 0, 1) := by decide +kernel
theorem dX9_init_54 : decode cX9_init 54 = .ok (.sipush 1200, 3) := by decide +kernel
theorem dX9_init_57 : decode cX9_init 57 = .ok (.newarray .int, 2) := by decide +kernel
theorem dX9_init_59 : decode cX9_init 59 = .ok (.putfield 28, 3) := by decide +kernel
theorem dX9_init_62 : decode cX9_init 62 = .ok (.aload_n 0, 1) := by decide +kernel
theorem dX9_init_63 : decode cX9_init 63 = .ok (.bipush 24, 2) := by decide +kernel
theorem dX9_init_65 : decode cX9_init 65 = .ok (.newarray .int, 2) := by decide +kernel
theorem dX9_init_67 : decode cX9_init 67 = .ok (.putfield 31, 3) := by decide +kernel
theorem dX9_init_70 : decode cX9_init 70 = .ok (.aload_n 0, 1) := by decide +kernel
theorem dX9_init_71 : decode cX9_init 71 = .ok (.bipush 21, 2) := by decide +kernel
theorem dX9_init_73 : decode cX9_init 73 = .ok (.newarray .int, 2) := by decide +kernel
theorem dX9_init_75 : decode cX9_init 75 = .ok (.putfield 34, 3) := by decide +kernel
theorem dX9_init_78 : decode cX9_init 78 = .ok (.aload_n 0, 1) := by decide +kernel
theorem dX9_init_79 : decode cX9_init 79 = .ok (.iconst 4, 1) := by decide +kernel
theorem dX9_init_80 : decode cX9_init 80 = .ok (.newarray .int, 2) := by decide +kernel
theorem dX9_init_82 : decode cX9_init 82 = .ok (.dup, 1) := by decide +kernel
theorem dX9_init_83 : decode cX9_init 83 = .ok (.iconst 0, 1) := by decide +kernel
theorem dX9_init_84 : decode cX9_init 84 = .ok (.iconst (-1), 1) := by decide +kernel
theorem dX9_init_85 : decode cX9_init 85 = .ok (.iastore, 1) := by decide +kernel
theorem dX9_init_86 : decode cX9_init 86 = .ok (.dup, 1) := by decide +kernel
theorem dX9_init_87 : decode cX9_init 87 = .ok (.iconst 1, 1) := by decide +kernel
theorem dX9_init_88 : decode cX9_init 88 = .ok (.iconst (-1), 1) := by decide +kernel
theorem dX9_init_89 : decode cX9_init 89 = .ok (.iastore, 1) := by decide +kernel
theorem dX9_init_90 : decode cX9_init 90 = .ok (.dup, 1) := by decide +kernel
theorem dX9_init_91 : decode cX9_init 91 = .ok (.iconst 2, 1) := by decide +kernel
theorem dX9_init_92 : decode cX9_init 92 = .ok (.iconst (-1), 1) := by decide +kernel
theorem dX9_init_93 : decode cX9_init 93 = .ok (.iastore, 1) := by decide +kernel
theorem dX9_init_94 : decode cX9_init 94 = .ok (.dup, 1) := by decide +kernel
theorem dX9_init_95 : decode cX9_init 95 = .ok (.iconst 3, 1) := by decide +kernel
theorem dX9_init_96 : decode cX9_init 96 = .ok (.iconst (-1), 1) := by decide +kernel
theorem dX9_init_97 : decode cX9_init 97 = .ok (.iastore, 1) := by decide +kernel
theorem dX9_init_98 : decode cX9_init 98 = .ok (.putfield 37, 3) := by decide +kernel
theorem dX9_init_101 : decode cX9_init 101 = .ok (.aload_n 0, 1) := by decide +kernel
theorem dX9_init_102 : decode cX9_init 102 = .ok (.iconst 4, 1) := by decide +kernel
theorem dX9_init_103 : decode cX9_init 103 = .ok (.newarray .int, 2) := by decide +kernel
theorem dX9_init_105 : decode cX9_init 105 = .ok (.putfield 40, 3) := by decide +kernel
theorem dX9_init_108 : decode cX9_init 108 = .ok (.aload_n 0, 1) := by decide +kernel
theorem dX9_init_109 : decode cX9_init 109 = .ok (.sipush 160, 3) := by decide +kernel
theorem dX9_init_112 : decode cX9_init 112 = .ok (.newarray .int, 2) := by decide +kernel
theorem dX9_init_114 : decode cX9_init 114 = .ok (.putfield 43, 3) := by decide +kernel
theorem dX9_init_117 : decode cX9_init 117 = .ok (.aload_n 0, 1) := by decide +kernel
theorem dX9_init_118 : decode cX9_init 118 = .ok (.bipush 47, 2) := by decide +kernel
theorem dX9_init_120 : decode cX9_init 120 = .ok (.newarray .int, 2) := by decide +kernel
theorem dX9_init_122 : decode cX9_init 122 = .ok (.dup, 1) := by decide +kernel
theorem dX9_init_123 : decode cX9_init 123 = .ok (.iconst 0, 1) := by decide +kernel
theorem dX9_init_124 : decode cX9_init 124 = .ok (.bipush 119, 2) := by decide +kernel
theorem dX9_init_126 : decode cX9_init 126 = .ok (.iastore, 1) := by decide +kernel
theorem dX9_init_127 : decode cX9_init 127 = .ok (.dup, 1) := by decide +kernel
theorem dX9_init_128 : decode cX9_init 128 = .ok (.iconst 1, 1) := by decide +kernel
theorem dX9_init_129 : decode cX9_init 129 = .ok (.bipush 111, 2) := by decide +kernel
theorem dX9_init_131 : decode cX9_init 131 = .ok (.iastore, 1) := by decide +kernel
theorem dX9_init_132 : decode cX9_init 132 = .ok (.dup, 1) := by decide +kernel
theorem dX9_init_133 : decode cX9_init 133 = .ok (.iconst 2, 1) := by decide +kernel
theorem dX9_init_134 : decode cX9_init 134 = .ok (.bipush 114, 2) := by decide +kernel
theorem dX9_init_136 : decode cX9_init 136 = .ok (.iastore, 1) := by decide +kernel
theorem dX9_init_137 : decode cX9_init 137 = .ok (.dup, 1) := by decide +kernel
theorem dX9_init_138 : decode cX9_init 138 = .ok (.iconst 3, 1) := by decide +kernel
theorem dX9_init_139 : decode cX9_init 139 = .ok (.bipush 116, 2) := by decide +kernel
theorem dX9_init_141 : decode cX9_init 141 = .ok (.iastore, 1) := by decide +kernel
theorem dX9_init_142 : decode cX9_init 142 = .ok (.dup, 1) := by decide +kernel
theorem dX9_init_143 : decode cX9_init 143 = .ok (.iconst 4, 1) := by decide +kernel
theorem dX9_init_144 : decode cX9_init 144 = .ok (.bipush 104, 2) := by decide +kernel
theorem dX9_init_146 : decode cX9_init 146 = .ok (.iastore, 1) := by decide +kernel
theorem dX9_init_147 : decode cX9_init 147 = .ok (.dup, 1) := by decide +kernel
theorem dX9_init_148 : decode cX9_init 148 = .ok (.iconst 5, 1) := by decide +kernel
theorem dX9_init_149 : decode cX9_init 149 = .ok (.bipush 32, 2) := by decide +kernel
theorem dX9_init_151 : decode cX9_init 151 = .ok (.iastore, 1) := by decide +kernel
theorem dX9_init_152 : decode cX9_init 152 = .ok (.dup, 1) := by decide +kernel
theorem dX9_init_153 : decode cX9_init 153 = .ok (.bipush 6, 2) := by decide +kernel
theorem dX9_init_155 : decode cX9_init 155 = .ok (.bipush 50, 2) := by decide +kernel
theorem dX9_init_157 : decode cX9_init 157 = .ok (.iastore, 1) := by decide +kernel
theorem dX9_init_158 : decode cX9_init 158 = .ok (.dup, 1) := by decide +kernel
theorem dX9_init_159 : decode cX9_init 159 = .ok (.bipush 7, 2) := by decide +kernel
theorem dX9_init_161 : decode cX9_init 161 = .ok (.bipush 48, 2) := by decide +kernel
theorem dX9_init_163 : decode cX9_init 163 = .ok (.iastore, 1) := by decide +kernel
theorem dX9_init_164 : decode cX9_init 164 = .ok (.dup, 1) := by decide +kernel
theorem dX9_init_165 : decode cX9_init 165 = .ok (.bipush 8, 2) := by decide +kernel
theorem dX9_init_167 : decode cX9_init 167 = .ok (.bipush 32, 2) := by decide +kernel
theorem dX9_init_169 : decode cX9_init 169 = .ok (.iastore, 1) := by decide +kernel
theorem dX9_init_170 : decode cX9_init 170 = .ok (.dup, 1) := by decide +kernel
theorem dX9_init_171 : decode cX9_init 171 = .ok (.bipush 9, 2) := by decide +kernel
theorem dX9_init_173 : decode cX9_init 173 = .ok (.bipush 45, 2) := by decide +kernel
theorem dX9_init_175 : decode cX9_init 175 = .ok (.iastore, 1) := by decide +kernel
theorem dX9_init_176 : decode cX9_init 176 = .ok (.dup, 1) := by decide +kernel
theorem dX9_init_177 : decode cX9_init 177 = .ok (.bipush 10, 2) := by decide +kernel
theorem dX9_init_179 : decode cX9_init 179 = .ok (.bipush 32, 2) := by decide +kernel
theorem dX9_init_181 : decode cX9_init 181 = .ok (.iastore, 1) := by decide +kernel
theorem dX9_init_182 : decode cX9_init 182 = .ok (.dup, 1) := by decide +kernel
theorem dX9_init_183 : decode cX9_init 183 = .ok (.bipush 11, 2) := by decide +kernel
theorem dX9_init_185 : decode cX9_init 185 = .ok (.bipush 99, 2) := by decide +kernel
theorem dX9_init_187 : decode cX9_init 187 = .ok (.iastore, 1) := by decide +kernel
theorem dX9_init_188 : decode cX9_init 188 = .ok (.dup, 1) := by decide +kernel
theorem dX9_init_189 : decode cX9_init 189 = .ok (.bipush 12, 2) := by decide +kernel
theorem dX9_init_191 : decode cX9_init 191 = .ok (.bipush 111, 2) := by decide +kernel
theorem dX9_init_193 : decode cX9_init 193 = .ok (.iastore, 1) := by decide +kernel
theorem dX9_init_194 : decode cX9_init 194 = .ok (.dup, 1) := by decide +kernel
theorem dX9_init_195 : decode cX9_init 195 = .ok (.bipush 13, 2) := by decide +kernel
theorem dX9_init_197 : decode cX9_init 197 = .ok (.bipush 108, 2) := by decide +kernel
theorem dX9_init_199 : decode cX9_init 199 = .ok (.iastore, 1) := by decide +kernel
theorem dX9_init_200 : decode cX9_init 200 = .ok (.dup, 1) := by decide +kernel
theorem dX9_init_201 : decode cX9_init 201 = .ok (.bipush 14, 2) := by decide +kernel
theorem dX9_init_203 : decode cX9_init 203 = .ok (.bipush 111, 2) := by decide +kernel
theorem dX9_init_205 : decode cX9_init 205 = .ok (.iastore, 1) := by decide +kernel
theorem dX9_init_206 : decode cX9_init 206 = .ok (.dup, 1) := by decide +kernel
theorem dX9_init_207 : decode cX9_init 207 = .ok (.bipush 15, 2) := by decide +kernel
theorem dX9_init_209 : decode cX9_init 209 = .ok (.bipush 117, 2) := by decide +kernel
theorem dX9_init_211 : decode cX9_init 211 = .ok (.iastore, 1) := by decide +kernel
theorem dX9_init_212 : decode cX9_init 212 = .ok (.dup, 1) := by decide +kernel
theorem dX9_init_213 : decode cX9_init 213 = .ok (.bipush 16, 2) := by decide +kernel
theorem dX9_init_215 : decode cX9_init 215 = .ok (.bipush 114, 2) := by decide +kernel
theorem dX9_init_217 : decode cX9_init 217 = .ok (.iastore, 1) := by decide +kernel
theorem dX9_init_218 : decode cX9_init 218 = .ok (.dup, 1) := by decide +kernel
theorem dX9_init_219 : decode cX9_init 219 = .ok (.bipush 17, 2) := by decide +kernel
theorem dX9_init_221 : decode cX9_init 221 = .ok (.bipush 32, 2) := by decide +kernel
theorem dX9_init_223 : decode cX9_init 223 = .ok (.iastore, 1) := by decide +kernel
theorem dX9_init_224 : decode cX9_init 224 = .ok (.dup, 1) := by decide +kernel
theorem dX9_init_225 : decode cX9_init 225 = .ok (.bipush 18, 2) := by decide +kernel
theorem dX9_init_227 : decode cX9_init 227 = .ok (.bipush 42, 2) := by decide +kernel
theorem dX9_init_229 : decode cX9_init 229 = .ok (.iastore, 1) := by decide +kernel
theorem dX9_init_230 : decode cX9_init 230 = .ok (.dup, 1) := by decide +kernel
theorem dX9_init_231 : decode cX9_init 231 = .ok (.bipush 19, 2) := by decide +kernel
theorem dX9_init_233 : decode cX9_init 233 = .ok (.bipush 32, 2) := by decide +kernel
theorem dX9_init_235 : decode cX9_init 235 = .ok (.iastore, 1) := by decide +kernel
theorem dX9_init_236 : decode cX9_init 236 = .ok (.dup, 1) := by decide +kernel
theorem dX9_init_237 : decode cX9_init 237 = .ok (.bipush 20, 2) := by decide +kernel
theorem dX9_init_239 : decode cX9_init 239 = .ok (.bipush 52, 2) := by decide +kernel
theorem dX9_init_241 : decode cX9_init 241 = .ok (.iastore, 1) := by decide +kernel
theorem dX9_init_242 : decode cX9_init 242 = .ok (.dup, 1) := by decide +kernel
theorem dX9_init_243 : decode cX9_init 243 = .ok (.bipush 21, 2) := by decide +kernel
theorem dX9_init_245 : decode cX9_init 245 = .ok (.bipush 32, 2) := by decide +kernel
theorem dX9_init_247 : decode cX9_init 247 = .ok (.iastore, 1) := by decide +kernel
theorem dX9_init_248 : decode cX9_init 248 = .ok (.dup, 1) := by decide +kernel
theorem dX9_init_249 : decode cX9_init 249 = .ok (.bipush 22, 2) := by decide +kernel
theorem dX9_init_251 : decode cX9_init 251 = .ok (.bipush 59, 2) := by decide +kernel
theorem dX9_init_253 : decode cX9_init 253 = .ok (.iastore, 1) := by decide +kernel
theorem dX9_init_254 : decode cX9_init 254 = .ok (.dup, 1) := by decide +kernel
theorem dX9_init_255 : decode cX9_init 255 = .ok (.bipush 23, 2) := by decide +kernel
theorem dX9_init_257 : decode cX9_init 257 = .ok (.bipush 32, 2) := by decide +kernel
theorem dX9_init_259 : decode cX9_init 259 = .ok (.iastore, 1) := by decide +kernel
theorem dX9_init_260 : decode cX9_init 260 = .ok (.dup, 1) := by decide +kernel
theorem dX9_init_261 : decode cX9_init 261 = .ok (.bipush 24, 2) := by decide +kernel
theorem dX9_init_263 : decode cX9_init 263 = .ok (.bipush 119, 2) := by decide +kernel
theorem dX9_init_265 : decode cX9_init 265 = .ok (.iastore, 1) := by decide +kernel
theorem dX9_init_266 : decode cX9_init 266 = .ok (.dup, 1) := by decide +kernel
theorem dX9_init_267 : decode cX9_init 267 = .ok (.bipush 25, 2) := by decide +kernel
theorem dX9_init_269 : decode cX9_init 269 = .ok (.bipush 97, 2) := by decide +kernel
theorem dX9_init_271 : decode cX9_init 271 = .ok (.iastore, 1) := by decide +kernel
theorem dX9_init_272 : decode cX9_init 272 = .ok (.dup, 1) := by decide +kernel
theorem dX9_init_273 : decode cX9_init 273 = .ok (.bipush 26, 2) := by decide +kernel
theorem dX9_init_275 : decode cX9_init 275 = .ok (.bipush 105, 2) := by decide +kernel
theorem dX9_init_277 : decode cX9_init 277 = .ok (.iastore, 1) := by decide +kernel
theorem dX9_init_278 : decode cX9_init 278 = .ok (.dup, 1) := by decide +kernel
theorem dX9_init_279 : decode cX9_init 279 = .ok (.bipush 27, 2) := by decide +kernel
theorem dX9_init_281 : decode cX9_init 281 = .ok (.bipush 116, 2) := by decide +kernel
theorem dX9_init_283 : decode cX9_init 283 = .ok (.iastore, 1) := by decide +kernel
theorem dX9_init_284 : decode cX9_init 284 = .ok (.dup, 1) := by decide +kernel
theorem dX9_init_285 : decode cX9_init 285 = .ok (.bipush 28, 2) := by decide +kernel
theorem dX9_init_287 : decode cX9_init 287 = .ok (.bipush 115, 2) := by decide +kernel
theorem dX9_init_289 : decode cX9_init 289 = .ok (.iastore, 1) := by decide +kernel
theorem dX9_init_290 : decode cX9_init 290 = .ok (.dup, 1) := by decide +kernel
theorem dX9_init_291 : decode cX9_init 291 = .ok (.bipush 29, 2) := by decide +kernel
theorem dX9_init_293 : decode cX9_init 293 = .ok (.bipush 32, 2) := by decide +kernel
theorem dX9_init_295 : decode cX9_init 295 = .ok (.iastore, 1) := by decide +kernel
theorem dX9_init_296 : decode cX9_init 296 = .ok (.dup, 1) := by decide +kernel
theorem dX9_init_297 : decode cX9_init 297 = .ok (.bipush 30, 2) := by decide +kernel
theorem dX9_init_299 : decode cX9_init 299 = .ok (.bipush 111, 2) := by decide +kernel
theorem dX9_init_301 : decode cX9_init 301 = .ok (.iastore, 1) := by decide +kernel
theorem dX9_init_302 : decode cX9_init 302 = .ok (.dup, 1) := by decide +kernel
theorem dX9_init_303 : decode cX9_init 303 = .ok (.bipush 31, 2) := by decide +kernel
theorem dX9_init_305 : decode cX9_init 305 = .ok (.bipush 114, 2) := by decide +kernel
theorem dX9_init_307 : decode cX9_init 307 = .ok (.iastore, 1) := by decide +kernel
theorem dX9_init_308 : decode cX9_init 308 = .ok (.dup, 1) := by decide +kernel
theorem dX9_init_309 : decode cX9_init 309 = .ok (.bipush 32, 2) := by decide +kernel
theorem dX9_init_311 : decode cX9_init 311 = .ok (.bipush 100, 2) := by decide +kernel
theorem dX9_init_313 : decode cX9_init 313 = .ok (.iastore, 1) := by decide +kernel
theorem dX9_init_314 : decode cX9_init 314 = .ok (.dup, 1) := by decide +kernel
theorem dX9_init_315 : decode cX9_init 315 = .ok (.bipush 33, 2) := by decide +kernel
theorem dX9_init_317 : decode cX9_init 317 = .ok (.bipush 101, 2) := by decide +kernel
theorem dX9_init_319 : decode cX9_init 319 = .ok (.iastore, 1) := by decide +kernel
theorem dX9_init_320 : decode cX9_init 320 = .ok (.dup, 1) := by decide +kernel
theorem dX9_init_321 : decode cX9_init 321 = .ok (.bipush 34, 2) := by decide +kernel
theorem dX9_init_323 : decode cX9_init 323 = .ok (.bipush 114, 2) := by decide +kernel
theorem dX9_init_325 : decode cX9_init 325 = .ok (.iastore, 1) := by decide +kernel
theorem dX9_init_326 : decode cX9_init 326 = .ok (.dup, 1) := by decide +kernel
theorem dX9_init_327 : decode cX9_init 327 = .ok (.bipush 35, 2) := by decide +kernel
theorem dX9_init_329 : decode cX9_init 329 = .ok (.bipush 32, 2) := by decide +kernel
theorem dX9_init_331 : decode cX9_init 331 = .ok (.iastore, 1) := by decide +kernel
theorem dX9_init_332 : decode cX9_init 332 = .ok (.dup, 1) := by decide +kernel
theorem dX9_init_333 : decode cX9_init 333 = .ok (.bipush 36, 2) := by decide +kernel
theorem dX9_init_335 : decode cX9_init 335 = .ok (.bipush 59, 2) := by decide +kernel
theorem dX9_init_337 : decode cX9_init 337 = .ok (.iastore, 1) := by decide +kernel
theorem dX9_init_338 : decode cX9_init 338 = .ok (.dup, 1) := by decide +kernel
theorem dX9_init_339 : decode cX9_init 339 = .ok (.bipush 37, 2) := by decide +kernel
theorem dX9_init_341 : decode cX9_init 341 = .ok (.bipush 32, 2) := by decide +kernel
theorem dX9_init_343 : decode cX9_init 343 = .ok (.iastore, 1) := by decide +kernel
theorem dX9_init_344 : decode cX9_init 344 = .ok (.dup, 1) := by decide +kernel
theorem dX9_init_345 : decode cX9_init 345 = .ok (.bipush 38, 2) := by decide +kernel
theorem dX9_init_347 : decode cX9_init 347 = .ok (.bipush 109, 2) := by decide +kernel
theorem dX9_init_349 : decode cX9_init 349 = .ok (.iastore, 1) := by decide +kernel
theorem dX9_init_350 : decode cX9_init 350 = .ok (.dup, 1) := by decide +kernel
theorem dX9_init_351 : decode cX9_init 351 = .ok (.bipush 39, 2) := by decide +kernel
theorem dX9_init_353 : decode cX9_init 353 = .ok (.bipush 111, 2) := by decide +kernel
theorem dX9_init_355 : decode cX9_init 355 = .ok (.iastore, 1) := by decide +kernel
theorem dX9_init_356 : decode cX9_init 356 = .ok (.dup, 1) := by decide +kernel
theorem dX9_init_357 : decode cX9_init 357 = .ok (.bipush 40, 2) := by decide +kernel
theorem dX9_init_359 : decode cX9_init 359 = .ok (.bipush 118, 2) := by decide +kernel
theorem dX9_init_361 : decode cX9_init 361 = .ok (.iastore, 1) := by decide +kernel
theorem dX9_init_362 : decode cX9_init 362 = .ok (.dup, 1) := by decide +kernel
theorem dX9_init_363 : decode cX9_init 363 = .ok (.bipush 41, 2) := by decide +kernel
theorem dX9_init_365 : decode cX9_init 365 = .ok (.bipush 101, 2) := by decide +kernel
theorem dX9_init_367 : decode cX9_init 367 = .ok (.iastore, 1) := by decide +kernel
theorem dX9_init_368 : decode cX9_init 368 = .ok (.dup, 1) := by decide +kernel
theorem dX9_init_369 : decode cX9_init 369 = .ok (.bipush 42, 2) := by decide +kernel
theorem dX9_init_371 : decode cX9_init 371 = .ok (.bipush 115, 2) := by decide +kernel
theorem dX9_init_373 : decode cX9_init 373 = .ok (.iastore, 1) := by decide +kernel
theorem dX9_init_374 : decode cX9_init 374 = .ok (.dup, 1) := by decide +kernel
theorem dX9_init_375 : decode cX9_init 375 = .ok (.bipush 43, 2) := by decide +kernel
theorem dX9_init_377 : decode cX9_init 377 = .ok (.bipush 32, 2) := by decide +kernel
theorem dX9_init_379 : decode cX9_init 379 = .ok (.iastore, 1) := by decide +kernel
theorem dX9_init_380 : decode cX9_init 380 = .ok (.dup, 1) := by decide +kernel
theorem dX9_init_381 : decode cX9_init 381 = .ok (.bipush 44, 2) := by decide +kernel
theorem dX9_init_383 : decode cX9_init 383 = .ok (.bipush 49, 2) := by decide +kernel
theorem dX9_init_385 : decode cX9_init 385 = .ok (.iastore, 1) := by decide +kernel
theorem dX9_init_386 : decode cX9_init 386 = .ok (.dup, 1) := by decide +kernel
theorem dX9_init_387 : decode cX9_init 387 = .ok (.bipush 45, 2) := by decide +kernel
theorem dX9_init_389 : decode cX9_init 389 = .ok (.bipush 32, 2) := by decide +kernel
theorem dX9_init_391 : decode cX9_init 391 = .ok (.iastore, 1) := by decide +kernel
theorem dX9_init_392 : decode cX9_init 392 = .ok (.dup, 1) := by decide +kernel
theorem dX9_init_393 : decode cX9_init 393 = .ok (.bipush 46, 2) := by decide +kernel
theorem dX9_init_395 : decode cX9_init 395 = .ok (.bipush 59, 2) := by decide +kernel
theorem dX9_init_397 : decode cX9_init 397 = .ok (.iastore, 1) := by decide +kernel
theorem dX9_init_398 : decode cX9_init 398 = .ok (.putfield 46, 3) := by decide +kernel
theorem dX9_init_401 : decode cX9_init 401 = .ok (.aload_n 0, 1) := by decide +kernel
theorem dX9_init_402 : decode cX9_init 402 = .ok (.bipush 96, 2) := by decide +kernel
theorem dX9_init_404 : decode cX9_init 404 = .ok (.newarray .int, 2) := by decide +kernel
theorem dX9_init_406 : decode cX9_init 406 = .ok (.dup, 1) := by decide +kernel
theorem dX9_init_407 : decode cX9_init 407 = .ok (.iconst 0, 1) := by decide +kernel
theorem dX9_init_408 : decode cX9_init 408 = .ok (.bipush 119, 2) := by decide +kernel
theorem dX9_init_410 : decode cX9_init 410 = .ok (.iastore, 1) := by decide +kernel
theorem dX9_init_411 : decode cX9_init 411 = .ok (.dup, 1) := by decide +kernel
theorem dX9_init_412 : decode cX9_init 412 = .ok (.iconst 1, 1) := by decide +kernel
theorem dX9_init_413 : decode cX9_init 413 = .ok (.bipush 111, 2) := by decide +kernel
theorem dX9_init_415 : decode cX9_init 415 = .ok (.iastore, 1) := by decide +kernel
theorem dX9_init_416 : decode cX9_init 416 = .ok (.dup, 1) := by decide +kernel
theorem dX9_init_417 : decode cX9_init 417 = .ok (.iconst 2, 1) := by decide +kernel
theorem dX9_init_418 : decode cX9_init 418 = .ok (.bipush 114, 2) := by decide +kernel
theorem dX9_init_420 : decode cX9_init 420 = .ok (.iastore, 1) := by decide +kernel
theorem dX9_init_421 : decode cX9_init 421 = .ok (.dup, 1) := by decide +kernel
theorem dX9_init_422 : decode cX9_init 422 = .ok (.iconst 3, 1) := by decide +kernel
theorem dX9_init_423 : decode cX9_init 423 = .ok (.bipush 116, 2) := by decide +kernel
theorem dX9_init_425 : decode cX9_init 425 = .ok (.iastore, 1) := by decide +kernel
theorem dX9_init_426 : decode cX9_init 426 = .ok (.dup, 1) := by decide +kernel
theorem dX9_init_427 : decode cX9_init 427 = .ok (.iconst 4, 1) := by decide +kernel
theorem dX9_init_428 : decode cX9_init 428 = .ok (.bipush 104, 2) := by decide +kernel
theorem dX9_init_430 : decode cX9_init 430 = .ok (.iastore, 1) := by decide +kernel
theorem dX9_init_431 : decode cX9_init 431 = .ok (.dup, 1) := by decide +kernel
theorem dX9_init_432 : decode cX9_init 432 = .ok (.iconst 5, 1) := by decide +kernel
theorem dX9_init_433 : decode cX9_init 433 = .ok (.bipush 32, 2) := by decide +kernel
theorem dX9_init_435 : decode cX9_init 435 = .ok (.iastore, 1) := by decide +kernel
theorem dX9_init_436 : decode cX9_init 436 = .ok (.dup, 1) := by decide +kernel
theorem dX9_init_437 : decode cX9_init 437 = .ok (.bipush 6, 2) := by decide +kernel
theorem dX9_init_439 : decode cX9_init 439 = .ok (.bipush 32, 2) := by decide +kernel
theorem dX9_init_441 : decode cX9_init 441 = .ok (.iastore, 1) := by decide +kernel
theorem dX9_init_442 : decode cX9_init 442 = .ok (.dup, 1) := by decide +kernel
theorem dX9_init_443 : decode cX9_init 443 = .ok (.bipush 7, 2) := by decide +kernel
theorem dX9_init_445 : decode cX9_init 445 = .ok (.bipush 32, 2) := by decide +kernel
theorem dX9_init_447 : decode cX9_init 447 = .ok (.iastore, 1) := by decide +kernel
theorem dX9_init_448 : decode cX9_init 448 = .ok (.dup, 1) := by decide +kernel
theorem dX9_init_449 : decode cX9_init 449 = .ok (.bipush 8, 2) := by decide +kernel
theorem dX9_init_451 : decode cX9_init 451 = .ok (.bipush 119, 2) := by decide +kernel
theorem dX9_init_453 : decode cX9_init 453 = .ok (.iastore, 1) := by decide +kernel
theorem dX9_init_454 : decode cX9_init 454 = .ok (.dup, 1) := by decide +kernel
theorem dX9_init_455 : decode cX9_init 455 = .ok (.bipush 9, 2) := by decide +kernel
theorem dX9_init_457 : decode cX9_init 457 = .ok (.bipush 97, 2) := by decide +kernel
theorem dX9_init_459 : decode cX9_init 459 = .ok (.iastore, 1) := by decide +kernel
theorem dX9_init_460 : decode cX9_init 460 = .ok (.dup, 1) := by decide +kernel
theorem dX9_init_461 : decode cX9_init 461 = .ok (.bipush 10, 2) := by decide +kernel
theorem dX9_init_463 : decode cX9_init 463 = .ok (.bipush 105, 2) := by decide +kernel
theorem dX9_init_465 : decode cX9_init 465 = .ok (.iastore, 1) := by decide +kernel
theorem dX9_init_466 : decode cX9_init 466 = .ok (.dup, 1) := by decide +kernel
theorem dX9_init_467 : decode cX9_init 467 = .ok (.bipush 11, 2) := by decide +kernel
theorem dX9_init_469 : decode cX9_init 469 = .ok (.bipush 116, 2) := by decide +kernel
theorem dX9_init_471 : decode cX9_init 471 = .ok (.iastore, 1) := by decide +kernel
theorem dX9_init_472 : decode cX9_init 472 = .ok (.dup, 1) := by decide +kernel
theorem dX9_init_473 : decode cX9_init 473 = .ok (.bipush 12, 2) := by decide +kernel
theorem dX9_init_475 : decode cX9_init 475 = .ok (.bipush 115, 2) := by decide +kernel
theorem dX9_init_477 : decode cX9_init 477 = .ok (.iastore, 1) := by decide +kernel
theorem dX9_init_478 : decode cX9_init 478 = .ok (.dup, 1) := by decide +kernel
theorem dX9_init_479 : decode cX9_init 479 = .ok (.bipush 13, 2) := by decide +kernel
theorem dX9_init_481 : decode cX9_init 481 = .ok (.bipush 32, 2) := by decide +kernel
theorem dX9_init_483 : decode cX9_init 483 = .ok (.iastore, 1) := by decide +kernel
theorem dX9_init_484 : decode cX9_init 484 = .ok (.dup, 1) := by decide +kernel
theorem dX9_init_485 : decode cX9_init 485 = .ok (.bipush 14, 2) := by decide +kernel
theorem dX9_init_487 : decode cX9_init 487 = .ok (.bipush 32, 2) := by decide +kernel
theorem dX9_init_489 : decode cX9_init 489 = .ok (.iastore, 1) := by decide +kernel
theorem dX9_init_490 : decode cX9_init 490 = .ok (.dup, 1) := by decide +kernel
theorem dX9_init_491 : decode cX9_init 491 = .ok (.bipush 15, 2) := by decide +kernel
theorem dX9_init_493 : decode cX9_init 493 = .ok (.bipush 32, 2) := by decide +kernel
theorem dX9_init_495 : decode cX9_init 495 = .ok (.iastore, 1) := by decide +kernel
theorem dX9_init_496 : decode cX9_init 496 = .ok (.dup, 1) := by decide +kernel
theorem dX9_init_497 : decode cX9_init 497 = .ok (.bipush 16, 2) := by decide +kernel
theorem dX9_init_499 : decode cX9_init 499 = .ok (.bipush 109, 2) := by decide +kernel
theorem dX9_init_501 : decode cX9_init 501 = .ok (.iastore, 1) := by decide +kernel
theorem dX9_init_502 : decode cX9_init 502 = .ok (.dup, 1) := by decide +kernel
theorem dX9_init_503 : decode cX9_init 503 = .ok (.bipush 17, 2) := by decide +kernel
theorem dX9_init_505 : decode cX9_init 505 = .ok (.bipush 111, 2) := by decide +kernel
theorem dX9_init_507 : decode cX9_init 507 = .ok (.iastore, 1) := by decide +kernel
theorem dX9_init_508 : decode cX9_init 508 = .ok (.dup, 1) := by decide +kernel
theorem dX9_init_509 : decode cX9_init 509 = .ok (.bipush 18, 2) := by decide +kernel
theorem dX9_init_511 : decode cX9_init 511 = .ok (.bipush 118, 2) := by decide +kernel
theorem dX9_init_513 : decode cX9_init 513 = .ok (.iastore, 1) := by decide +kernel
theorem dX9_init_514 : decode cX9_init 514 = .ok (.dup, 1) := by decide +kernel
theorem dX9_init_515 : decode cX9_init 515 = .ok (.bipush 19, 2) := by decide +kernel
theorem dX9_init_517 : decode cX9_init 517 = .ok (.bipush 101, 2) := by decide +kernel
theorem dX9_init_519 : decode cX9_init 519 = .ok (.iastore, 1) := by decide +kernel
theorem dX9_init_520 : decode cX9_init 520 = .ok (.dup, 1) := by decide +kernel
theorem dX9_init_521 : decode cX9_init 521 = .ok (.bipush 20, 2) := by decide +kernel
theorem dX9_init_523 : decode cX9_init 523 = .ok (.bipush 115, 2) := by decide +kernel
theorem dX9_init_525 : decode cX9_init 525 = .ok (.iastore, 1) := by decide +kernel
theorem dX9_init_526 : decode cX9_init 526 = .ok (.dup, 1) := by decide +kernel
theorem dX9_init_527 : decode cX9_init 527 = .ok (.bipush 21, 2) := by decide +kernel
theorem dX9_init_529 : decode cX9_init 529 = .ok (.bipush 32, 2) := by decide +kernel
theorem dX9_init_531 : decode cX9_init 531 = .ok (.iastore, 1) := by decide +kernel
theorem dX9_init_532 : decode cX9_init 532 = .ok (.dup, 1) := by decide +kernel
theorem dX9_init_533 : decode cX9_init 533 = .ok (.bipush 22, 2) := by decide +kernel
theorem dX9_init_535 : decode cX9_init 535 = .ok (.bipush 32, 2) := by decide +kernel
theorem dX9_init_537 : decode cX9_init 537 = .ok (.iastore, 1) := by decide +kernel
theorem dX9_init_538 : decode cX9_init 538 = .ok (.dup, 1) := by decide +kernel
theorem dX9_init_539 : decode cX9_init 539 = .ok (.bipush 23, 2) := by decide +kernel
theorem dX9_init_541 : decode cX9_init 541 = .ok (.bipush 32, 2) := by decide +kernel
theorem dX9_init_543 : decode cX9_init 543 = .ok (.iastore, 1) := by decide +kernel
theorem dX9_init_544 : decode cX9_init 544 = .ok (.dup, 1) := by decide +kernel
theorem dX9_init_545 : decode cX9_init 545 = .ok (.bipush 24, 2) := by decide +kernel
theorem dX9_init_547 : decode cX9_init 547 = .ok (.bipush 99, 2) := by decide +kernel
theorem dX9_init_549 : decode cX9_init 549 = .ok (.iastore, 1) := by decide +kernel
theorem dX9_init_550 : decode cX9_init 550 = .ok (.dup, 1) := by decide +kernel
theorem dX9_init_551 : decode cX9_init 551 = .ok (.bipush 25, 2) := by decide +kernel
theorem dX9_init_553 : decode cX9_init 553 = .ok (.bipush 111, 2) := by decide +kernel
theorem dX9_init_555 : decode cX9_init 555 = .ok (.iastore, 1) := by decide +kernel
theorem dX9_init_556 : decode cX9_init 556 = .ok (.dup, 1) := by decide +kernel
theorem dX9_init_557 : decode cX9_init 557 = .ok (.bipush 26, 2) := by decide +kernel
theorem dX9_init_559 : decode cX9_init 559 = .ok (.bipush 108, 2) := by decide +kernel
theorem dX9_init_561 : decode cX9_init 561 = .ok (.iastore, 1) := by decide +kernel
theorem dX9_init_562 : decode cX9_init 562 = .ok (.dup, 1) := by decide +kernel
theorem dX9_init_563 : decode cX9_init 563 = .ok (.bipush 27, 2) := by decide +kernel
theorem dX9_init_565 : decode cX9_init 565 = .ok (.bipush 111, 2) := by decide +kernel
theorem dX9_init_567 : decode cX9_init 567 = .ok (.iastore, 1) := by decide +kernel
theorem dX9_init_568 : decode cX9_init 568 = .ok (.dup, 1) := by decide +kernel
theorem dX9_init_569 : decode cX9_init 569 = .ok (.bipush 28, 2) := by decide +kernel
theorem dX9_init_571 : decode cX9_init 571 = .ok (.bipush 117, 2) := by decide +kernel
theorem dX9_init_573 : decode cX9_init 573 = .ok (.iastore, 1) := by decide +kernel
theorem dX9_init_574 : decode cX9_init 574 = .ok (.dup, 1) := by decide +kernel
theorem dX9_init_575 : decode cX9_init 575 = .ok (.bipush 29, 2) := by decide +kernel
theorem dX9_init_577 : decode cX9_init 577 = .ok (.bipush 114, 2) := by decide +kernel
theorem dX9_init_579 : decode cX9_init 579 = .ok (.iastore, 1) := by decide +kernel
theorem dX9_init_580 : decode cX9_init 580 = .ok (.dup, 1) := by decide +kernel
theorem dX9_init_581 : decode cX9_init 581 = .ok (.bipush 30, 2) := by decide +kernel
theorem dX9_init_583 : decode cX9_init 583 = .ok (.bipush 32, 2) := by decide +kernel
theorem dX9_init_585 : decode cX9_init 585 = .ok (.iastore, 1) := by decide +kernel
theorem dX9_init_586 : decode cX9_init 586 = .ok (.dup, 1) := by decide +kernel
theorem dX9_init_587 : decode cX9_init 587 = .ok (.bipush 31, 2) := by decide +kernel
theorem dX9_init_589 : decode cX9_init 589 = .ok (.bipush 32, 2) := by decide +kernel
theorem dX9_init_591 : decode cX9_init 591 = .ok (.iastore, 1) := by decide +kernel
theorem dX9_init_592 : decode cX9_init 592 = .ok (.dup, 1) := by decide +kernel
theorem dX9_init_593 : decode cX9_init 593 = .ok (.bipush 32, 2) := by decide +kernel
theorem dX9_init_595 : decode cX9_init 595 = .ok (.bipush 108, 2) := by decide +kernel
theorem dX9_init_597 : decode cX9_init 597 = .ok (.iastore, 1) := by decide +kernel
theorem dX9_init_598 : decode cX9_init 598 = .ok (.dup, 1) := by decide +kernel
theorem dX9_init_599 : decode cX9_init 599 = .ok (.bipush 33, 2) := by decide +kernel
theorem dX9_init_601 : decode cX9_init 601 = .ok (.bipush 111, 2) := by decide +kernel
theorem dX9_init_603 : decode cX9_init 603 = .ok (.iastore, 1) := by decide +kernel
theorem dX9_init_604 : decode cX9_init 604 = .ok (.dup, 1) := by decide +kernel
theorem dX9_init_605 : decode cX9_init 605 = .ok (.bipush 34, 2) := by decide +kernel
theorem dX9_init_607 : decode cX9_init 607 = .ok (.bipush 116, 2) := by decide +kernel
theorem dX9_init_609 : decode cX9_init 609 = .ok (.iastore, 1) := by decide +kernel
theorem dX9_init_610 : decode cX9_init 610 = .ok (.dup, 1) := by decide +kernel
theorem dX9_init_611 : decode cX9_init 611 = .ok (.bipush 35, 2) := by decide +kernel
theorem dX9_init_613 : decode cX9_init 613 = .ok (.bipush 32, 2) := by decide +kernel
theorem dX9_init_615 : decode cX9_init 615 = .ok (.iastore, 1) := by decide +kernel
theorem dX9_init_616 : decode cX9_init 616 = .ok (.dup, 1) := by decide +kernel
theorem dX9_init_617 : decode cX9_init 617 = .ok (.bipush 36, 2) := by decide +kernel
theorem dX9_init_619 : decode cX9_init 619 = .ok (.bipush 32, 2) := by decide +kernel
theorem dX9_init_621 : decode cX9_init 621 = .ok (.iastore, 1) := by decide +kernel
theorem dX9_init_622 : decode cX9_init 622 = .ok (.dup, 1) := by decide +kernel
theorem dX9_init_623 : decode cX9_init 623 = .ok (.bipush 37, 2) := by decide +kernel
theorem dX9_init_625 : decode cX9_init 625 = .ok (.bipush 32, 2) := by decide +kernel
theorem dX9_init_627 : decode cX9_init 627 = .ok (.iastore, 1) := by decide +kernel
theorem dX9_init_628 : decode cX9_init 628 = .ok (.dup, 1) := by decide +kernel
theorem dX9_init_629 : decode cX9_init 629 = .ok (.bipush 38, 2) := by decide +kernel
theorem dX9_init_631 : decode cX9_init 631 = .ok (.bipush 32, 2) := by decide +kernel
theorem dX9_init_633 : decode cX9_init 633 = .ok (.iastore, 1) := by decide +kernel
theorem dX9_init_634 : decode cX9_init 634 = .ok (.dup, 1) := by decide +kernel
theorem dX9_init_635 : decode cX9_init 635 = .ok (.bipush 39, 2) := by decide +kernel
theorem dX9_init_637 : decode cX9_init 637 = .ok (.bipush 32, 2) := by decide +kernel
theorem dX9_init_639 : decode cX9_init 639 = .ok (.iastore, 1) := by decide +kernel
theorem dX9_init_640 : decode cX9_init 640 = .ok (.dup, 1) := by decide +kernel
theorem dX9_init_641 : decode cX9_init 641 = .ok (.bipush 40, 2) := by decide +kernel
theorem dX9_init_643 : decode cX9_init 643 = .ok (.bipush 98, 2) := by decide +kernel
theorem dX9_init_645 : decode cX9_init 645 = .ok (.iastore, 1) := by decide +kernel
theorem dX9_init_646 : decode cX9_init 646 = .ok (.dup, 1) := by decide +kernel
theorem dX9_init_647 : decode cX9_init 647 = .ok (.bipush 41, 2) := by decide +kernel
theorem dX9_init_649 : decode cX9_init 649 = .ok (.bipush 101, 2) := by decide +kernel
theorem dX9_init_651 : decode cX9_init 651 = .ok (.iastore, 1) := by decide +kernel
theorem dX9_init_652 : decode cX9_init 652 = .ok (.dup, 1) := by decide +kernel
theorem dX9_init_653 : decode cX9_init 653 = .ok (.bipush 42, 2) := by decide +kernel
theorem dX9_init_655 : decode cX9_init 655 = .ok (.bipush 115, 2) := by decide +kernel
theorem dX9_init_657 : decode cX9_init 657 = .ok (.iastore, 1) := by decide +kernel
theorem dX9_init_658 : decode cX9_init 658 = .ok (.dup, 1) := by decide +kernel
theorem dX9_init_659 : decode cX9_init 659 = .ok (.bipush 43, 2) := by decide +kernel
theorem dX9_init_661 : decode cX9_init 661 = .ok (.bipush 105, 2) := by decide +kernel
theorem dX9_init_663 : decode cX9_init 663 = .ok (.iastore, 1) := by decide +kernel
theorem dX9_init_664 : decode cX9_init 664 = .ok (.dup, 1) := by decide +kernel
theorem dX9_init_665 : decode cX9_init 665 = .ok (.bipush 44, 2) := by decide +kernel
theorem dX9_init_667 : decode cX9_init 667 = .ok (.bipush 100, 2) := by decide +kernel
theorem dX9_init_669 : decode cX9_init 669 = .ok (.iastore, 1) := by decide +kernel
theorem dX9_init_670 : decode cX9_init 670 = .ok (.dup, 1) := by decide +kernel
theorem dX9_init_671 : decode cX9_init 671 = .ok (.bipush 45, 2) := by decide +kernel
theorem dX9_init_673 : decode cX9_init 673 = .ok (.bipush 101, 2) := by decide +kernel
theorem dX9_init_675 : decode cX9_init 675 = .ok (.iastore, 1) := by decide +kernel
theorem dX9_init_676 : decode cX9_init 676 = .ok (.dup, 1) := by decide +kernel
theorem dX9_init_677 : decode cX9_init 677 = .ok (.bipush 46, 2) := by decide +kernel
theorem dX9_init_679 : decode cX9_init 679 = .ok (.bipush 32, 2) := by decide +kernel
theorem dX9_init_681 : decode cX9_init 681 = .ok (.iastore, 1) := by decide +kernel
theorem dX9_init_682 : decode cX9_init 682 = .ok (.dup, 1) := by decide +kernel
theorem dX9_init_683 : decode cX9_init 683 = .ok (.bipush 47, 2) := by decide +kernel
theorem dX9_init_685 : decode cX9_init 685 = .ok (.bipush 32, 2) := by decide +kernel
theorem dX9_init_687 : decode cX9_init 687 = .ok (.iastore, 1) := by decide +kernel
theorem dX9_init_688 : decode cX9_init 688 = .ok (.dup, 1) := by decide +kernel
theorem dX9_init_689 : decode cX9_init 689 = .ok (.bipush 48, 2) := by decide +kernel
theorem dX9_init_691 : decode cX9_init 691 = .ok (.bipush 111, 2) := by decide +kernel
theorem dX9_init_693 : decode cX9_init 693 = .ok (.iastore, 1) := by decide +kernel
theorem dX9_init_694 : decode cX9_init 694 = .ok (.dup, 1) := by decide +kernel
theorem dX9_init_695 : decode cX9_init 695 = .ok (.bipush 49, 2) := by decide +kernel
theorem dX9_init_697 : decode cX9_init 697 = .ok (.bipush 114, 2) := by decide +kernel
theorem dX9_init_699 : decode cX9_init 699 = .ok (.iastore, 1) := by decide +kernel
theorem dX9_init_700 : decode cX9_init 700 = .ok (.dup, 1) := by decide +kernel
theorem dX9_init_701 : decode cX9_init 701 = .ok (.bipush 50, 2) := by decide +kernel
theorem dX9_init_703 : decode cX9_init 703 = .ok (.bipush 100, 2) := by decide +kernel
theorem dX9_init_705 : decode cX9_init 705 = .ok (.iastore, 1) := by decide +kernel
theorem dX9_init_706 : decode cX9_init 706 = .ok (.dup, 1) := by decide +kernel
theorem dX9_init_707 : decode cX9_init 707 = .ok (.bipush 51, 2) := by decide +kernel
theorem dX9_init_709 : decode cX9_init 709 = .ok (.bipush 101, 2) := by decide +kernel
theorem dX9_init_711 : decode cX9_init 711 = .ok (.iastore, 1) := by decide +kernel
theorem dX9_init_712 : decode cX9_init 712 = .ok (.dup, 1) := by decide +kernel
theorem dX9_init_713 : decode cX9_init 713 = .ok (.bipush 52, 2) := by decide +kernel
theorem dX9_init_715 : decode cX9_init 715 = .ok (.bipush 114, 2) := by decide +kernel
theorem dX9_init_717 : decode cX9_init 717 = .ok (.iastore, 1) := by decide +kernel
theorem dX9_init_718 : decode cX9_init 718 = .ok (.dup, 1) := by decide +kernel
theorem dX9_init_719 : decode cX9_init 719 = .ok (.bipush 53, 2) := by decide +kernel
theorem dX9_init_721 : decode cX9_init 721 = .ok (.bipush 32, 2) := by decide +kernel
theorem dX9_init_723 : decode cX9_init 723 = .ok (.iastore, 1) := by decide +kernel
theorem dX9_init_724 : decode cX9_init 724 = .ok (.dup, 1) := by decide +kernel
theorem dX9_init_725 : decode cX9_init 725 = .ok (.bipush 54, 2) := by decide +kernel
theorem dX9_init_727 : decode cX9_init 727 = .ok (.bipush 32, 2) := by decide +kernel
theorem dX9_init_729 : decode cX9_init 729 = .ok (.iastore, 1) := by decide +kernel
theorem dX9_init_730 : decode cX9_init 730 = .ok (.dup, 1) := by decide +kernel
theorem dX9_init_731 : decode cX9_init 731 = .ok (.bipush 55, 2) := by decide +kernel
theorem dX9_init_733 : decode cX9_init 733 = .ok (.bipush 32, 2) := by decide +kernel
theorem dX9_init_735 : decode cX9_init 735 = .ok (.iastore, 1) := by decide +kernel
theorem dX9_init_736 : decode cX9_init 736 = .ok (.dup, 1) := by decide +kernel
theorem dX9_init_737 : decode cX9_init 737 = .ok (.bipush 56, 2) := by decide +kernel
theorem dX9_init_739 : decode cX9_init 739 = .ok (.bipush 109, 2) := by decide +kernel
theorem dX9_init_741 : decode cX9_init 741 = .ok (.iastore, 1) := by decide +kernel
theorem dX9_init_742 : decode cX9_init 742 = .ok (.dup, 1) := by decide +kernel
theorem dX9_init_743 : decode cX9_init 743 = .ok (.bipush 57, 2) := by decide +kernel
theorem dX9_init_745 : decode cX9_init 745 = .ok (.bipush 111, 2) := by decide +kernel
theorem dX9_init_747 : decode cX9_init 747 = .ok (.iastore, 1) := by decide +kernel
theorem dX9_init_748 : decode cX9_init 748 = .ok (.dup, 1) := by decide +kernel
theorem dX9_init_749 : decode cX9_init 749 = .ok (.bipush 58, 2) := by decide +kernel
theorem dX9_init_751 : decode cX9_init 751 = .ok (.bipush 114, 2) := by decide +kernel
theorem dX9_init_753 : decode cX9_init 753 = .ok (.iastore, 1) := by decide +kernel
theorem dX9_init_754 : decode cX9_init 754 = .ok (.dup, 1) := by decide +kernel
theorem dX9_init_755 : decode cX9_init 755 = .ok (.bipush 59, 2) := by decide +kernel
theorem dX9_init_757 : decode cX9_init 757 = .ok (.bipush 101, 2) := by decide +kernel
theorem dX9_init_759 : decode cX9_init 759 = .ok (.iastore, 1) := by decide +kernel
theorem dX9_init_760 : decode cX9_init 760 = .ok (.dup, 1) := by decide +kernel
theorem dX9_init_761 : decode cX9_init 761 = .ok (.bipush 60, 2) := by decide +kernel
theorem dX9_init_763 : decode cX9_init 763 = .ok (.bipush 32, 2) := by decide +kernel
theorem dX9_init_765 : decode cX9_init 765 = .ok (.iastore, 1) := by decide +kernel
theorem dX9_init_766 : decode cX9_init 766 = .ok (.dup, 1) := by decide +kernel
theorem dX9_init_767 : decode cX9_init 767 = .ok (.bipush 61, 2) := by decide +kernel
theorem dX9_init_769 : decode cX9_init 769 = .ok (.bipush 32, 2) := by decide +kernel
theorem dX9_init_771 : decode cX9_init 771 = .ok (.iastore, 1) := by decide +kernel
theorem dX9_init_772 : decode cX9_init 772 = .ok (.dup, 1) := by decide +kernel
theorem dX9_init_773 : decode cX9_init 773 = .ok (.bipush 62, 2) := by decide +kernel
theorem dX9_init_775 : decode cX9_init 775 = .ok (.bipush 32, 2) := by decide +kernel
theorem dX9_init_777 : decode cX9_init 777 = .ok (.iastore, 1) := by decide +kernel
theorem dX9_init_778 : decode cX9_init 778 = .ok (.dup, 1) := by decide +kernel
theorem dX9_init_779 : decode cX9_init 779 = .ok (.bipush 63, 2) := by decide +kernel
theorem dX9_init_781 : decode cX9_init 781 = .ok (.bipush 32, 2) := by decide +kernel
theorem dX9_init_783 : decode cX9_init 783 = .ok (.iastore, 1) := by decide +kernel
theorem dX9_init_784 : decode cX9_init 784 = .ok (.dup, 1) := by decide +kernel
theorem dX9_init_785 : decode cX9_init 785 = .ok (.bipush 64, 2) := by decide +kernel
theorem dX9_init_787 : decode cX9_init 787 = .ok (.bipush 108, 2) := by decide +kernel
theorem dX9_init_789 : decode cX9_init 789 = .ok (.iastore, 1) := by decide +kernel
theorem dX9_init_790 : decode cX9_init 790 = .ok (.dup, 1) := by decide +kernel
theorem dX9_init_791 : decode cX9_init 791 = .ok (.bipush 65, 2) := by decide +kernel
theorem dX9_init_793 : decode cX9_init 793 = .ok (.bipush 111, 2) := by decide +kernel
theorem dX9_init_795 : decode cX9_init 795 = .ok (.iastore, 1) := by decide +kernel
theorem dX9_init_796 : decode cX9_init 796 = .ok (.dup, 1) := by decide +kernel
theorem dX9_init_797 : decode cX9_init 797 = .ok (.bipush 66, 2) := by decide +kernel
theorem dX9_init_799 : decode cX9_init 799 = .ok (.bipush 116, 2) := by decide +kernel
theorem dX9_init_801 : decode cX9_init 801 = .ok (.iastore, 1) := by decide +kernel
theorem dX9_init_802 : decode cX9_init 802 = .ok (.dup, 1) := by decide +kernel
theorem dX9_init_803 : decode cX9_init 803 = .ok (.bipush 67, 2) := by decide +kernel
theorem dX9_init_805 : decode cX9_init 805 = .ok (.bipush 115, 2) := by decide +kernel
theorem dX9_init_807 : decode cX9_init 807 = .ok (.iastore, 1) := by decide +kernel
theorem dX9_init_808 : decode cX9_init 808 = .ok (.dup, 1) := by decide +kernel
theorem dX9_init_809 : decode cX9_init 809 = .ok (.bipush 68, 2) := by decide +kernel
theorem dX9_init_811 : decode cX9_init 811 = .ok (.bipush 32, 2) := by decide +kernel
theorem dX9_init_813 : decode cX9_init 813 = .ok (.iastore, 1) := by decide +kernel
theorem dX9_init_814 : decode cX9_init 814 = .ok (.dup, 1) := by decide +kernel
theorem dX9_init_815 : decode cX9_init 815 = .ok (.bipush 69, 2) := by decide +kernel
theorem dX9_init_817 : decode cX9_init 817 = .ok (.bipush 32, 2) := by decide +kernel
theorem dX9_init_819 : decode cX9_init 819 = .ok (.iastore, 1) := by decide +kernel
theorem dX9_init_820 : decode cX9_init 820 = .ok (.dup, 1) := by decide +kernel
theorem dX9_init_821 : decode cX9_init 821 = .ok (.bipush 70, 2) := by decide +kernel
theorem dX9_init_823 : decode cX9_init 823 = .ok (.bipush 32, 2) := by decide +kernel
theorem dX9_init_825 : decode cX9_init 825 = .ok (.iastore, 1) := by decide +kernel
theorem dX9_init_826 : decode cX9_init 826 = .ok (.dup, 1) := by decide +kernel
theorem dX9_init_827 : decode cX9_init 827 = .ok (.bipush 71, 2) := by decide +kernel
theorem dX9_init_829 : decode cX9_init 829 = .ok (.bipush 32, 2) := by decide +kernel
theorem dX9_init_831 : decode cX9_init 831 = .ok (.iastore, 1) := by decide +kernel
theorem dX9_init_832 : decode cX9_init 832 = .ok (.dup, 1) := by decide +kernel
theorem dX9_init_833 : decode cX9_init 833 = .ok (.bipush 72, 2) := by decide +kernel
theorem dX9_init_835 : decode cX9_init 835 = .ok (.bipush 111, 2) := by decide +kernel
theorem dX9_init_837 : decode cX9_init 837 = .ok (.iastore, 1) := by decide +kernel
theorem dX9_init_838 : decode cX9_init 838 = .ok (.dup, 1) := by decide +kernel
theorem dX9_init_839 : decode cX9_init 839 = .ok (.bipush 73, 2) := by decide +kernel
theorem dX9_init_841 : decode cX9_init 841 = .ok (.bipush 114, 2) := by decide +kernel
theorem dX9_init_843 : decode cX9_init 843 = .ok (.iastore, 1) := by decide +kernel
theorem dX9_init_844 : decode cX9_init 844 = .ok (.dup, 1) := by decide +kernel
theorem dX9_init_845 : decode cX9_init 845 = .ok (.bipush 74, 2) := by decide +kernel
theorem dX9_init_847 : decode cX9_init 847 = .ok (.bipush 32, 2) := by decide +kernel
theorem dX9_init_849 : decode cX9_init 849 = .ok (.iastore, 1) := by decide +kernel
theorem dX9_init_850 : decode cX9_init 850 = .ok (.dup, 1) := by decide +kernel
theorem dX9_init_851 : decode cX9_init 851 = .ok (.bipush 75, 2) := by decide +kernel
theorem dX9_init_853 : decode cX9_init 853 = .ok (.bipush 32, 2) := by decide +kernel
theorem dX9_init_855 : decode cX9_init 855 = .ok (.iastore, 1) := by decide +kernel
theorem dX9_init_856 : decode cX9_init 856 = .ok (.dup, 1) := by decide +kernel
theorem dX9_init_857 : decode cX9_init 857 = .ok (.bipush 76, 2) := by decide +kernel
theorem dX9_init_859 : decode cX9_init 859 = .ok (.bipush 32, 2) := by decide +kernel
theorem dX9_init_861 : decode cX9_init 861 = .ok (.iastore, 1) := by decide +kernel
theorem dX9_init_862 : decode cX9_init 862 = .ok (.dup, 1) := by decide +kernel
theorem dX9_init_863 : decode cX9_init 863 = .ok (.bipush 77, 2) := by decide +kernel
theorem dX9_init_865 : decode cX9_init 865 = .ok (.bipush 32, 2) := by decide +kernel
theorem dX9_init_867 : decode cX9_init 867 = .ok (.iastore, 1) := by decide +kernel
theorem dX9_init_868 : decode cX9_init 868 = .ok (.dup, 1) := by decide +kernel
theorem dX9_init_869 : decode cX9_init 869 = .ok (.bipush 78, 2) := by decide +kernel
theorem dX9_init_871 : decode cX9_init 871 = .ok (.bipush 32, 2) := by decide +kernel
theorem dX9_init_873 : decode cX9_init 873 = .ok (.iastore, 1) := by decide +kernel
theorem dX9_init_874 : decode cX9_init 874 = .ok (.dup, 1) := by decide +kernel
theorem dX9_init_875 : decode cX9_init 875 = .ok (.bipush 79, 2) := by decide +kernel
theorem dX9_init_877 : decode cX9_init 877 = .ok (.bipush 32, 2) := by decide +kernel
theorem dX9_init_879 : decode cX9_init 879 = .ok (.iastore, 1) := by decide +kernel
theorem dX9_init_880 : decode cX9_init 880 = .ok (.dup, 1) := by decide +kernel
theorem dX9_init_881 : decode cX9_init 881 = .ok (.bipush 80, 2) := by decide +kernel
theorem dX9_init_883 : decode cX9_init 883 = .ok (.bipush 97, 2) := by decide +kernel
theorem dX9_init_885 : decode cX9_init 885 = .ok (.iastore, 1) := by decide +kernel
theorem dX9_init_886 : decode cX9_init 886 = .ok (.dup, 1) := by decide +kernel
theorem dX9_init_887 : decode cX9_init 887 = .ok (.bipush 81, 2) := by decide +kernel
theorem dX9_init_889 : decode cX9_init 889 = .ok (.bipush 110, 2) := by decide +kernel
theorem dX9_init_891 : decode cX9_init 891 = .ok (.iastore, 1) := by decide +kernel
theorem dX9_init_892 : decode cX9_init 892 = .ok (.dup, 1) := by decide +kernel
theorem dX9_init_893 : decode cX9_init 893 = .ok (.bipush 82, 2) := by decide +kernel
theorem dX9_init_895 : decode cX9_init 895 = .ok (.bipush 100, 2) := by decide +kernel
theorem dX9_init_897 : decode cX9_init 897 = .ok (.iastore, 1) := by decide +kernel
theorem dX9_init_898 : decode cX9_init 898 = .ok (.dup, 1) := by decide +kernel
theorem dX9_init_899 : decode cX9_init 899 = .ok (.bipush 83, 2) := by decide +kernel
theorem dX9_init_901 : decode cX9_init 901 = .ok (.bipush 32, 2) := by decide +kernel
theorem dX9_init_903 : decode cX9_init 903 = .ok (.iastore, 1) := by decide +kernel
theorem dX9_init_904 : decode cX9_init 904 = .ok (.dup, 1) := by decide +kernel
theorem dX9_init_905 : decode cX9_init 905 = .ok (.bipush 84, 2) := by decide +kernel
theorem dX9_init_907 : decode cX9_init 907 = .ok (.bipush 32, 2) := by decide +kernel
theorem dX9_init_909 : decode cX9_init 909 = .ok (.iastore, 1) := by decide +kernel
theorem dX9_init_910 : decode cX9_init 910 = .ok (.dup, 1) := by decide +kernel
theorem dX9_init_911 : decode cX9_init 911 = .ok (.bipush 85, 2) := by decide +kernel
theorem dX9_init_913 : decode cX9_init 913 = .ok (.bipush 32, 2) := by decide +kernel
theorem dX9_init_915 : decode cX9_init 915 = .ok (.iastore, 1) := by decide +kernel
theorem dX9_init_916 : decode cX9_init 916 = .ok (.dup, 1) := by decide +kernel
theorem dX9_init_917 : decode cX9_init 917 = .ok (.bipush 86, 2) := by decide +kernel
theorem dX9_init_919 : decode cX9_init 919 = .ok (.bipush 32, 2) := by decide +kernel
theorem dX9_init_921 : decode cX9_init 921 = .ok (.iastore, 1) := by decide +kernel
theorem dX9_init_922 : decode cX9_init 922 = .ok (.dup, 1) := by decide +kernel
theorem dX9_init_923 : decode cX9_init 923 = .ok (.bipush 87, 2) := by decide +kernel
theorem dX9_init_925 : decode cX9_init 925 = .ok (.bipush 32, 2) := by decide +kernel
theorem dX9_init_927 : decode cX9_init 927 = .ok (.iastore, 1) := by decide +kernel
theorem dX9_init_928 : decode cX9_init 928 = .ok (.dup, 1) := by decide +kernel
theorem dX9_init_929 : decode cX9_init 929 = .ok (.bipush 88, 2) := by decide +kernel
theorem dX9_init_931 : decode cX9_init 931 = .ok (.bipush 110, 2) := by decide +kernel
theorem dX9_init_933 : decode cX9_init 933 = .ok (.iastore, 1) := by decide +kernel
theorem dX9_init_934 : decode cX9_init 934 = .ok (.dup, 1) := by decide +kernel
theorem dX9_init_935 : decode cX9_init 935 = .ok (.bipush 89, 2) := by decide +kernel
theorem dX9_init_937 : decode cX9_init 937 = .ok (.bipush 111, 2) := by decide +kernel
theorem dX9_init_939 : decode cX9_init 939 = .ok (.iastore, 1) := by decide +kernel
theorem dX9_init_940 : decode cX9_init 940 = .ok (.dup, 1) := by decide +kernel
theorem dX9_init_941 : decode cX9_init 941 = .ok (.bipush 90, 2) := by decide +kernel
theorem dX9_init_943 : decode cX9_init 943 = .ok (.bipush 116, 2) := by decide +kernel
theorem dX9_init_945 : decode cX9_init 945 = .ok (.iastore, 1) := by decide +kernel
theorem dX9_init_946 : decode cX9_init 946 = .ok (.dup, 1) := by decide +kernel
theorem dX9_init_947 : decode cX9_init 947 = .ok (.bipush 91, 2) := by decide +kernel
theorem dX9_init_949 : decode cX9_init 949 = .ok (.bipush 32, 2) := by decide +kernel
theorem dX9_init_951 : decode cX9_init 951 = .ok (.iastore, 1) := by decide +kernel
theorem dX9_init_952 : decode cX9_init 952 = .ok (.dup, 1) := by decide +kernel
theorem dX9_init_953 : decode cX9_init 953 = .ok (.bipush 92, 2) := by decide +kernel
theorem dX9_init_955 : decode cX9_init 955 = .ok (.bipush 32, 2) := by decide +kernel
theorem dX9_init_957 : decode cX9_init 957 = .ok (.iastore, 1) := by decide +kernel
theorem dX9_init_958 : decode cX9_init 958 = .ok (.dup, 1) := by decide +kernel
theorem dX9_init_959 : decode cX9_init 959 = .ok (.bipush 93, 2) := by decide +kernel
theorem dX9_init_961 : decode cX9_init 961 = .ok (.bipush 32, 2) := by decide +kernel
theorem dX9_init_963 : decode cX9_init 963 = .ok (.iastore, 1) := by decide +kernel
theorem dX9_init_964 : decode cX9_init 964 = .ok (.dup, 1) := by decide +kernel
theorem dX9_init_965 : decode cX9_init 965 = .ok (.bipush 94, 2) := by decide +kernel
theorem dX9_init_967 : decode cX9_init 967 = .ok (.bipush 32, 2) := by decide +kernel
theorem dX9_init_969 : decode cX9_init 969 = .ok (.iastore, 1) := by decide +kernel
theorem dX9_init_970 : decode cX9_init 970 = .ok (.dup, 1) := by decide +kernel
theorem dX9_init_971 : decode cX9_init 971 = .ok (.bipush 95, 2) := by decide +kernel
theorem dX9_init_973 : decode cX9_init 973 = .ok (.bipush 32, 2) := by decide +kernel
theorem dX9_init_975 : decode cX9_init 975 = .ok (.iastore, 1) := by decide +kernel
theorem dX9_init_976 : decode cX9_init 976 = .ok (.putfield 49, 3) := by decide +kernel
theorem dX9_init_979 : decode cX9_init 979 = .ok (.aload_n 0, 1) := by decide +kernel
theorem dX9_init_980 : decode cX9_init 980 = .ok (.sipush 200, 3) := by decide +kernel
theorem dX9_init_983 : decode cX9_init 983 = .ok (.newarray .int, 2) := by decide +kernel
theorem dX9_init_985 : decode cX9_init 985 = .ok (.putfield 52, 3) := by decide +kernel
theorem dX9_init_988 : decode cX9_init 988 = .ok (.aload_n 0, 1) := by decide +kernel
theorem dX9_init_989 : decode cX9_init 989 = .ok (.sipush 200, 3) := by decide +kernel
theorem dX9_init_992 : decode cX9_init 992 = .ok (.newarray .int, 2) := by decide +kernel
theorem dX9_init_994 : decode cX9_init 994 = .ok (.putfield 55, 3) := by decide +kernel
theorem dX9_init_997 : decode cX9_init 997 = .ok (.aload_n 0, 1) := by decide +kernel
theorem dX9_init_998 : decode cX9_init 998 = .ok (.bipush 6, 2) := by decide +kernel
theorem dX9_init_1000 : decode cX9_init 1000 = .ok (.newarray .int, 2) := by decide +kernel
theorem dX9_init_1002 : decode cX9_init 1002 = .ok (.putfield 58, 3) := by decide +kernel
theorem dX9_init_1005 : decode cX9_init 1005 = .ok (.aload_n 0, 1) := by decide +kernel
theorem dX9_init_1006 : decode cX9_init 1006 = .ok (.bipush 21, 2) := by decide +kernel
theorem dX9_init_1008 : decode cX9_init 1008 = .ok (.newarray .int, 2) := by decide +kernel
theorem dX9_init_1010 : decode cX9_init 1010 = .ok (.putfield 61, 3) := by decide +kernel
theorem dX9_init_1013 : decode cX9_init 1013 = .ok (.aload_n 0, 1) := by decide +kernel
theorem dX9_init_1014 : decode cX9_init 1014 = .ok (.bipush 7, 2) := by decide +kernel
theorem dX9_init_1016 : decode cX9_init 1016 = .ok (.newarray .int, 2) := by decide +kernel
theorem dX9_init_1018 : decode cX9_init 1018 = .ok (.putfield 64, 3) := by decide +kernel
theorem dX9_init_1021 : decode cX9_init 1021 = .ok (.aload_n 0, 1) := by decide +kernel
theorem dX9_init_1022 : decode cX9_init 1022 = .ok (.bipush 7, 2) := by decide +kernel
theorem dX9_init_1024 : decode cX9_init 1024 = .ok (.newarray .int, 2) := by decide +kernel
theorem dX9_init_1026 : decode cX9_init 1026 = .ok (.putfield 67, 3) := by decide +kernel
theorem dX9_init_1029 : decode cX9_init 1029 = .ok (.iconst 0, 1) := by decide +kernel
theorem dX9_init_1030 : decode cX9_init 1030 = .ok (.istore_n 1, 1) := by decide +kernel
theorem dX9_init_1031 : decode cX9_init 1031 = .ok (.iload_n 1, 1) := by decide +kernel
theorem dX9_init_1032 : decode cX9_init 1032 = .ok (.bipush 47, 2) := by decide +kernel
theorem dX9_init_1034 : decode cX9_init 1034 = .ok (.if_icmp .ge 21, 3) := by decide +kernel
theorem dX9_init_1037 : decode cX9_init 1037 = .ok (.aload_n 0, 1) := by decide +kernel
theorem dX9_init_1038 : decode cX9_init 1038 = .ok (.getfield 25, 3) := by decide +kernel
theorem dX9_init_1041 : decode cX9_init 1041 = .ok (.iload_n 1, 1) := by decide +kernel
theorem dX9_init_1042 : decode cX9_init 1042 = .ok (.aload_n 0, 1) := by decide +kernel
theorem dX9_init_1043 : decode cX9_init 1043 = .ok (.getfield 46, 3) := by decide +kernel
theorem dX9_init_1046 : decode cX9_init 1046 = .ok (.iload_n 1, 1) := by decide +kernel
theorem dX9_init_1047 : decode cX9_init 1047 = .ok (.iaload, 1) := by decide +kernel
theorem dX9_init_1048 : decode cX9_init 1048 = .ok (.iastore, 1) := by decide +kernel
theorem dX9_init_1049 : decode cX9_init 1049 = .ok (.iinc 1 1, 3) := by decide +kernel
theorem dX9_init_1052 : decode cX9_init 1052 = .ok (.goto (-21), 3) := by decide +kernel
theorem dX9_init_1055 : decode cX9_init 1055 = .ok (.aload_n 0, 1) := by decide +kernel
theorem dX9_init_1056 : decode cX9_init 1056 = .ok (.bipush 47, 2) := by decide +kernel
theorem dX9_init_1058 : decode cX9_init 1058 = .ok (.putfield 70, 3) := by decide +kernel
theorem dX9_init_1061 : decode cX9_init 1061 = .ok (.aload_n 0, 1) := by decide +kernel
theorem dX9_init_1062 : decode cX9_init 1062 = .ok (.invokevirtual 74, 3) := by decide +kernel
theorem dX9_init_1065 : decode cX9_init 1065 = .ok (.pop, 1) := by decide +kernel
theorem dX9_init_1066 : decode cX9_init 1066 = .ok (.return_, 1) := by decide +kernel
theorem dX9_in_0 : decode cX9_in 0 = .ok (.iload_n 0, 1) := by decide +kernel
theorem dX9_in_1 : decode cX9_in 1 = .ok (.iload_n 1, 1) := by decide +kernel
theorem dX9_in_2 : decode cX9_in 2 = .ok (.if_icmp .lt 12, 3) := by decide +kernel
theorem dX9_in_5 : decode cX9_in 5 = .ok (.iload_n 0, 1) := by decide +kernel
theorem dX9_in_6 : decode cX9_in 6 = .ok (.iload_n 2, 1) := by decide +kernel
theorem dX9_in_7 : decode cX9_in 7 = .ok (.if_icmp .gt 7, 3) := by decide +kernel
theorem dX9_in_10 : decode cX9_in 10 = .ok (.iconst 1, 1) := by decide +kernel
theorem dX9_in_11 : decode cX9_in 11 = .ok (.goto 4, 3) := by decide +kernel
theorem dX9_in_14 : decode cX9_in 14 = .ok (.iconst 0, 1) := by decide +kernel
theorem dX9_in_15 : decode cX9_in 15 = .ok (.ireturn, 1) := by decide +kernel
theorem dX9_within_0 : decode cX9_within 0 = .ok (.iload_n 0, 1) := by decide +kernel
theorem dX9_within_1 : decode cX9_within 1 = .ok (.iload_n 1, 1) := by decide +kernel
theorem dX9_within_2 : decode cX9_within 2 = .ok (.if_icmp .ge 7, 3) := by decide +kernel
theorem dX9_within_5 : decode cX9_within 5 = .ok (.iload_n 1, 1) := by decide +kernel
theorem dX9_within_6 : decode cX9_within 6 = .ok (.goto 13, 3) := by decide +kernel
theorem dX9_within_9 : decode cX9_within 9 = .ok (.iload_n 0, 1) := by decide +kernel
theorem dX9_within_10 : decode cX9_within 10 = .ok (.iload_n 2, 1) := by decide +kernel
theorem dX9_within_11 : decode cX9_within 11 = .ok (.if_icmp .le 7, 3) := by decide +kernel
theorem dX9_within_14 : decode cX9_within 14 = .ok (.iload_n 2, 1) := by decide +kernel
theorem dX9_within_15 : decode cX9_within 15 = .ok (.goto 4, 3) := by decide +kernel
theorem dX9_within_18 : decode cX9_within 18 = .ok (.iload_n 0, 1) := by decide +kernel
theorem dX9_within_19 : decode cX9_within 19 = .ok (.ireturn, 1) := by decide +kernel
theorem dX9_isLot_0 : decode cX9_isLot 0 = .ok (.iload_n 1, 1) := by decide +kernel
theorem dX9_isLot_1 : decode cX9_isLot 1 = .ok (.iconst 0, 1) := by decide +kernel
theorem dX9_isLot_2 : decode cX9_isLot 2 = .ok (.aload_n 0, 1) := by decide +kernel
theorem dX9_isLot_3 : decode cX9_isLot 3 = .ok (.getfield 78, 3) := by decide +kernel
theorem dX9_isLot_6 : decode cX9_isLot 6 = .ok (.iconst 1, 1) := by decide +kernel
theorem dX9_isLot_7 : decode cX9_isLot 7 = .ok (.isub, 1) := by decide +kernel
theorem dX9_isLot_8 : decode cX9_isLot 8 = .ok (.invokestatic 81, 3) := by decide +kernel
theorem dX9_isLot_11 : decode cX9_isLot 11 = .ok (.ireturn, 1) := by decide +kernel
theorem dX9_areTwo_0 : decode cX9_areTwo 0 = .ok (.aload_n 0, 1) := by decide +kernel
theorem dX9_areTwo_1 : decode cX9_areTwo 1 = .ok (.iload_n 1, 1) := by decide +kernel
theorem dX9_areTwo_2 : decode cX9_areTwo 2 = .ok (.invokevirtual 85, 3) := by decide +kernel
theorem dX9_areTwo_5 : decode cX9_areTwo 5 = .ok (.ifCond .eq 20, 3) := by decide +kernel
theorem dX9_areTwo_8 : decode cX9_areTwo 8 = .ok (.aload_n 0, 1) := by decide +kernel
theorem dX9_areTwo_9 : decode cX9_areTwo 9 = .ok (.iload_n 2, 1) := by decide +kernel
theorem dX9_areTwo_10 : decode cX9_areTwo 10 = .ok (.invokevirtual 85, 3) := by decide +kernel
theorem dX9_areTwo_13 : decode cX9_areTwo 13 = .ok (.ifCond .eq 12, 3) := by decide +kernel
theorem dX9_areTwo_16 : decode cX9_areTwo 16 = .ok (.iload_n 1, 1) := by decide +kernel
theorem dX9_areTwo_17 : decode cX9_areTwo 17 = .ok (.iload_n 2, 1) := by decide +kernel
theorem dX9_areTwo_18 : decode cX9_areTwo 18 = .ok (.if_icmp .eq 7, 3) := by decide +kernel
theorem dX9_areTwo_21 : decode cX9_areTwo 21 = .ok (.iconst 1, 1) := by decide +kernel
theorem dX9_areTwo_22 : decode cX9_areTwo 22 = .ok (.goto 4, 3) := by decide +kernel
theorem dX9_areTwo_25 : decode cX9_areTwo 25 = .ok (.iconst 0, 1) := by decide +kernel
theorem dX9_areTwo_26 : decode cX9_areTwo 26 = .ok (.ireturn, 1) := by decide +kernel
theorem dX9_areBeside_0 : decode cX9_areBeside 0 = .ok (.aload_n 0, 1) := by decide +kernel
theorem dX9_areBeside_1 : decode cX9_areBeside 1 = .ok (.getfield 16, 3) := by decide +kernel
theorem dX9_areBeside_4 : decode cX9_areBeside 4 = .ok (.iload_n 1, 1) := by decide +kernel
theorem dX9_areBeside_5 : decode cX9_areBeside 5 = .ok (.iaload, 1) := by decide +kernel
theorem dX9_areBeside_6 : decode cX9_areBeside 6 = .ok (.iload_n 2, 1) := by decide +kernel
theorem dX9_areBeside_7 : decode cX9_areBeside 7 = .ok (.ishr, 1) := by decide +kernel
theorem dX9_areBeside_8 : decode cX9_areBeside 8 = .ok (.iconst 1, 1) := by decide +kernel
theorem dX9_areBeside_9 : decode cX9_areBeside 9 = .ok (.iand, 1) := by decide +kernel
theorem dX9_areBeside_10 : decode cX9_areBeside 10 = .ok (.iconst 1, 1) := by decide +kernel
theorem dX9_areBeside_11 : decode cX9_areBeside 11 = .ok (.if_icmp .ne 7, 3) := by decide +kernel
theorem dX9_areBeside_14 : decode cX9_areBeside 14 = .ok (.iconst 1, 1) := by decide +kernel
theorem dX9_areBeside_15 : decode cX9_areBeside 15 = .ok (.goto 4, 3) := by decide +kernel
theorem dX9_areBeside_18 : decode cX9_areBeside 18 = .ok (.iconst 0, 1) := by decide +kernel
theorem dX9_areBeside_19 : decode cX9_areBeside 19 = .ok (.ireturn, 1) := by decide +kernel
theorem dX9_isBuilt_0 : decode cX9_isBuilt 0 = .ok (.aload_n 0, 1) := by decide +kernel
theorem dX9_isBuilt_1 : decode cX9_isBuilt 1 = .ok (.getfield 19, 3) := by decide +kernel
theorem dX9_isBuilt_4 : decode cX9_isBuilt 4 = .ok (.iload_n 1, 1) := by decide +kernel
theorem dX9_isBuilt_5 : decode cX9_isBuilt 5 = .ok (.iaload, 1) := by decide +kernel
theorem dX9_isBuilt_6 : decode cX9_isBuilt 6 = .ok (.iconst (-1), 1) := by decide +kernel
theorem dX9_isBuilt_7 : decode cX9_isBuilt 7 = .ok (.if_icmp .eq 7, 3) := by decide +kernel
theorem dX9_isBuilt_10 : decode cX9_isBuilt 10 = .ok (.iconst 1, 1) := by decide +kernel
theorem dX9_isBuilt_11 : decode cX9_isBuilt 11 = .ok (.goto 4, 3) := by decide +kernel
theorem dX9_isBuilt_14 : decode cX9_isBuilt 14 = .ok (.iconst 0, 1) := by decide +kernel
theorem dX9_isBuilt_15 : decode cX9_isBuilt 15 = .ok (.ireturn, 1) := by decide +kernel
theorem dX9_ones_0 : decode cX9_ones 0 = .ok (.iconst 0, 1) := by decide +kernel
theorem dX9_ones_1 : decode cX9_ones 1 = .ok (.istore_n 1, 1) := by decide +kernel
theorem dX9_ones_2 : decode cX9_ones 2 = .ok (.iconst 0, 1) := by decide +kernel
theorem dX9_ones_3 : decode cX9_ones 3 = .ok (.istore_n 2, 1) := by decide +kernel
theorem dX9_ones_4 : decode cX9_ones 4 = .ok (.iload_n 2, 1) := by decide +kernel
theorem dX9_ones_5 : decode cX9_ones 5 = .ok (.bipush 12, 2) := by decide +kernel
theorem dX9_ones_7 : decode cX9_ones 7 = .ok (.if_icmp .ge 17, 3) := by decide +kernel
theorem dX9_ones_10 : decode cX9_ones 10 = .ok (.iload_n 1, 1) := by decide +kernel
theorem dX9_ones_11 : decode cX9_ones 11 = .ok (.iload_n 0, 1) := by decide +kernel
theorem dX9_ones_12 : decode cX9_ones 12 = .ok (.iload_n 2, 1) := by decide +kernel
theorem dX9_ones_13 : decode cX9_ones 13 = .ok (.ishr, 1) := by decide +kernel
theorem dX9_ones_14 : decode cX9_ones 14 = .ok (.iconst 1, 1) := by decide +kernel
theorem dX9_ones_15 : decode cX9_ones 15 = .ok (.iand, 1) := by decide +kernel
theorem dX9_ones_16 : decode cX9_ones 16 = .ok (.iadd, 1) := by decide +kernel
theorem dX9_ones_17 : decode cX9_ones 17 = .ok (.istore_n 1, 1) := by decide +kernel
theorem dX9_ones_18 : decode cX9_ones 18 = .ok (.iinc 2 1, 3) := by decide +kernel
theorem dX9_ones_21 : decode cX9_ones 21 = .ok (.goto (-17), 3) := by decide +kernel
theorem dX9_ones_24 : decode cX9_ones 24 = .ok (.iload_n 1, 1) := by decide +kernel
theorem dX9_ones_25 : decode cX9_ones 25 = .ok (.ireturn, 1) := by decide +kernel
theorem dX9_builtSet_0 : decode cX9_builtSet 0 = .ok (.iconst 0, 1) := by decide +kernel
theorem dX9_builtSet_1 : decode cX9_builtSet 1 = .ok (.istore_n 1, 1) := by decide +kernel
theorem dX9_builtSet_2 : decode cX9_builtSet 2 = .ok (.iconst 0, 1) := by decide +kernel
theorem dX9_builtSet_3 : decode cX9_builtSet 3 = .ok (.istore_n 2, 1) := by decide +kernel
theorem dX9_builtSet_4 : decode cX9_builtSet 4 = .ok (.iload_n 2, 1) := by decide +kernel
theorem dX9_builtSet_5 : decode cX9_builtSet 5 = .ok (.aload_n 0, 1) := by decide +kernel
theorem dX9_builtSet_6 : decode cX9_builtSet 6 = .ok (.getfield 78, 3) := by decide +kernel
theorem dX9_builtSet_9 : decode cX9_builtSet 9 = .ok (.if_icmp .ge 27, 3) := by decide +kernel
theorem dX9_builtSet_12 : decode cX9_builtSet 12 = .ok (.iload_n 1, 1) := by decide +kernel
theorem dX9_builtSet_13 : decode cX9_builtSet 13 = .ok (.aload_n 0, 1) := by decide +kernel
theorem dX9_builtSet_14 : decode cX9_builtSet 14 = .ok (.iload_n 2, 1) := by decide +kernel
theorem dX9_builtSet_15 : decode cX9_builtSet 15 = .ok (.invokevirtual 89, 3) := by decide +kernel
theorem dX9_builtSet_18 : decode cX9_builtSet 18 = .ok (.ifCond .eq 9, 3) := by decide +kernel
theorem dX9_builtSet_21 : decode cX9_builtSet 21 = .ok (.iconst 1, 1) := by decide +kernel
theorem dX9_builtSet_22 : decode cX9_builtSet 22 = .ok (.iload_n 2, 1) := by decide +kernel
theorem dX9_builtSet_23 : decode cX9_builtSet 23 = .ok (.ishl, 1) := by decide +kernel
theorem dX9_builtSet_24 : decode cX9_builtSet 24 = .ok (.goto 4, 3) := by decide +kernel
theorem dX9_builtSet_27 : decode cX9_builtSet 27 = .ok (.iconst 0, 1) := by decide +kernel
theorem dX9_builtSet_28 : decode cX9_builtSet 28 = .ok (.ior, 1) := by decide +kernel
theorem dX9_builtSet_29 : decode cX9_builtSet 29 = .ok (.istore_n 1, 1) := by decide +kernel
theorem dX9_builtSet_30 : decode cX9_builtSet 30 = .ok (.iinc 2 1, 3) := by decide +kernel
theorem dX9_builtSet_33 : decode cX9_builtSet 33 = .ok (.goto (-29), 3) := by decide +kernel
theorem dX9_builtSet_36 : decode cX9_builtSet 36 = .ok (.iload_n 1, 1) := by decide +kernel
theorem dX9_builtSet_37 : decode cX9_builtSet 37 = .ok (.ireturn, 1) := by decide +kernel
theorem dX9_all_0 : decode cX9_all 0 = .ok (.iconst 1, 1) := by decide +kernel
theorem dX9_all_1 : decode cX9_all 1 = .ok (.aload_n 0, 1) := by decide +kernel
theorem dX9_all_2 : decode cX9_all 2 = .ok (.getfield 78, 3) := by decide +kernel
theorem dX9_all_5 : decode cX9_all 5 = .ok (.ishl, 1) := by decide +kernel
theorem dX9_all_6 : decode cX9_all 6 = .ok (.iconst 1, 1) := by decide +kernel
theorem dX9_all_7 : decode cX9_all 7 = .ok (.isub, 1) := by decide +kernel
theorem dX9_all_8 : decode cX9_all 8 = .ok (.ireturn, 1) := by decide +kernel
theorem dX9_howMany_0 : decode cX9_howMany 0 = .ok (.iconst 0, 1) := by decide +kernel
theorem dX9_howMany_1 : decode cX9_howMany 1 = .ok (.istore_n 1, 1) := by decide +kernel
theorem dX9_howMany_2 : decode cX9_howMany 2 = .ok (.iconst 0, 1) := by decide +kernel
theorem dX9_howMany_3 : decode cX9_howMany 3 = .ok (.istore_n 2, 1) := by decide +kernel
theorem dX9_howMany_4 : decode cX9_howMany 4 = .ok (.iload_n 2, 1) := by decide +kernel
theorem dX9_howMany_5 : decode cX9_howMany 5 = .ok (.aload_n 0, 1) := by decide +kernel
theorem dX9_howMany_6 : decode cX9_howMany 6 = .ok (.getfield 78, 3) := by decide +kernel
theorem dX9_howMany_9 : decode cX9_howMany 9 = .ok (.if_icmp .ge 32, 3) := by decide +kernel
theorem dX9_howMany_12 : decode cX9_howMany 12 = .ok (.iload_n 1, 1) := by decide +kernel
theorem dX9_howMany_13 : decode cX9_howMany 13 = .ok (.aload_n 0, 1) := by decide +kernel
theorem dX9_howMany_14 : decode cX9_howMany 14 = .ok (.iload_n 2, 1) := by decide +kernel
theorem dX9_howMany_15 : decode cX9_howMany 15 = .ok (.invokevirtual 89, 3) := by decide +kernel
theorem dX9_howMany_18 : decode cX9_howMany 18 = .ok (.ifCond .eq 14, 3) := by decide +kernel
theorem dX9_howMany_21 : decode cX9_howMany 21 = .ok (.iconst 1, 1) := by decide +kernel
theorem dX9_howMany_22 : decode cX9_howMany 22 = .ok (.aload_n 0, 1) := by decide +kernel
theorem dX9_howMany_23 : decode cX9_howMany 23 = .ok (.getfield 19, 3) := by decide +kernel
theorem dX9_howMany_26 : decode cX9_howMany 26 = .ok (.iload_n 2, 1) := by decide +kernel
theorem dX9_howMany_27 : decode cX9_howMany 27 = .ok (.iaload, 1) := by decide +kernel
theorem dX9_howMany_28 : decode cX9_howMany 28 = .ok (.ishl, 1) := by decide +kernel
theorem dX9_howMany_29 : decode cX9_howMany 29 = .ok (.goto 4, 3) := by decide +kernel
theorem dX9_howMany_32 : decode cX9_howMany 32 = .ok (.iconst 0, 1) := by decide +kernel
theorem dX9_howMany_33 : decode cX9_howMany 33 = .ok (.ior, 1) := by decide +kernel
theorem dX9_howMany_34 : decode cX9_howMany 34 = .ok (.istore_n 1, 1) := by decide +kernel
theorem dX9_howMany_35 : decode cX9_howMany 35 = .ok (.iinc 2 1, 3) := by decide +kernel
theorem dX9_howMany_38 : decode cX9_howMany 38 = .ok (.goto (-34), 3) := by decide +kernel
theorem dX9_howMany_41 : decode cX9_howMany 41 = .ok (.iload_n 1, 1) := by decide +kernel
theorem dX9_howMany_42 : decode cX9_howMany 42 = .ok (.invokestatic 92, 3) := by decide +kernel
theorem dX9_howMany_45 : decode cX9_howMany 45 = .ok (.ireturn, 1) := by decide +kernel
theorem dX9_pairs_0 : decode cX9_pairs 0 = .ok (.iconst 0, 1) := by decide +kernel
theorem dX9_pairs_1 : decode cX9_pairs 1 = .ok (.istore_n 1, 1) := by decide +kernel
theorem dX9_pairs_2 : decode cX9_pairs 2 = .ok (.iconst 0, 1) := by decide +kernel
theorem dX9_pairs_3 : decode cX9_pairs 3 = .ok (.istore_n 2, 1) := by decide +kernel
theorem dX9_pairs_4 : decode cX9_pairs 4 = .ok (.iload_n 2, 1) := by decide +kernel
theorem dX9_pairs_5 : decode cX9_pairs 5 = .ok (.aload_n 0, 1) := by decide +kernel
theorem dX9_pairs_6 : decode cX9_pairs 6 = .ok (.getfield 78, 3) := by decide +kernel
theorem dX9_pairs_9 : decode cX9_pairs 9 = .ok (.if_icmp .ge 21, 3) := by decide +kernel
theorem dX9_pairs_12 : decode cX9_pairs 12 = .ok (.iload_n 1, 1) := by decide +kernel
theorem dX9_pairs_13 : decode cX9_pairs 13 = .ok (.aload_n 0, 1) := by decide +kernel
theorem dX9_pairs_14 : decode cX9_pairs 14 = .ok (.getfield 16, 3) := by decide +kernel
theorem dX9_pairs_17 : decode cX9_pairs 17 = .ok (.iload_n 2, 1) := by decide +kernel
theorem dX9_pairs_18 : decode cX9_pairs 18 = .ok (.iaload, 1) := by decide +kernel
theorem dX9_pairs_19 : decode cX9_pairs 19 = .ok (.invokestatic 92, 3) := by decide +kernel
theorem dX9_pairs_22 : decode cX9_pairs 22 = .ok (.iadd, 1) := by decide +kernel
theorem dX9_pairs_23 : decode cX9_pairs 23 = .ok (.istore_n 1, 1) := by decide +kernel
theorem dX9_pairs_24 : decode cX9_pairs 24 = .ok (.iinc 2 1, 3) := by decide +kernel
theorem dX9_pairs_27 : decode cX9_pairs 27 = .ok (.goto (-23), 3) := by decide +kernel
theorem dX9_pairs_30 : decode cX9_pairs 30 = .ok (.iload_n 1, 1) := by decide +kernel
theorem dX9_pairs_31 : decode cX9_pairs 31 = .ok (.iconst 2, 1) := by decide +kernel
theorem dX9_pairs_32 : decode cX9_pairs 32 = .ok (.idiv, 1) := by decide +kernel
theorem dX9_pairs_33 : decode cX9_pairs 33 = .ok (.ireturn, 1) := by decide +kernel
theorem dX9_count_0 : decode cX9_count 0 = .ok (.iload_n 1, 1) := by decide +kernel
theorem dX9_count_1 : decode cX9_count 1 = .ok (.tableswitch 78 0 6 #[43, 48, 53, 58, 63, 68, 73], 43) := by decide +kernel
theorem dX9_count_44 : decode cX9_count 44 = .ok (.aload_n 0, 1) := by decide +kernel
theorem dX9_count_45 : decode cX9_count 45 = .ok (.getfield 78, 3) := by decide +kernel
theorem dX9_count_48 : decode cX9_count 48 = .ok (.ireturn, 1) := by decide +kernel
theorem dX9_count_49 : decode cX9_count 49 = .ok (.aload_n 0, 1) := by decide +kernel
theorem dX9_count_50 : decode cX9_count 50 = .ok (.invokevirtual 96, 3) := by decide +kernel
theorem dX9_count_53 : decode cX9_count 53 = .ok (.ireturn, 1) := by decide +kernel
theorem dX9_count_54 : decode cX9_count 54 = .ok (.aload_n 0, 1) := by decide +kernel
theorem dX9_count_55 : decode cX9_count 55 = .ok (.invokevirtual 99, 3) := by decide +kernel
theorem dX9_count_58 : decode cX9_count 58 = .ok (.ireturn, 1) := by decide +kernel
theorem dX9_count_59 : decode cX9_count 59 = .ok (.aload_n 0, 1) := by decide +kernel
theorem dX9_count_60 : decode cX9_count 60 = .ok (.invokevirtual 102, 3) := by decide +kernel
theorem dX9_count_63 : decode cX9_count 63 = .ok (.ireturn, 1) := by decide +kernel
theorem dX9_count_64 : decode cX9_count 64 = .ok (.aload_n 0, 1) := by decide +kernel
theorem dX9_count_65 : decode cX9_count 65 = .ok (.getfield 105, 3) := by decide +kernel
theorem dX9_count_68 : decode cX9_count 68 = .ok (.ireturn, 1) := by decide +kernel
theorem dX9_count_69 : decode cX9_count 69 = .ok (.aload_n 0, 1) := by decide +kernel
theorem dX9_count_70 : decode cX9_count 70 = .ok (.getfield 108, 3) := by decide +kernel
theorem dX9_count_73 : decode cX9_count 73 = .ok (.ireturn, 1) := by decide +kernel
theorem dX9_count_74 : decode cX9_count 74 = .ok (.aload_n 0, 1) := by decide +kernel
theorem dX9_count_75 : decode cX9_count 75 = .ok (.getfield 70, 3) := by decide +kernel
theorem dX9_count_78 : decode cX9_count 78 = .ok (.ireturn, 1) := by decide +kernel
theorem dX9_count_79 : decode cX9_count 79 = .ok (.bipush (-2), 2) := by decide +kernel
theorem dX9_count_81 : decode cX9_count 81 = .ok (.ireturn, 1) := by decide +kernel
theorem dX9_isByte_0 : decode cX9_isByte 0 = .ok (.iload_n 0, 1) := by decide +kernel
theorem dX9_isByte_1 : decode cX9_isByte 1 = .ok (.iconst 0, 1) := by decide +kernel
theorem dX9_isByte_2 : decode cX9_isByte 2 = .ok (.sipush 255, 3) := by decide +kernel
theorem dX9_isByte_5 : decode cX9_isByte 5 = .ok (.invokestatic 81, 3) := by decide +kernel
theorem dX9_isByte_8 : decode cX9_isByte 8 = .ok (.ireturn, 1) := by decide +kernel
theorem dX9_feed_0 : decode cX9_feed 0 = .ok (.iload_n 1, 1) := by decide +kernel
theorem dX9_feed_1 : decode cX9_feed 1 = .ok (.iconst 1, 1) := by decide +kernel
theorem dX9_feed_2 : decode cX9_feed 2 = .ok (.iconst 5, 1) := by decide +kernel
theorem dX9_feed_3 : decode cX9_feed 3 = .ok (.invokestatic 81, 3) := by decide +kernel
theorem dX9_feed_6 : decode cX9_feed 6 = .ok (.ifCond .eq 41, 3) := by decide +kernel
theorem dX9_feed_9 : decode cX9_feed 9 = .ok (.iload_n 2, 1) := by decide +kernel
theorem dX9_feed_10 : decode cX9_feed 10 = .ok (.invokestatic 111, 3) := by decide +kernel
theorem dX9_feed_13 : decode cX9_feed 13 = .ok (.ifCond .eq 34, 3) := by decide +kernel
theorem dX9_feed_16 : decode cX9_feed 16 = .ok (.iload_n 3, 1) := by decide +kernel
theorem dX9_feed_17 : decode cX9_feed 17 = .ok (.invokestatic 111, 3) := by decide +kernel
theorem dX9_feed_20 : decode cX9_feed 20 = .ok (.ifCond .eq 27, 3) := by decide +kernel
theorem dX9_feed_23 : decode cX9_feed 23 = .ok (.iload 4, 2) := by decide +kernel
theorem dX9_feed_25 : decode cX9_feed 25 = .ok (.invokestatic 111, 3) := by decide +kernel
theorem dX9_feed_28 : decode cX9_feed 28 = .ok (.ifCond .eq 19, 3) := by decide +kernel
theorem dX9_feed_31 : decode cX9_feed 31 = .ok (.iload 5, 2) := by decide +kernel
theorem dX9_feed_33 : decode cX9_feed 33 = .ok (.invokestatic 111, 3) := by decide +kernel
theorem dX9_feed_36 : decode cX9_feed 36 = .ok (.ifCond .eq 11, 3) := by decide +kernel
theorem dX9_feed_39 : decode cX9_feed 39 = .ok (.iload 6, 2) := by decide +kernel
theorem dX9_feed_41 : decode cX9_feed 41 = .ok (.invokestatic 111, 3) := by decide +kernel
theorem dX9_feed_44 : decode cX9_feed 44 = .ok (.ifCond .ne 6, 3) := by decide +kernel
theorem dX9_feed_47 : decode cX9_feed 47 = .ok (.bipush (-2), 2) := by decide +kernel
theorem dX9_feed_49 : decode cX9_feed 49 = .ok (.ireturn, 1) := by decide +kernel
theorem dX9_feed_50 : decode cX9_feed 50 = .ok (.aload_n 0, 1) := by decide +kernel
theorem dX9_feed_51 : decode cX9_feed 51 = .ok (.getfield 70, 3) := by decide +kernel
theorem dX9_feed_54 : decode cX9_feed 54 = .ok (.iload_n 1, 1) := by decide +kernel
theorem dX9_feed_55 : decode cX9_feed 55 = .ok (.iadd, 1) := by decide +kernel
theorem dX9_feed_56 : decode cX9_feed 56 = .ok (.sipush 160, 3) := by decide +kernel
theorem dX9_feed_59 : decode cX9_feed 59 = .ok (.if_icmp .le 6, 3) := by decide +kernel
theorem dX9_feed_62 : decode cX9_feed 62 = .ok (.bipush (-4), 2) := by decide +kernel
theorem dX9_feed_64 : decode cX9_feed 64 = .ok (.ireturn, 1) := by decide +kernel
theorem dX9_feed_65 : decode cX9_feed 65 = .ok (.iconst 0, 1) := by decide +kernel
theorem dX9_feed_66 : decode cX9_feed 66 = .ok (.istore 7, 2) := by decide +kernel
theorem dX9_feed_68 : decode cX9_feed 68 = .ok (.iload 7, 2) := by decide +kernel
theorem dX9_feed_70 : decode cX9_feed 70 = .ok (.iload_n 1, 1) := by decide +kernel
theorem dX9_feed_71 : decode cX9_feed 71 = .ok (.if_icmp .ge 71, 3) := by decide +kernel
theorem dX9_feed_74 : decode cX9_feed 74 = .ok (.aload_n 0, 1) := by decide +kernel
theorem dX9_feed_75 : decode cX9_feed 75 = .ok (.getfield 25, 3) := by decide +kernel
theorem dX9_feed_78 : decode cX9_feed 78 = .ok (.aload_n 0, 1) := by decide +kernel
theorem dX9_feed_79 : decode cX9_feed 79 = .ok (.getfield 70, 3) := by decide +kernel
theorem dX9_feed_82 : decode cX9_feed 82 = .ok (.iload 7, 2) := by decide +kernel
theorem dX9_feed_84 : decode cX9_feed 84 = .ok (.ifCond .ne 7, 3) := by decide +kernel
theorem dX9_feed_87 : decode cX9_feed 87 = .ok (.iload_n 2, 1) := by decide +kernel
theorem dX9_feed_88 : decode cX9_feed 88 = .ok (.goto 37, 3) := by decide +kernel
theorem dX9_feed_91 : decode cX9_feed 91 = .ok (.iload 7, 2) := by decide +kernel
theorem dX9_feed_93 : decode cX9_feed 93 = .ok (.iconst 1, 1) := by decide +kernel
theorem dX9_feed_94 : decode cX9_feed 94 = .ok (.if_icmp .ne 7, 3) := by decide +kernel
theorem dX9_feed_97 : decode cX9_feed 97 = .ok (.iload_n 3, 1) := by decide +kernel
theorem dX9_feed_98 : decode cX9_feed 98 = .ok (.goto 27, 3) := by decide +kernel
theorem dX9_feed_101 : decode cX9_feed 101 = .ok (.iload 7, 2) := by decide +kernel
theorem dX9_feed_103 : decode cX9_feed 103 = .ok (.iconst 2, 1) := by decide +kernel
theorem dX9_feed_104 : decode cX9_feed 104 = .ok (.if_icmp .ne 8, 3) := by decide +kernel
theorem dX9_feed_107 : decode cX9_feed 107 = .ok (.iload 4, 2) := by decide +kernel
theorem dX9_feed_109 : decode cX9_feed 109 = .ok (.goto 16, 3) := by decide +kernel
theorem dX9_feed_112 : decode cX9_feed 112 = .ok (.iload 7, 2) := by decide +kernel
theorem dX9_feed_114 : decode cX9_feed 114 = .ok (.iconst 3, 1) := by decide +kernel
theorem dX9_feed_115 : decode cX9_feed 115 = .ok (.if_icmp .ne 8, 3) := by decide +kernel
theorem dX9_feed_118 : decode cX9_feed 118 = .ok (.iload 5, 2) := by decide +kernel
theorem dX9_feed_120 : decode cX9_feed 120 = .ok (.goto 5, 3) := by decide +kernel
theorem dX9_feed_123 : decode cX9_feed 123 = .ok (.iload 6, 2) := by decide +kernel
theorem dX9_feed_125 : decode cX9_feed 125 = .ok (.iastore, 1) := by decide +kernel
theorem dX9_feed_126 : decode cX9_feed 126 = .ok (.aload_n 0, 1) := by decide +kernel
theorem dX9_feed_127 : decode cX9_feed 127 = .ok (.dup, 1) := by decide +kernel
theorem dX9_feed_128 : decode cX9_feed 128 = .ok (.getfield 70, 3) := by decide +kernel
theorem dX9_feed_131 : decode cX9_feed 131 = .ok (.iconst 1, 1) := by decide +kernel
theorem dX9_feed_132 : decode cX9_feed 132 = .ok (.iadd, 1) := by decide +kernel
theorem dX9_feed_133 : decode cX9_feed 133 = .ok (.putfield 70, 3) := by decide +kernel
theorem dX9_feed_136 : decode cX9_feed 136 = .ok (.iinc 7 1, 3) := by decide +kernel
theorem dX9_feed_139 : decode cX9_feed 139 = .ok (.goto (-71), 3) := by decide +kernel
theorem dX9_feed_142 : decode cX9_feed 142 = .ok (.aload_n 0, 1) := by decide +kernel
theorem dX9_feed_143 : decode cX9_feed 143 = .ok (.getfield 70, 3) := by decide +kernel
theorem dX9_feed_146 : decode cX9_feed 146 = .ok (.ireturn, 1) := by decide +kernel
theorem dX9_wordFrom_0 : decode cX9_wordFrom 0 = .ok (.iconst 0, 1) := by decide +kernel
theorem dX9_wordFrom_1 : decode cX9_wordFrom 1 = .ok (.istore_n 3, 1) := by decide +kernel
theorem dX9_wordFrom_2 : decode cX9_wordFrom 2 = .ok (.iload_n 3, 1) := by decide +kernel
theorem dX9_wordFrom_3 : decode cX9_wordFrom 3 = .ok (.bipush 12, 2) := by decide +kernel
theorem dX9_wordFrom_5 : decode cX9_wordFrom 5 = .ok (.if_icmp .ge 96, 3) := by decide +kernel
theorem dX9_wordFrom_8 : decode cX9_wordFrom 8 = .ok (.iload_n 2, 1) := by decide +kernel
theorem dX9_wordFrom_9 : decode cX9_wordFrom 9 = .ok (.iload_n 1, 1) := by decide +kernel
theorem dX9_wordFrom_10 : decode cX9_wordFrom 10 = .ok (.isub, 1) := by decide +kernel
theorem dX9_wordFrom_11 : decode cX9_wordFrom 11 = .ok (.bipush 8, 2) := by decide +kernel
theorem dX9_wordFrom_13 : decode cX9_wordFrom 13 = .ok (.if_icmp .gt 7, 3) := by decide +kernel
theorem dX9_wordFrom_16 : decode cX9_wordFrom 16 = .ok (.iconst 1, 1) := by decide +kernel
theorem dX9_wordFrom_17 : decode cX9_wordFrom 17 = .ok (.goto 4, 3) := by decide +kernel
theorem dX9_wordFrom_20 : decode cX9_wordFrom 20 = .ok (.iconst 0, 1) := by decide +kernel
theorem dX9_wordFrom_21 : decode cX9_wordFrom 21 = .ok (.istore 4, 2) := by decide +kernel
theorem dX9_wordFrom_23 : decode cX9_wordFrom 23 = .ok (.iconst 0, 1) := by decide +kernel
theorem dX9_wordFrom_24 : decode cX9_wordFrom 24 = .ok (.istore 5, 2) := by decide +kernel
theorem dX9_wordFrom_26 : decode cX9_wordFrom 26 = .ok (.iload 5, 2) := by decide +kernel
theorem dX9_wordFrom_28 : decode cX9_wordFrom 28 = .ok (.bipush 8, 2) := by decide +kernel
theorem dX9_wordFrom_30 : decode cX9_wordFrom 30 = .ok (.if_icmp .ge 58, 3) := by decide +kernel
theorem dX9_wordFrom_33 : decode cX9_wordFrom 33 = .ok (.iload 4, 2) := by decide +kernel
theorem dX9_wordFrom_35 : decode cX9_wordFrom 35 = .ok (.ifCond .eq 53, 3) := by decide +kernel
theorem dX9_wordFrom_38 : decode cX9_wordFrom 38 = .ok (.aload_n 0, 1) := by decide +kernel
theorem dX9_wordFrom_39 : decode cX9_wordFrom 39 = .ok (.getfield 49, 3) := by decide +kernel
theorem dX9_wordFrom_42 : decode cX9_wordFrom 42 = .ok (.bipush 8, 2) := by decide +kernel
theorem dX9_wordFrom_44 : decode cX9_wordFrom 44 = .ok (.iload_n 3, 1) := by decide +kernel
theorem dX9_wordFrom_45 : decode cX9_wordFrom 45 = .ok (.imul, 1) := by decide +kernel
theorem dX9_wordFrom_46 : decode cX9_wordFrom 46 = .ok (.iload 5, 2) := by decide +kernel
theorem dX9_wordFrom_48 : decode cX9_wordFrom 48 = .ok (.iadd, 1) := by decide +kernel
theorem dX9_wordFrom_49 : decode cX9_wordFrom 49 = .ok (.iaload, 1) := by decide +kernel
theorem dX9_wordFrom_50 : decode cX9_wordFrom 50 = .ok (.iload_n 1, 1) := by decide +kernel
theorem dX9_wordFrom_51 : decode cX9_wordFrom 51 = .ok (.iload 5, 2) := by decide +kernel
theorem dX9_wordFrom_53 : decode cX9_wordFrom 53 = .ok (.iadd, 1) := by decide +kernel
theorem dX9_wordFrom_54 : decode cX9_wordFrom 54 = .ok (.iload_n 2, 1) := by decide +kernel
theorem dX9_wordFrom_55 : decode cX9_wordFrom 55 = .ok (.if_icmp .ge 15, 3) := by decide +kernel
theorem dX9_wordFrom_58 : decode cX9_wordFrom 58 = .ok (.aload_n 0, 1) := by decide +kernel
theorem dX9_wordFrom_59 : decode cX9_wordFrom 59 = .ok (.getfield 25, 3) := by decide +kernel
theorem dX9_wordFrom_62 : decode cX9_wordFrom 62 = .ok (.iload_n 1, 1) := by decide +kernel
theorem dX9_wordFrom_63 : decode cX9_wordFrom 63 = .ok (.iload 5, 2) := by decide +kernel
theorem dX9_wordFrom_65 : decode cX9_wordFrom 65 = .ok (.iadd, 1) := by decide +kernel
theorem dX9_wordFrom_66 : decode cX9_wordFrom 66 = .ok (.iaload, 1) := by decide +kernel
theorem dX9_wordFrom_67 : decode cX9_wordFrom 67 = .ok (.goto 5, 3) := by decide +kernel
theorem dX9_wordFrom_70 : decode cX9_wordFrom 70 = .ok (.bipush 32, 2) := by decide +kernel
theorem dX9_wordFrom_72 : decode cX9_wordFrom 72 = .ok (.if_icmp .ne 7, 3) := by decide +kernel
theorem dX9_wordFrom_75 : decode cX9_wordFrom 75 = .ok (.iconst 1, 1) := by decide +kernel
theorem dX9_wordFrom_76 : decode cX9_wordFrom 76 = .ok (.goto 4, 3) := by decide +kernel
theorem dX9_wordFrom_79 : decode cX9_wordFrom 79 = .ok (.iconst 0, 1) := by decide +kernel
theorem dX9_wordFrom_80 : decode cX9_wordFrom 80 = .ok (.istore 4, 2) := by decide +kernel
theorem dX9_wordFrom_82 : decode cX9_wordFrom 82 = .ok (.iinc 5 1, 3) := by decide +kernel
theorem dX9_wordFrom_85 : decode cX9_wordFrom 85 = .ok (.goto (-59), 3) := by decide +kernel
theorem dX9_wordFrom_88 : decode cX9_wordFrom 88 = .ok (.iload 4, 2) := by decide +kernel
theorem dX9_wordFrom_90 : decode cX9_wordFrom 90 = .ok (.ifCond .eq 5, 3) := by decide +kernel
theorem dX9_wordFrom_93 : decode cX9_wordFrom 93 = .ok (.iload_n 3, 1) := by decide +kernel
theorem dX9_wordFrom_94 : decode cX9_wordFrom 94 = .ok (.ireturn, 1) := by decide +kernel
theorem dX9_wordFrom_95 : decode cX9_wordFrom 95 = .ok (.iinc 3 1, 3) := by decide +kernel
theorem dX9_wordFrom_98 : decode cX9_wordFrom 98 = .ok (.goto (-96), 3) := by decide +kernel
theorem dX9_wordFrom_101 : decode cX9_wordFrom 101 = .ok (.bipush 12, 2) := by decide +kernel
theorem dX9_wordFrom_103 : decode cX9_wordFrom 103 = .ok (.ireturn, 1) := by decide +kernel
theorem dX9_next_0 : decode cX9_next 0 = .ok (.aload_n 0, 1) := by decide +kernel
theorem dX9_next_1 : decode cX9_next 1 = .ok (.getfield 114, 3) := by decide +kernel
theorem dX9_next_4 : decode cX9_next 4 = .ok (.aload_n 0, 1) := by decide +kernel
theorem dX9_next_5 : decode cX9_next 5 = .ok (.getfield 70, 3) := by decide +kernel
theorem dX9_next_8 : decode cX9_next 8 = .ok (.if_icmp .ge 44, 3) := by decide +kernel
theorem dX9_next_11 : decode cX9_next 11 = .ok (.aload_n 0, 1) := by decide +kernel
theorem dX9_next_12 : decode cX9_next 12 = .ok (.getfield 25, 3) := by decide +kernel
theorem dX9_next_15 : decode cX9_next 15 = .ok (.aload_n 0, 1) := by decide +kernel
theorem dX9_next_16 : decode cX9_next 16 = .ok (.getfield 114, 3) := by decide +kernel
theorem dX9_next_19 : decode cX9_next 19 = .ok (.iaload, 1) := by decide +kernel
theorem dX9_next_20 : decode cX9_next 20 = .ok (.bipush 32, 2) := by decide +kernel
theorem dX9_next_22 : decode cX9_next 22 = .ok (.if_icmp .eq 17, 3) := by decide +kernel
theorem dX9_next_25 : decode cX9_next 25 = .ok (.aload_n 0, 1) := by decide +kernel
theorem dX9_next_26 : decode cX9_next 26 = .ok (.getfield 25, 3) := by decide +kernel
theorem dX9_next_29 : decode cX9_next 29 = .ok (.aload_n 0, 1) := by decide +kernel
theorem dX9_next_30 : decode cX9_next 30 = .ok (.getfield 114, 3) := by decide +kernel
theorem dX9_next_33 : decode cX9_next 33 = .ok (.iaload, 1) := by decide +kernel
theorem dX9_next_34 : decode cX9_next 34 = .ok (.bipush 10, 2) := by decide +kernel
theorem dX9_next_36 : decode cX9_next 36 = .ok (.if_icmp .ne 16, 3) := by decide +kernel
theorem dX9_next_39 : decode cX9_next 39 = .ok (.aload_n 0, 1) := by decide +kernel
theorem dX9_next_40 : decode cX9_next 40 = .ok (.dup, 1) := by decide +kernel
theorem dX9_next_41 : decode cX9_next 41 = .ok (.getfield 114, 3) := by decide +kernel
theorem dX9_next_44 : decode cX9_next 44 = .ok (.iconst 1, 1) := by decide +kernel
theorem dX9_next_45 : decode cX9_next 45 = .ok (.iadd, 1) := by decide +kernel
theorem dX9_next_46 : decode cX9_next 46 = .ok (.putfield 114, 3) := by decide +kernel
theorem dX9_next_49 : decode cX9_next 49 = .ok (.goto (-49), 3) := by decide +kernel
theorem dX9_next_52 : decode cX9_next 52 = .ok (.aload_n 0, 1) := by decide +kernel
theorem dX9_next_53 : decode cX9_next 53 = .ok (.aload_n 0, 1) := by decide +kernel
theorem dX9_next_54 : decode cX9_next 54 = .ok (.getfield 114, 3) := by decide +kernel
theorem dX9_next_57 : decode cX9_next 57 = .ok (.putfield 117, 3) := by decide +kernel
theorem dX9_next_60 : decode cX9_next 60 = .ok (.aload_n 0, 1) := by decide +kernel
theorem dX9_next_61 : decode cX9_next 61 = .ok (.iconst 0, 1) := by decide +kernel
theorem dX9_next_62 : decode cX9_next 62 = .ok (.putfield 120, 3) := by decide +kernel
theorem dX9_next_65 : decode cX9_next 65 = .ok (.aload_n 0, 1) := by decide +kernel
theorem dX9_next_66 : decode cX9_next 66 = .ok (.iconst 0, 1) := by decide +kernel
theorem dX9_next_67 : decode cX9_next 67 = .ok (.putfield 123, 3) := by decide +kernel
theorem dX9_next_70 : decode cX9_next 70 = .ok (.aload_n 0, 1) := by decide +kernel
theorem dX9_next_71 : decode cX9_next 71 = .ok (.getfield 114, 3) := by decide +kernel
theorem dX9_next_74 : decode cX9_next 74 = .ok (.aload_n 0, 1) := by decide +kernel
theorem dX9_next_75 : decode cX9_next 75 = .ok (.getfield 70, 3) := by decide +kernel
theorem dX9_next_78 : decode cX9_next 78 = .ok (.if_icmp .ne 4, 3) := by decide +kernel
theorem dX9_next_81 : decode cX9_next 81 = .ok (.return_, 1) := by decide +kernel
theorem dX9_next_82 : decode cX9_next 82 = .ok (.aload_n 0, 1) := by decide +kernel
theorem dX9_next_83 : decode cX9_next 83 = .ok (.getfield 25, 3) := by decide +kernel
theorem dX9_next_86 : decode cX9_next 86 = .ok (.aload_n 0, 1) := by decide +kernel
theorem dX9_next_87 : decode cX9_next 87 = .ok (.getfield 114, 3) := by decide +kernel
theorem dX9_next_90 : decode cX9_next 90 = .ok (.iaload, 1) := by decide +kernel
theorem dX9_next_91 : decode cX9_next 91 = .ok (.istore_n 1, 1) := by decide +kernel
theorem dX9_next_92 : decode cX9_next 92 = .ok (.iload_n 1, 1) := by decide +kernel
theorem dX9_next_93 : decode cX9_next 93 = .ok (.bipush 97, 2) := by decide +kernel
theorem dX9_next_95 : decode cX9_next 95 = .ok (.bipush 122, 2) := by decide +kernel
theorem dX9_next_97 : decode cX9_next 97 = .ok (.invokestatic 81, 3) := by decide +kernel
theorem dX9_next_100 : decode cX9_next 100 = .ok (.ifCond .eq 117, 3) := by decide +kernel
theorem dX9_next_103 : decode cX9_next 103 = .ok (.aload_n 0, 1) := by decide +kernel
theorem dX9_next_104 : decode cX9_next 104 = .ok (.getfield 114, 3) := by decide +kernel
theorem dX9_next_107 : decode cX9_next 107 = .ok (.aload_n 0, 1) := by decide +kernel
theorem dX9_next_108 : decode cX9_next 108 = .ok (.getfield 70, 3) := by decide +kernel
theorem dX9_next_111 : decode cX9_next 111 = .ok (.if_icmp .ge 35, 3) := by decide +kernel
theorem dX9_next_114 : decode cX9_next 114 = .ok (.aload_n 0, 1) := by decide +kernel
theorem dX9_next_115 : decode cX9_next 115 = .ok (.getfield 25, 3) := by decide +kernel
theorem dX9_next_118 : decode cX9_next 118 = .ok (.aload_n 0, 1) := by decide +kernel
theorem dX9_next_119 : decode cX9_next 119 = .ok (.getfield 114, 3) := by decide +kernel
theorem dX9_next_122 : decode cX9_next 122 = .ok (.iaload, 1) := by decide +kernel
theorem dX9_next_123 : decode cX9_next 123 = .ok (.bipush 97, 2) := by decide +kernel
theorem dX9_next_125 : decode cX9_next 125 = .ok (.bipush 122, 2) := by decide +kernel
theorem dX9_next_127 : decode cX9_next 127 = .ok (.invokestatic 81, 3) := by decide +kernel
theorem dX9_next_130 : decode cX9_next 130 = .ok (.ifCond .eq 16, 3) := by decide +kernel
theorem dX9_next_133 : decode cX9_next 133 = .ok (.aload_n 0, 1) := by decide +kernel
theorem dX9_next_134 : decode cX9_next 134 = .ok (.dup, 1) := by decide +kernel
theorem dX9_next_135 : decode cX9_next 135 = .ok (.getfield 114, 3) := by decide +kernel
theorem dX9_next_138 : decode cX9_next 138 = .ok (.iconst 1, 1) := by decide +kernel
theorem dX9_next_139 : decode cX9_next 139 = .ok (.iadd, 1) := by decide +kernel
theorem dX9_next_140 : decode cX9_next 140 = .ok (.putfield 114, 3) := by decide +kernel
theorem dX9_next_143 : decode cX9_next 143 = .ok (.goto (-40), 3) := by decide +kernel
theorem dX9_next_146 : decode cX9_next 146 = .ok (.aload_n 0, 1) := by decide +kernel
theorem dX9_next_147 : decode cX9_next 147 = .ok (.aload_n 0, 1) := by decide +kernel
theorem dX9_next_148 : decode cX9_next 148 = .ok (.getfield 117, 3) := by decide +kernel
theorem dX9_next_151 : decode cX9_next 151 = .ok (.aload_n 0, 1) := by decide +kernel
theorem dX9_next_152 : decode cX9_next 152 = .ok (.getfield 114, 3) := by decide +kernel
theorem dX9_next_155 : decode cX9_next 155 = .ok (.invokevirtual 126, 3) := by decide +kernel
theorem dX9_next_158 : decode cX9_next 158 = .ok (.istore_n 2, 1) := by decide +kernel
theorem dX9_next_159 : decode cX9_next 159 = .ok (.aload_n 0, 1) := by decide +kernel
theorem dX9_next_160 : decode cX9_next 160 = .ok (.iload_n 2, 1) := by decide +kernel
theorem dX9_next_161 : decode cX9_next 161 = .ok (.iconst 3, 1) := by decide +kernel
theorem dX9_next_162 : decode cX9_next 162 = .ok (.if_icmp .ge 7, 3) := by decide +kernel
theorem dX9_next_165 : decode cX9_next 165 = .ok (.iconst 3, 1) := by decide +kernel
theorem dX9_next_166 : decode cX9_next 166 = .ok (.goto 29, 3) := by decide +kernel
theorem dX9_next_169 : decode cX9_next 169 = .ok (.iload_n 2, 1) := by decide +kernel
theorem dX9_next_170 : decode cX9_next 170 = .ok (.bipush 9, 2) := by decide +kernel
theorem dX9_next_172 : decode cX9_next 172 = .ok (.if_icmp .ge 7, 3) := by decide +kernel
theorem dX9_next_175 : decode cX9_next 175 = .ok (.iconst 2, 1) := by decide +kernel
theorem dX9_next_176 : decode cX9_next 176 = .ok (.goto 19, 3) := by decide +kernel
theorem dX9_next_179 : decode cX9_next 179 = .ok (.iload_n 2, 1) := by decide +kernel
theorem dX9_next_180 : decode cX9_next 180 = .ok (.bipush 12, 2) := by decide +kernel
theorem dX9_next_182 : decode cX9_next 182 = .ok (.if_icmp .ne 7, 3) := by decide +kernel
theorem dX9_next_185 : decode cX9_next 185 = .ok (.iconst (-1), 1) := by decide +kernel
theorem dX9_next_186 : decode cX9_next 186 = .ok (.goto 9, 3) := by decide +kernel
theorem dX9_next_189 : decode cX9_next 189 = .ok (.iconst 4, 1) := by decide +kernel
theorem dX9_next_190 : decode cX9_next 190 = .ok (.iload_n 2, 1) := by decide +kernel
theorem dX9_next_191 : decode cX9_next 191 = .ok (.iadd, 1) := by decide +kernel
theorem dX9_next_192 : decode cX9_next 192 = .ok (.bipush 9, 2) := by decide +kernel
theorem dX9_next_194 : decode cX9_next 194 = .ok (.isub, 1) := by decide +kernel
theorem dX9_next_195 : decode cX9_next 195 = .ok (.putfield 120, 3) := by decide +kernel
theorem dX9_next_198 : decode cX9_next 198 = .ok (.aload_n 0, 1) := by decide +kernel
theorem dX9_next_199 : decode cX9_next 199 = .ok (.iload_n 2, 1) := by decide +kernel
theorem dX9_next_200 : decode cX9_next 200 = .ok (.iconst 3, 1) := by decide +kernel
theorem dX9_next_201 : decode cX9_next 201 = .ok (.if_icmp .ge 7, 3) := by decide +kernel
theorem dX9_next_204 : decode cX9_next 204 = .ok (.iload_n 2, 1) := by decide +kernel
theorem dX9_next_205 : decode cX9_next 205 = .ok (.goto 6, 3) := by decide +kernel
theorem dX9_next_208 : decode cX9_next 208 = .ok (.iload_n 2, 1) := by decide +kernel
theorem dX9_next_209 : decode cX9_next 209 = .ok (.iconst 3, 1) := by decide +kernel
theorem dX9_next_210 : decode cX9_next 210 = .ok (.isub, 1) := by decide +kernel
theorem dX9_next_211 : decode cX9_next 211 = .ok (.putfield 123, 3) := by decide +kernel
theorem dX9_next_214 : decode cX9_next 214 = .ok (.goto 189, 3) := by decide +kernel
theorem dX9_next_217 : decode cX9_next 217 = .ok (.iload_n 1, 1) := by decide +kernel
theorem dX9_next_218 : decode cX9_next 218 = .ok (.bipush 48, 2) := by decide +kernel
theorem dX9_next_220 : decode cX9_next 220 = .ok (.bipush 57, 2) := by decide +kernel
theorem dX9_next_222 : decode cX9_next 222 = .ok (.invokestatic 81, 3) := by decide +kernel
theorem dX9_next_225 : decode cX9_next 225 = .ok (.ifCond .eq 101, 3) := by decide +kernel
theorem dX9_next_228 : decode cX9_next 228 = .ok (.iconst 0, 1) := by decide +kernel
theorem dX9_next_229 : decode cX9_next 229 = .ok (.istore_n 2, 1) := by decide +kernel
theorem dX9_next_230 : decode cX9_next 230 = .ok (.aload_n 0, 1) := by decide +kernel
theorem dX9_next_231 : decode cX9_next 231 = .ok (.getfield 114, 3) := by decide +kernel
theorem dX9_next_234 : decode cX9_next 234 = .ok (.aload_n 0, 1) := by decide +kernel
theorem dX9_next_235 : decode cX9_next 235 = .ok (.getfield 70, 3) := by decide +kernel
theorem dX9_next_238 : decode cX9_next 238 = .ok (.if_icmp .ge 71, 3) := by decide +kernel
theorem dX9_next_241 : decode cX9_next 241 = .ok (.aload_n 0, 1) := by decide +kernel
theorem dX9_next_242 : decode cX9_next 242 = .ok (.getfield 25, 3) := by decide +kernel
theorem dX9_next_245 : decode cX9_next 245 = .ok (.aload_n 0, 1) := by decide +kernel
theorem dX9_next_246 : decode cX9_next 246 = .ok (.getfield 114, 3) := by decide +kernel
theorem dX9_next_249 : decode cX9_next 249 = .ok (.iaload, 1) := by decide +kernel
theorem dX9_next_250 : decode cX9_next 250 = .ok (.bipush 48, 2) := by decide +kernel
theorem dX9_next_252 : decode cX9_next 252 = .ok (.bipush 57, 2) := by decide +kernel
theorem dX9_next_254 : decode cX9_next 254 = .ok (.invokestatic 81, 3) := by decide +kernel
theorem dX9_next_257 : decode cX9_next 257 = .ok (.ifCond .eq 52, 3) := by decide +kernel
theorem dX9_next_260 : decode cX9_next 260 = .ok (.aload_n 0, 1) := by decide +kernel
theorem dX9_next_261 : decode cX9_next 261 = .ok (.iload_n 2, 1) := by decide +kernel
theorem dX9_next_262 : decode cX9_next 262 = .ok (.iconst 4, 1) := by decide +kernel
theorem dX9_next_263 : decode cX9_next 263 = .ok (.if_icmp .ge 26, 3) := by decide +kernel
theorem dX9_next_266 : decode cX9_next 266 = .ok (.bipush 10, 2) := by decide +kernel
theorem dX9_next_268 : decode cX9_next 268 = .ok (.aload_n 0, 1) := by decide +kernel
theorem dX9_next_269 : decode cX9_next 269 = .ok (.getfield 123, 3) := by decide +kernel
theorem dX9_next_272 : decode cX9_next 272 = .ok (.imul, 1) := by decide +kernel
theorem dX9_next_273 : decode cX9_next 273 = .ok (.aload_n 0, 1) := by decide +kernel
theorem dX9_next_274 : decode cX9_next 274 = .ok (.getfield 25, 3) := by decide +kernel
theorem dX9_next_277 : decode cX9_next 277 = .ok (.aload_n 0, 1) := by decide +kernel
theorem dX9_next_278 : decode cX9_next 278 = .ok (.getfield 114, 3) := by decide +kernel
theorem dX9_next_281 : decode cX9_next 281 = .ok (.iaload, 1) := by decide +kernel
theorem dX9_next_282 : decode cX9_next 282 = .ok (.iadd, 1) := by decide +kernel
theorem dX9_next_283 : decode cX9_next 283 = .ok (.bipush 48, 2) := by decide +kernel
theorem dX9_next_285 : decode cX9_next 285 = .ok (.isub, 1) := by decide +kernel
theorem dX9_next_286 : decode cX9_next 286 = .ok (.goto 4, 3) := by decide +kernel
theorem dX9_next_289 : decode cX9_next 289 = .ok (.iconst 0, 1) := by decide +kernel
theorem dX9_next_290 : decode cX9_next 290 = .ok (.putfield 123, 3) := by decide +kernel
theorem dX9_next_293 : decode cX9_next 293 = .ok (.iinc 2 1, 3) := by decide +kernel
theorem dX9_next_296 : decode cX9_next 296 = .ok (.aload_n 0, 1) := by decide +kernel
theorem dX9_next_297 : decode cX9_next 297 = .ok (.dup, 1) := by decide +kernel
theorem dX9_next_298 : decode cX9_next 298 = .ok (.getfield 114, 3) := by decide +kernel
theorem dX9_next_301 : decode cX9_next 301 = .ok (.iconst 1, 1) := by decide +kernel
theorem dX9_next_302 : decode cX9_next 302 = .ok (.iadd, 1) := by decide +kernel
theorem dX9_next_303 : decode cX9_next 303 = .ok (.putfield 114, 3) := by decide +kernel
theorem dX9_next_306 : decode cX9_next 306 = .ok (.goto (-76), 3) := by decide +kernel
theorem dX9_next_309 : decode cX9_next 309 = .ok (.aload_n 0, 1) := by decide +kernel
theorem dX9_next_310 : decode cX9_next 310 = .ok (.iload_n 2, 1) := by decide +kernel
theorem dX9_next_311 : decode cX9_next 311 = .ok (.iconst 4, 1) := by decide +kernel
theorem dX9_next_312 : decode cX9_next 312 = .ok (.if_icmp .le 7, 3) := by decide +kernel
theorem dX9_next_315 : decode cX9_next 315 = .ok (.iconst (-1), 1) := by decide +kernel
theorem dX9_next_316 : decode cX9_next 316 = .ok (.goto 4, 3) := by decide +kernel
theorem dX9_next_319 : decode cX9_next 319 = .ok (.iconst 1, 1) := by decide +kernel
theorem dX9_next_320 : decode cX9_next 320 = .ok (.putfield 120, 3) := by decide +kernel
theorem dX9_next_323 : decode cX9_next 323 = .ok (.goto 80, 3) := by decide +kernel
theorem dX9_next_326 : decode cX9_next 326 = .ok (.iload_n 1, 1) := by decide +kernel
theorem dX9_next_327 : decode cX9_next 327 = .ok (.bipush 40, 2) := by decide +kernel
theorem dX9_next_329 : decode cX9_next 329 = .ok (.if_icmp .eq 45, 3) := by decide +kernel
theorem dX9_next_332 : decode cX9_next 332 = .ok (.iload_n 1, 1) := by decide +kernel
theorem dX9_next_333 : decode cX9_next 333 = .ok (.bipush 41, 2) := by decide +kernel
theorem dX9_next_335 : decode cX9_next 335 = .ok (.if_icmp .eq 39, 3) := by decide +kernel
theorem dX9_next_338 : decode cX9_next 338 = .ok (.iload_n 1, 1) := by decide +kernel
theorem dX9_next_339 : decode cX9_next 339 = .ok (.bipush 59, 2) := by decide +kernel
theorem dX9_next_341 : decode cX9_next 341 = .ok (.if_icmp .eq 33, 3) := by decide +kernel
theorem dX9_next_344 : decode cX9_next 344 = .ok (.iload_n 1, 1) := by decide +kernel
