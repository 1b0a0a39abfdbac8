theorem dX5_init_0 : decode cX5_init 0 = .ok (.aload_n 0, 1) := by decide +kernel
theorem dX5_init_1 : decode cX5_init 1 = .ok (.invokespecial 1, 3) := by decide +kernel
theorem dX5_init_4 : decode cX5_init 4 = .ok (.aload_n 0, 1) := by decide +kernel
theorem dX5_init_5 : decode cX5_init 5 = .ok (.bipush 8, 2) := by decide +kernel
theorem dX5_init_7 : decode cX5_init 7 = .ok (.newarray .boolean, 2) := by decide +kernel
theorem dX5_init_9 : decode cX5_init 9 = .ok (.dup, 1) := by decide +kernel
theorem dX5_init_10 : decode cX5_init 10 = .ok (.iconst 0, 1) := by decide +kernel
theorem dX5_init_11 : decode cX5_init 11 = .ok (.iconst 1, 1) := by decide +kernel
theorem dX5_init_12 : decode cX5_init 12 = .ok (.bastore, 1) := by decide +kernel
theorem dX5_init_13 : decode cX5_init 13 = .ok (.dup, 1) := by decide +kernel
theorem dX5_init_14 : decode cX5_init 14 = .ok (.iconst 1, 1) := by decide +kernel
theorem dX5_init_15 : decode cX5_init 15 = .ok (.iconst 1, 1) := by decide +kernel
theorem dX5_init_16 : decode cX5_init 16 = .ok (.bastore, 1) := by decide +kernel
theorem dX5_init_17 : decode cX5_init 17 = .ok (.dup, 1) := by decide +kernel
theorem dX5_init_18 : decode cX5_init 18 = .ok (.iconst 2, 1) := by decide +kernel
theorem dX5_init_19 : decode cX5_init 19 = .ok (.iconst 1, 1) := by decide +kernel
theorem dX5_init_20 : decode cX5_init 20 = .ok (.bastore, 1) := by decide +kernel
theorem dX5_init_21 : decode cX5_init 21 = .ok (.dup, 1) := by decide +kernel
theorem dX5_init_22 : decode cX5_init 22 = .ok (.iconst 3, 1) := by decide +kernel
theorem dX5_init_23 : decode cX5_init 23 = .ok (.iconst 1, 1) := by decide +kernel
theorem dX5_init_24 : decode cX5_init 24 = .ok (.bastore, 1) := by decide +kernel
theorem dX5_init_25 : decode cX5_init 25 = .ok (.dup, 1) := by decide +kernel
theorem dX5_init_26 : decode cX5_init 26 = .ok (.iconst 4, 1) := by decide +kernel
theorem dX5_init_27 : decode cX5_init 27 = .ok (.iconst 1, 1) := by decide +kernel
theorem dX5_init_28 : decode cX5_init 28 = .ok (.bastore, 1) := by decide +kernel
theorem dX5_init_29 : decode cX5_init 29 = .ok (.dup, 1) := by decide +kernel
theorem dX5_init_30 : decode cX5_init 30 = .ok (.iconst 5, 1) := by decide +kernel
theorem dX5_init_31 : decode cX5_init 31 = .ok (.iconst 1, 1) := by decide +kernel
theorem dX5_init_32 : decode cX5_init 32 = .ok (.bastore, 1) := by decide +kernel
theorem dX5_init_33 : decode cX5_init 33 = .ok (.dup, 1) := by decide +kernel
theorem dX5_init_34 : decode cX5_init 34 = .ok (.bipush 6, 2) := by decide +kernel
theorem dX5_init_36 : decode cX5_init 36 = .ok (.iconst 1, 1) := by decide +kernel
theorem dX5_init_37 : decode cX5_init 37 = .ok (.bastore, 1) := by decide +kernel
theorem dX5_init_38 : decode cX5_init 38 = .ok (.dup, 1) := by decide +kernel
theorem dX5_init_39 : decode cX5_init 39 = .ok (.bipush 7, 2) := by decide +kernel
theorem dX5_init_41 : decode cX5_init 41 = .ok (.iconst 1, 1) := by decide +kernel
theorem dX5_init_42 : decode cX5_init 42 = .ok (.bastore, 1) := by decide +kernel
theorem dX5_init_43 : decode cX5_init 43 = .ok (.putfield 7, 3) := by decide +kernel
theorem dX5_init_46 : decode cX5_init 46 = .ok (.aload_n 0, 1) := by decide +kernel
theorem dX5_init_47 : decode cX5_init 47 = .ok (.sipush 512, 3) := by decide +kernel
theorem dX5_init_50 : decode cX5_init 50 = .ok (.newarray .boolean, 2) := by decide +kernel
theorem dX5_init_52 : decode cX5_init 52 = .ok (.putfield 13, 3) := by decide +kernel
theorem dX5_init_55 : decode cX5_init 55 = .ok (.aload_n 0, 1) := by decide +kernel
theorem dX5_init_56 : decode cX5_init 56 = .ok (.sipush 512, 3) := by decide +kernel
theorem dX5_init_59 : decode cX5_init 59 = .ok (.newarray .long, 2) := by decide +kernel
theorem dX5_init_61 : decode cX5_init 61 = .ok (.putfield 16, 3) := by decide +kernel
theorem dX5_init_64 : decode cX5_init 64 = .ok (.aload_n 0, 1) := by decide +kernel
theorem dX5_init_65 : decode cX5_init 65 = .ok (.sipush 512, 3) := by decide +kernel
theorem dX5_init_68 : decode cX5_init 68 = .ok (.newarray .boolean, 2) := by decide +kernel
theorem dX5_init_70 : decode cX5_init 70 = .ok (.putfield 20, 3) := by decide +kernel
theorem dX5_init_73 : decode cX5_init 73 = .ok (.aload_n 0, 1) := by decide +kernel
theorem dX5_init_74 : decode cX5_init 74 = .ok (.sipush 512, 3) := by decide +kernel
theorem dX5_init_77 : decode cX5_init 77 = .ok (.newarray .long, 2) := by decide +kernel
theorem dX5_init_79 : decode cX5_init 79 = .ok (.putfield 23, 3) := by decide +kernel
theorem dX5_init_82 : decode cX5_init 82 = .ok (.aload_n 0, 1) := by decide +kernel
theorem dX5_init_83 : decode cX5_init 83 = .ok (.iconst 2, 1) := by decide +kernel
theorem dX5_init_84 : decode cX5_init 84 = .ok (.newarray .boolean, 2) := by decide +kernel
theorem dX5_init_86 : decode cX5_init 86 = .ok (.putfield 26, 3) := by decide +kernel
theorem dX5_init_89 : decode cX5_init 89 = .ok (.aload_n 0, 1) := by decide +kernel
theorem dX5_init_90 : decode cX5_init 90 = .ok (.sipush 4096, 3) := by decide +kernel
theorem dX5_init_93 : decode cX5_init 93 = .ok (.newarray .int, 2) := by decide +kernel
theorem dX5_init_95 : decode cX5_init 95 = .ok (.putfield 29, 3) := by decide +kernel
theorem dX5_init_98 : decode cX5_init 98 = .ok (.aload_n 0, 1) := by decide +kernel
theorem dX5_init_99 : decode cX5_init 99 = .ok (.sipush 128, 3) := by decide +kernel
theorem dX5_init_102 : decode cX5_init 102 = .ok (.newarray .int, 2) := by decide +kernel
theorem dX5_init_104 : decode cX5_init 104 = .ok (.putfield 33, 3) := by decide +kernel
theorem dX5_init_107 : decode cX5_init 107 = .ok (.aload_n 0, 1) := by decide +kernel
theorem dX5_init_108 : decode cX5_init 108 = .ok (.bipush 64, 2) := by decide +kernel
theorem dX5_init_110 : decode cX5_init 110 = .ok (.newarray .int, 2) := by decide +kernel
theorem dX5_init_112 : decode cX5_init 112 = .ok (.dup, 1) := by decide +kernel
theorem dX5_init_113 : decode cX5_init 113 = .ok (.iconst 0, 1) := by decide +kernel
theorem dX5_init_114 : decode cX5_init 114 = .ok (.ldc 36, 2) := by decide +kernel
theorem dX5_init_116 : decode cX5_init 116 = .ok (.iastore, 1) := by decide +kernel
theorem dX5_init_117 : decode cX5_init 117 = .ok (.dup, 1) := by decide +kernel
theorem dX5_init_118 : decode cX5_init 118 = .ok (.iconst 1, 1) := by decide +kernel
theorem dX5_init_119 : decode cX5_init 119 = .ok (.ldc 37, 2) := by decide +kernel
theorem dX5_init_121 : decode cX5_init 121 = .ok (.iastore, 1) := by decide +kernel
theorem dX5_init_122 : decode cX5_init 122 = .ok (.dup, 1) := by decide +kernel
theorem dX5_init_123 : decode cX5_init 123 = .ok (.iconst 2, 1) := by decide +kernel
theorem dX5_init_124 : decode cX5_init 124 = .ok (.ldc 38, 2) := by decide +kernel
theorem dX5_init_126 : decode cX5_init 126 = .ok (.iastore, 1) := by decide +kernel
theorem dX5_init_127 : decode cX5_init 127 = .ok (.dup, 1) := by decide +kernel
theorem dX5_init_128 : decode cX5_init 128 = .ok (.iconst 3, 1) := by decide +kernel
theorem dX5_init_129 : decode cX5_init 129 = .ok (.ldc 39, 2) := by decide +kernel
theorem dX5_init_131 : decode cX5_init 131 = .ok (.iastore, 1) := by decide +kernel
theorem dX5_init_132 : decode cX5_init 132 = .ok (.dup, 1) := by decide +kernel
theorem dX5_init_133 : decode cX5_init 133 = .ok (.iconst 4, 1) := by decide +kernel
theorem dX5_init_134 : decode cX5_init 134 = .ok (.ldc 40, 2) := by decide +kernel
theorem dX5_init_136 : decode cX5_init 136 = .ok (.iastore, 1) := by decide +kernel
theorem dX5_init_137 : decode cX5_init 137 = .ok (.dup, 1) := by decide +kernel
theorem dX5_init_138 : decode cX5_init 138 = .ok (.iconst 5, 1) := by decide +kernel
theorem dX5_init_139 : decode cX5_init 139 = .ok (.ldc 41, 2) := by decide +kernel
theorem dX5_init_141 : decode cX5_init 141 = .ok (.iastore, 1) := by decide +kernel
theorem dX5_init_142 : decode cX5_init 142 = .ok (.dup, 1) := by decide +kernel
theorem dX5_init_143 : decode cX5_init 143 = .ok (.bipush 6, 2) := by decide +kernel
theorem dX5_init_145 : decode cX5_init 145 = .ok (.ldc 42, 2) := by decide +kernel
theorem dX5_init_147 : decode cX5_init 147 = .ok (.iastore, 1) := by decide +kernel
theorem dX5_init_148 : decode cX5_init 148 = .ok (.dup, 1) := by decide +kernel
theorem dX5_init_149 : decode cX5_init 149 = .ok (.bipush 7, 2) := by decide +kernel
theorem dX5_init_151 : decode cX5_init 151 = .ok (.ldc 43, 2) := by decide +kernel
theorem dX5_init_153 : decode cX5_init 153 = .ok (.iastore, 1) := by decide +kernel
theorem dX5_init_154 : decode cX5_init 154 = .ok (.dup, 1) := by decide +kernel
theorem dX5_init_155 : decode cX5_init 155 = .ok (.bipush 8, 2) := by decide +kernel
theorem dX5_init_157 : decode cX5_init 157 = .ok (.ldc 44, 2) := by decide +kernel
theorem dX5_init_159 : decode cX5_init 159 = .ok (.iastore, 1) := by decide +kernel
theorem dX5_init_160 : decode cX5_init 160 = .ok (.dup, 1) := by decide +kernel
theorem dX5_init_161 : decode cX5_init 161 = .ok (.bipush 9, 2) := by decide +kernel
theorem dX5_init_163 : decode cX5_init 163 = .ok (.ldc 45, 2) := by decide +kernel
theorem dX5_init_165 : decode cX5_init 165 = .ok (.iastore, 1) := by decide +kernel
theorem dX5_init_166 : decode cX5_init 166 = .ok (.dup, 1) := by decide +kernel
theorem dX5_init_167 : decode cX5_init 167 = .ok (.bipush 10, 2) := by decide +kernel
theorem dX5_init_169 : decode cX5_init 169 = .ok (.ldc 46, 2) := by decide +kernel
theorem dX5_init_171 : decode cX5_init 171 = .ok (.iastore, 1) := by decide +kernel
theorem dX5_init_172 : decode cX5_init 172 = .ok (.dup, 1) := by decide +kernel
theorem dX5_init_173 : decode cX5_init 173 = .ok (.bipush 11, 2) := by decide +kernel
theorem dX5_init_175 : decode cX5_init 175 = .ok (.ldc 47, 2) := by decide +kernel
theorem dX5_init_177 : decode cX5_init 177 = .ok (.iastore, 1) := by decide +kernel
theorem dX5_init_178 : decode cX5_init 178 = .ok (.dup, 1) := by decide +kernel
theorem dX5_init_179 : decode cX5_init 179 = .ok (.bipush 12, 2) := by decide +kernel
theorem dX5_init_181 : decode cX5_init 181 = .ok (.ldc 48, 2) := by decide +kernel
theorem dX5_init_183 : decode cX5_init 183 = .ok (.iastore, 1) := by decide +kernel
theorem dX5_init_184 : decode cX5_init 184 = .ok (.dup, 1) := by decide +kernel
theorem dX5_init_185 : decode cX5_init 185 = .ok (.bipush 13, 2) := by decide +kernel
theorem dX5_init_187 : decode cX5_init 187 = .ok (.ldc 49, 2) := by decide +kernel
theorem dX5_init_189 : decode cX5_init 189 = .ok (.iastore, 1) := by decide +kernel
theorem dX5_init_190 : decode cX5_init 190 = .ok (.dup, 1) := by decide +kernel
theorem dX5_init_191 : decode cX5_init 191 = .ok (.bipush 14, 2) := by decide +kernel
theorem dX5_init_193 : decode cX5_init 193 = .ok (.ldc 50, 2) := by decide +kernel
theorem dX5_init_195 : decode cX5_init 195 = .ok (.iastore, 1) := by decide +kernel
theorem dX5_init_196 : decode cX5_init 196 = .ok (.dup, 1) := by decide +kernel
theorem dX5_init_197 : decode cX5_init 197 = .ok (.bipush 15, 2) := by decide +kernel
theorem dX5_init_199 : decode cX5_init 199 = .ok (.ldc 51, 2) := by decide +kernel
theorem dX5_init_201 : decode cX5_init 201 = .ok (.iastore, 1) := by decide +kernel
theorem dX5_init_202 : decode cX5_init 202 = .ok (.dup, 1) := by decide +kernel
theorem dX5_init_203 : decode cX5_init 203 = .ok (.bipush 16, 2) := by decide +kernel
theorem dX5_init_205 : decode cX5_init 205 = .ok (.ldc 52, 2) := by decide +kernel
theorem dX5_init_207 : decode cX5_init 207 = .ok (.iastore, 1) := by decide +kernel
theorem dX5_init_208 : decode cX5_init 208 = .ok (.dup, 1) := by decide +kernel
theorem dX5_init_209 : decode cX5_init 209 = .ok (.bipush 17, 2) := by decide +kernel
theorem dX5_init_211 : decode cX5_init 211 = .ok (.ldc 53, 2) := by decide +kernel
theorem dX5_init_213 : decode cX5_init 213 = .ok (.iastore, 1) := by decide +kernel
theorem dX5_init_214 : decode cX5_init 214 = .ok (.dup, 1) := by decide +kernel
theorem dX5_init_215 : decode cX5_init 215 = .ok (.bipush 18, 2) := by decide +kernel
theorem dX5_init_217 : decode cX5_init 217 = .ok (.ldc 54, 2) := by decide +kernel
theorem dX5_init_219 : decode cX5_init 219 = .ok (.iastore, 1) := by decide +kernel
theorem dX5_init_220 : decode cX5_init 220 = .ok (.dup, 1) := by decide +kernel
theorem dX5_init_221 : decode cX5_init 221 = .ok (.bipush 19, 2) := by decide +kernel
theorem dX5_init_223 : decode cX5_init 223 = .ok (.ldc 55, 2) := by decide +kernel
theorem dX5_init_225 : decode cX5_init 225 = .ok (.iastore, 1) := by decide +kernel
theorem dX5_init_226 : decode cX5_init 226 = .ok (.dup, 1) := by decide +kernel
theorem dX5_init_227 : decode cX5_init 227 = .ok (.bipush 20, 2) := by decide +kernel
theorem dX5_init_229 : decode cX5_init 229 = .ok (.ldc 56, 2) := by decide +kernel
theorem dX5_init_231 : decode cX5_init 231 = .ok (.iastore, 1) := by decide +kernel
theorem dX5_init_232 : decode cX5_init 232 = .ok (.dup, 1) := by decide +kernel
theorem dX5_init_233 : decode cX5_init 233 = .ok (.bipush 21, 2) := by decide +kernel
theorem dX5_init_235 : decode cX5_init 235 = .ok (.ldc 57, 2) := by decide +kernel
theorem dX5_init_237 : decode cX5_init 237 = .ok (.iastore, 1) := by decide +kernel
theorem dX5_init_238 : decode cX5_init 238 = .ok (.dup, 1) := by decide +kernel
theorem dX5_init_239 : decode cX5_init 239 = .ok (.bipush 22, 2) := by decide +kernel
theorem dX5_init_241 : decode cX5_init 241 = .ok (.ldc 58, 2) := by decide +kernel
theorem dX5_init_243 : decode cX5_init 243 = .ok (.iastore, 1) := by decide +kernel
theorem dX5_init_244 : decode cX5_init 244 = .ok (.dup, 1) := by decide +kernel
theorem dX5_init_245 : decode cX5_init 245 = .ok (.bipush 23, 2) := by decide +kernel
theorem dX5_init_247 : decode cX5_init 247 = .ok (.ldc 59, 2) := by decide +kernel
theorem dX5_init_249 : decode cX5_init 249 = .ok (.iastore, 1) := by decide +kernel
theorem dX5_init_250 : decode cX5_init 250 = .ok (.dup, 1) := by decide +kernel
theorem dX5_init_251 : decode cX5_init 251 = .ok (.bipush 24, 2) := by decide +kernel
theorem dX5_init_253 : decode cX5_init 253 = .ok (.ldc 60, 2) := by decide +kernel
theorem dX5_init_255 : decode cX5_init 255 = .ok (.iastore, 1) := by decide +kernel
theorem dX5_init_256 : decode cX5_init 256 = .ok (.dup, 1) := by decide +kernel
theorem dX5_init_257 : decode cX5_init 257 = .ok (.bipush 25, 2) := by decide +kernel
theorem dX5_init_259 : decode cX5_init 259 = .ok (.ldc 61, 2) := by decide +kernel
theorem dX5_init_261 : decode cX5_init 261 = .ok (.iastore, 1) := by decide +kernel
theorem dX5_init_262 : decode cX5_init 262 = .ok (.dup, 1) := by decide +kernel
theorem dX5_init_263 : decode cX5_init 263 = .ok (.bipush 26, 2) := by decide +kernel
theorem dX5_init_265 : decode cX5_init 265 = .ok (.ldc 62, 2) := by decide +kernel
theorem dX5_init_267 : decode cX5_init 267 = .ok (.iastore, 1) := by decide +kernel
theorem dX5_init_268 : decode cX5_init 268 = .ok (.dup, 1) := by decide +kernel
theorem dX5_init_269 : decode cX5_init 269 = .ok (.bipush 27, 2) := by decide +kernel
theorem dX5_init_271 : decode cX5_init 271 = .ok (.ldc 63, 2) := by decide +kernel
theorem dX5_init_273 : decode cX5_init 273 = .ok (.iastore, 1) := by decide +kernel
theorem dX5_init_274 : decode cX5_init 274 = .ok (.dup, 1) := by decide +kernel
theorem dX5_init_275 : decode cX5_init 275 = .ok (.bipush 28, 2) := by decide +kernel
theorem dX5_init_277 : decode cX5_init 277 = .ok (.ldc 64, 2) := by decide +kernel
theorem dX5_init_279 : decode cX5_init 279 = .ok (.iastore, 1) := by decide +kernel
theorem dX5_init_280 : decode cX5_init 280 = .ok (.dup, 1) := by decide +kernel
theorem dX5_init_281 : decode cX5_init 281 = .ok (.bipush 29, 2) := by decide +kernel
theorem dX5_init_283 : decode cX5_init 283 = .ok (.ldc 65, 2) := by decide +kernel
theorem dX5_init_285 : decode cX5_init 285 = .ok (.iastore, 1) := by decide +kernel
theorem dX5_init_286 : decode cX5_init 286 = .ok (.dup, 1) := by decide +kernel
theorem dX5_init_287 : decode cX5_init 287 = .ok (.bipush 30, 2) := by decide +kernel
theorem dX5_init_289 : decode cX5_init 289 = .ok (.ldc 66, 2) := by decide +kernel
theorem dX5_init_291 : decode cX5_init 291 = .ok (.iastore, 1) := by decide +kernel
theorem dX5_init_292 : decode cX5_init 292 = .ok (.dup, 1) := by decide +kernel
theorem dX5_init_293 : decode cX5_init 293 = .ok (.bipush 31, 2) := by decide +kernel
theorem dX5_init_295 : decode cX5_init 295 = .ok (.ldc 67, 2) := by decide +kernel
theorem dX5_init_297 : decode cX5_init 297 = .ok (.iastore, 1) := by decide +kernel
theorem dX5_init_298 : decode cX5_init 298 = .ok (.dup, 1) := by decide +kernel
theorem dX5_init_299 : decode cX5_init 299 = .ok (.bipush 32, 2) := by decide +kernel
theorem dX5_init_301 : decode cX5_init 301 = .ok (.ldc 68, 2) := by decide +kernel
theorem dX5_init_303 : decode cX5_init 303 = .ok (.iastore, 1) := by decide +kernel
theorem dX5_init_304 : decode cX5_init 304 = .ok (.dup, 1) := by decide +kernel
theorem dX5_init_305 : decode cX5_init 305 = .ok (.bipush 33, 2) := by decide +kernel
theorem dX5_init_307 : decode cX5_init 307 = .ok (.ldc 69, 2) := by decide +kernel
theorem dX5_init_309 : decode cX5_init 309 = .ok (.iastore, 1) := by decide +kernel
theorem dX5_init_310 : decode cX5_init 310 = .ok (.dup, 1) := by decide +kernel
theorem dX5_init_311 : decode cX5_init 311 = .ok (.bipush 34, 2) := by decide +kernel
theorem dX5_init_313 : decode cX5_init 313 = .ok (.ldc 70, 2) := by decide +kernel
theorem dX5_init_315 : decode cX5_init 315 = .ok (.iastore, 1) := by decide +kernel
theorem dX5_init_316 : decode cX5_init 316 = .ok (.dup, 1) := by decide +kernel
theorem dX5_init_317 : decode cX5_init 317 = .ok (.bipush 35, 2) := by decide +kernel
theorem dX5_init_319 : decode cX5_init 319 = .ok (.ldc 71, 2) := by decide +kernel
theorem dX5_init_321 : decode cX5_init 321 = .ok (.iastore, 1) := by decide +kernel
theorem dX5_init_322 : decode cX5_init 322 = .ok (.dup, 1) := by decide +kernel
theorem dX5_init_323 : decode cX5_init 323 = .ok (.bipush 36, 2) := by decide +kernel
theorem dX5_init_325 : decode cX5_init 325 = .ok (.ldc 72, 2) := by decide +kernel
theorem dX5_init_327 : decode cX5_init 327 = .ok (.iastore, 1) := by decide +kernel
theorem dX5_init_328 : decode cX5_init 328 = .ok (.dup, 1) := by decide +kernel
theorem dX5_init_329 : decode cX5_init 329 = .ok (.bipush 37, 2) := by decide +kernel
theorem dX5_init_331 : decode cX5_init 331 = .ok (.ldc 73, 2) := by decide +kernel
theorem dX5_init_333 : decode cX5_init 333 = .ok (.iastore, 1) := by decide +kernel
theorem dX5_init_334 : decode cX5_init 334 = .ok (.dup, 1) := by decide +kernel
theorem dX5_init_335 : decode cX5_init 335 = .ok (.bipush 38, 2) := by decide +kernel
theorem dX5_init_337 : decode cX5_init 337 = .ok (.ldc 74, 2) := by decide +kernel
theorem dX5_init_339 : decode cX5_init 339 = .ok (.iastore, 1) := by decide +kernel
theorem dX5_init_340 : decode cX5_init 340 = .ok (.dup, 1) := by decide +kernel
theorem dX5_init_341 : decode cX5_init 341 = .ok (.bipush 39, 2) := by decide +kernel
theorem dX5_init_343 : decode cX5_init 343 = .ok (.ldc 75, 2) := by decide +kernel
theorem dX5_init_345 : decode cX5_init 345 = .ok (.iastore, 1) := by decide +kernel
theorem dX5_init_346 : decode cX5_init 346 = .ok (.dup, 1) := by decide +kernel
theorem dX5_init_347 : decode cX5_init 347 = .ok (.bipush 40, 2) := by decide +kernel
theorem dX5_init_349 : decode cX5_init 349 = .ok (.ldc 76, 2) := by decide +kernel
theorem dX5_init_351 : decode cX5_init 351 = .ok (.iastore, 1) := by decide +kernel
theorem dX5_init_352 : decode cX5_init 352 = .ok (.dup, 1) := by decide +kernel
theorem dX5_init_353 : decode cX5_init 353 = .ok (.bipush 41, 2) := by decide +kernel
theorem dX5_init_355 : decode cX5_init 355 = .ok (.ldc 77, 2) := by decide +kernel
theorem dX5_init_357 : decode cX5_init 357 = .ok (.iastore, 1) := by decide +kernel
theorem dX5_init_358 : decode cX5_init 358 = .ok (.dup, 1) := by decide +kernel
theorem dX5_init_359 : decode cX5_init 359 = .ok (.bipush 42, 2) := by decide +kernel
theorem dX5_init_361 : decode cX5_init 361 = .ok (.ldc 78, 2) := by decide +kernel
theorem dX5_init_363 : decode cX5_init 363 = .ok (.iastore, 1) := by decide +kernel
theorem dX5_init_364 : decode cX5_init 364 = .ok (.dup, 1) := by decide +kernel
theorem dX5_init_365 : decode cX5_init 365 = .ok (.bipush 43, 2) := by decide +kernel
theorem dX5_init_367 : decode cX5_init 367 = .ok (.ldc 79, 2) := by decide +kernel
theorem dX5_init_369 : decode cX5_init 369 = .ok (.iastore, 1) := by decide +kernel
theorem dX5_init_370 : decode cX5_init 370 = .ok (.dup, 1) := by decide +kernel
theorem dX5_init_371 : decode cX5_init 371 = .ok (.bipush 44, 2) := by decide +kernel
theorem dX5_init_373 : decode cX5_init 373 = .ok (.ldc 80, 2) := by decide +kernel
theorem dX5_init_375 : decode cX5_init 375 = .ok (.iastore, 1) := by decide +kernel
theorem dX5_init_376 : decode cX5_init 376 = .ok (.dup, 1) := by decide +kernel
theorem dX5_init_377 : decode cX5_init 377 = .ok (.bipush 45, 2) := by decide +kernel
theorem dX5_init_379 : decode cX5_init 379 = .ok (.ldc 81, 2) := by decide +kernel
theorem dX5_init_381 : decode cX5_init 381 = .ok (.iastore, 1) := by decide +kernel
theorem dX5_init_382 : decode cX5_init 382 = .ok (.dup, 1) := by decide +kernel
theorem dX5_init_383 : decode cX5_init 383 = .ok (.bipush 46, 2) := by decide +kernel
theorem dX5_init_385 : decode cX5_init 385 = .ok (.ldc 82, 2) := by decide +kernel
theorem dX5_init_387 : decode cX5_init 387 = .ok (.iastore, 1) := by decide +kernel
theorem dX5_init_388 : decode cX5_init 388 = .ok (.dup, 1) := by decide +kernel
theorem dX5_init_389 : decode cX5_init 389 = .ok (.bipush 47, 2) := by decide +kernel
theorem dX5_init_391 : decode cX5_init 391 = .ok (.ldc 83, 2) := by decide +kernel
theorem dX5_init_393 : decode cX5_init 393 = .ok (.iastore, 1) := by decide +kernel
theorem dX5_init_394 : decode cX5_init 394 = .ok (.dup, 1) := by decide +kernel
theorem dX5_init_395 : decode cX5_init 395 = .ok (.bipush 48, 2) := by decide +kernel
theorem dX5_init_397 : decode cX5_init 397 = .ok (.ldc 84, 2) := by decide +kernel
theorem dX5_init_399 : decode cX5_init 399 = .ok (.iastore, 1) := by decide +kernel
theorem dX5_init_400 : decode cX5_init 400 = .ok (.dup, 1) := by decide +kernel
theorem dX5_init_401 : decode cX5_init 401 = .ok (.bipush 49, 2) := by decide +kernel
theorem dX5_init_403 : decode cX5_init 403 = .ok (.ldc 85, 2) := by decide +kernel
theorem dX5_init_405 : decode cX5_init 405 = .ok (.iastore, 1) := by decide +kernel
theorem dX5_init_406 : decode cX5_init 406 = .ok (.dup, 1) := by decide +kernel
theorem dX5_init_407 : decode cX5_init 407 = .ok (.bipush 50, 2) := by decide +kernel
theorem dX5_init_409 : decode cX5_init 409 = .ok (.ldc 86, 2) := by decide +kernel
theorem dX5_init_411 : decode cX5_init 411 = .ok (.iastore, 1) := by decide +kernel
theorem dX5_init_412 : decode cX5_init 412 = .ok (.dup, 1) := by decide +kernel
theorem dX5_init_413 : decode cX5_init 413 = .ok (.bipush 51, 2) := by decide +kernel
theorem dX5_init_415 : decode cX5_init 415 = .ok (.ldc 87, 2) := by decide +kernel
theorem dX5_init_417 : decode cX5_init 417 = .ok (.iastore, 1) := by decide +kernel
theorem dX5_init_418 : decode cX5_init 418 = .ok (.dup, 1) := by decide +kernel
theorem dX5_init_419 : decode cX5_init 419 = .ok (.bipush 52, 2) := by decide +kernel
theorem dX5_init_421 : decode cX5_init 421 = .ok (.ldc 88, 2) := by decide +kernel
theorem dX5_init_423 : decode cX5_init 423 = .ok (.iastore, 1) := by decide +kernel
theorem dX5_init_424 : decode cX5_init 424 = .ok (.dup, 1) := by decide +kernel
theorem dX5_init_425 : decode cX5_init 425 = .ok (.bipush 53, 2) := by decide +kernel
theorem dX5_init_427 : decode cX5_init 427 = .ok (.ldc 89, 2) := by decide +kernel
theorem dX5_init_429 : decode cX5_init 429 = .ok (.iastore, 1) := by decide +kernel
theorem dX5_init_430 : decode cX5_init 430 = .ok (.dup, 1) := by decide +kernel
theorem dX5_init_431 : decode cX5_init 431 = .ok (.bipush 54, 2) := by decide +kernel
theorem dX5_init_433 : decode cX5_init 433 = .ok (.ldc 90, 2) := by decide +kernel
theorem dX5_init_435 : decode cX5_init 435 = .ok (.iastore, 1) := by decide +kernel
theorem dX5_init_436 : decode cX5_init 436 = .ok (.dup, 1) := by decide +kernel
theorem dX5_init_437 : decode cX5_init 437 = .ok (.bipush 55, 2) := by decide +kernel
theorem dX5_init_439 : decode cX5_init 439 = .ok (.ldc 91, 2) := by decide +kernel
theorem dX5_init_441 : decode cX5_init 441 = .ok (.iastore, 1) := by decide +kernel
theorem dX5_init_442 : decode cX5_init 442 = .ok (.dup, 1) := by decide +kernel
theorem dX5_init_443 : decode cX5_init 443 = .ok (.bipush 56, 2) := by decide +kernel
theorem dX5_init_445 : decode cX5_init 445 = .ok (.ldc 92, 2) := by decide +kernel
theorem dX5_init_447 : decode cX5_init 447 = .ok (.iastore, 1) := by decide +kernel
theorem dX5_init_448 : decode cX5_init 448 = .ok (.dup, 1) := by decide +kernel
theorem dX5_init_449 : decode cX5_init 449 = .ok (.bipush 57, 2) := by decide +kernel
theorem dX5_init_451 : decode cX5_init 451 = .ok (.ldc 93, 2) := by decide +kernel
theorem dX5_init_453 : decode cX5_init 453 = .ok (.iastore, 1) := by decide +kernel
theorem dX5_init_454 : decode cX5_init 454 = .ok (.dup, 1) := by decide +kernel
theorem dX5_init_455 : decode cX5_init 455 = .ok (.bipush 58, 2) := by decide +kernel
theorem dX5_init_457 : decode cX5_init 457 = .ok (.ldc 94, 2) := by decide +kernel
theorem dX5_init_459 : decode cX5_init 459 = .ok (.iastore, 1) := by decide +kernel
theorem dX5_init_460 : decode cX5_init 460 = .ok (.dup, 1) := by decide +kernel
theorem dX5_init_461 : decode cX5_init 461 = .ok (.bipush 59, 2) := by decide +kernel
theorem dX5_init_463 : decode cX5_init 463 = .ok (.ldc 95, 2) := by decide +kernel
theorem dX5_init_465 : decode cX5_init 465 = .ok (.iastore, 1) := by decide +kernel
theorem dX5_init_466 : decode cX5_init 466 = .ok (.dup, 1) := by decide +kernel
theorem dX5_init_467 : decode cX5_init 467 = .ok (.bipush 60, 2) := by decide +kernel
theorem dX5_init_469 : decode cX5_init 469 = .ok (.ldc 96, 2) := by decide +kernel
theorem dX5_init_471 : decode cX5_init 471 = .ok (.iastore, 1) := by decide +kernel
theorem dX5_init_472 : decode cX5_init 472 = .ok (.dup, 1) := by decide +kernel
theorem dX5_init_473 : decode cX5_init 473 = .ok (.bipush 61, 2) := by decide +kernel
theorem dX5_init_475 : decode cX5_init 475 = .ok (.ldc 97, 2) := by decide +kernel
theorem dX5_init_477 : decode cX5_init 477 = .ok (.iastore, 1) := by decide +kernel
theorem dX5_init_478 : decode cX5_init 478 = .ok (.dup, 1) := by decide +kernel
theorem dX5_init_479 : decode cX5_init 479 = .ok (.bipush 62, 2) := by decide +kernel
theorem dX5_init_481 : decode cX5_init 481 = .ok (.ldc 98, 2) := by decide +kernel
theorem dX5_init_483 : decode cX5_init 483 = .ok (.iastore, 1) := by decide +kernel
theorem dX5_init_484 : decode cX5_init 484 = .ok (.dup, 1) := by decide +kernel
theorem dX5_init_485 : decode cX5_init 485 = .ok (.bipush 63, 2) := by decide +kernel
theorem dX5_init_487 : decode cX5_init 487 = .ok (.ldc 99, 2) := by decide +kernel
theorem dX5_init_489 : decode cX5_init 489 = .ok (.iastore, 1) := by decide +kernel
theorem dX5_init_490 : decode cX5_init 490 = .ok (.putfield 100, 3) := by decide +kernel
theorem dX5_init_493 : decode cX5_init 493 = .ok (.aload_n 0, 1) := by decide +kernel
theorem dX5_init_494 : decode cX5_init 494 = .ok (.bipush 64, 2) := by decide +kernel
theorem dX5_init_496 : decode cX5_init 496 = .ok (.newarray .int, 2) := by decide +kernel
theorem dX5_init_498 : decode cX5_init 498 = .ok (.putfield 103, 3) := by decide +kernel
theorem dX5_init_501 : decode cX5_init 501 = .ok (.aload_n 0, 1) := by decide +kernel
theorem dX5_init_502 : decode cX5_init 502 = .ok (.bipush 64, 2) := by decide +kernel
theorem dX5_init_504 : decode cX5_init 504 = .ok (.newarray .int, 2) := by decide +kernel
theorem dX5_init_506 : decode cX5_init 506 = .ok (.putfield 106, 3) := by decide +kernel
theorem dX5_init_509 : decode cX5_init 509 = .ok (.aload_n 0, 1) := by decide +kernel
theorem dX5_init_510 : decode cX5_init 510 = .ok (.sipush 768, 3) := by decide +kernel
theorem dX5_init_513 : decode cX5_init 513 = .ok (.newarray .int, 2) := by decide +kernel
theorem dX5_init_515 : decode cX5_init 515 = .ok (.putfield 109, 3) := by decide +kernel
theorem dX5_init_518 : decode cX5_init 518 = .ok (.aload_n 0, 1) := by decide +kernel
theorem dX5_init_519 : decode cX5_init 519 = .ok (.bipush 63, 2) := by decide +kernel
theorem dX5_init_521 : decode cX5_init 521 = .ok (.newarray .int, 2) := by decide +kernel
theorem dX5_init_523 : decode cX5_init 523 = .ok (.putfield 112, 3) := by decide +kernel
theorem dX5_init_526 : decode cX5_init 526 = .ok (.aload_n 0, 1) := by decide +kernel
theorem dX5_init_527 : decode cX5_init 527 = .ok (.bipush 63, 2) := by decide +kernel
theorem dX5_init_529 : decode cX5_init 529 = .ok (.newarray .int, 2) := by decide +kernel
theorem dX5_init_531 : decode cX5_init 531 = .ok (.putfield 115, 3) := by decide +kernel
theorem dX5_init_534 : decode cX5_init 534 = .ok (.aload_n 0, 1) := by decide +kernel
theorem dX5_init_535 : decode cX5_init 535 = .ok (.bipush 63, 2) := by decide +kernel
theorem dX5_init_537 : decode cX5_init 537 = .ok (.newarray .long, 2) := by decide +kernel
theorem dX5_init_539 : decode cX5_init 539 = .ok (.putfield 118, 3) := by decide +kernel
theorem dX5_init_542 : decode cX5_init 542 = .ok (.aload_n 0, 1) := by decide +kernel
theorem dX5_init_543 : decode cX5_init 543 = .ok (.bipush 63, 2) := by decide +kernel
theorem dX5_init_545 : decode cX5_init 545 = .ok (.newarray .int, 2) := by decide +kernel
theorem dX5_init_547 : decode cX5_init 547 = .ok (.putfield 121, 3) := by decide +kernel
theorem dX5_init_550 : decode cX5_init 550 = .ok (.aload_n 0, 1) := by decide +kernel
theorem dX5_init_551 : decode cX5_init 551 = .ok (.sipush 256, 3) := by decide +kernel
theorem dX5_init_554 : decode cX5_init 554 = .ok (.newarray .int, 2) := by decide +kernel
theorem dX5_init_556 : decode cX5_init 556 = .ok (.putfield 124, 3) := by decide +kernel
theorem dX5_init_559 : decode cX5_init 559 = .ok (.aload_n 0, 1) := by decide +kernel
theorem dX5_init_560 : decode cX5_init 560 = .ok (.sipush 256, 3) := by decide +kernel
theorem dX5_init_563 : decode cX5_init 563 = .ok (.newarray .int, 2) := by decide +kernel
theorem dX5_init_565 : decode cX5_init 565 = .ok (.putfield 127, 3) := by decide +kernel
theorem dX5_init_568 : decode cX5_init 568 = .ok (.aload_n 0, 1) := by decide +kernel
theorem dX5_init_569 : decode cX5_init 569 = .ok (.sipush 256, 3) := by decide +kernel
theorem dX5_init_572 : decode cX5_init 572 = .ok (.newarray .long, 2) := by decide +kernel
theorem dX5_init_574 : decode cX5_init 574 = .ok (.putfield 130, 3) := by decide +kernel
theorem dX5_init_577 : decode cX5_init 577 = .ok (.aload_n 0, 1) := by decide +kernel
theorem dX5_init_578 : decode cX5_init 578 = .ok (.sipush 128, 3) := by decide +kernel
theorem dX5_init_581 : decode cX5_init 581 = .ok (.newarray .int, 2) := by decide +kernel
theorem dX5_init_583 : decode cX5_init 583 = .ok (.putfield 133, 3) := by decide +kernel
theorem dX5_init_586 : decode cX5_init 586 = .ok (.aload_n 0, 1) := by decide +kernel
theorem dX5_init_587 : decode cX5_init 587 = .ok (.bipush 64, 2) := by decide +kernel
theorem dX5_init_589 : decode cX5_init 589 = .ok (.newarray .int, 2) := by decide +kernel
theorem dX5_init_591 : decode cX5_init 591 = .ok (.putfield 136, 3) := by decide +kernel
theorem dX5_init_594 : decode cX5_init 594 = .ok (.aload_n 0, 1) := by decide +kernel
theorem dX5_init_595 : decode cX5_init 595 = .ok (.bipush 8, 2) := by decide +kernel
theorem dX5_init_597 : decode cX5_init 597 = .ok (.newarray .int, 2) := by decide +kernel
theorem dX5_init_599 : decode cX5_init 599 = .ok (.putfield 139, 3) := by decide +kernel
theorem dX5_init_602 : decode cX5_init 602 = .ok (.aload_n 0, 1) := by decide +kernel
theorem dX5_init_603 : decode cX5_init 603 = .ok (.bipush 8, 2) := by decide +kernel
theorem dX5_init_605 : decode cX5_init 605 = .ok (.newarray .int, 2) := by decide +kernel
theorem dX5_init_607 : decode cX5_init 607 = .ok (.putfield 142, 3) := by decide +kernel
theorem dX5_init_610 : decode cX5_init 610 = .ok (.aload_n 0, 1) := by decide +kernel
theorem dX5_init_611 : decode cX5_init 611 = .ok (.sipush 2048, 3) := by decide +kernel
theorem dX5_init_614 : decode cX5_init 614 = .ok (.newarray .int, 2) := by decide +kernel
theorem dX5_init_616 : decode cX5_init 616 = .ok (.putfield 145, 3) := by decide +kernel
theorem dX5_init_619 : decode cX5_init 619 = .ok (.return_, 1) := by decide +kernel
theorem dX5_thrown_0 : decode cX5_thrown 0 = .ok (.aload_n 0, 1) := by decide +kernel
theorem dX5_thrown_1 : decode cX5_thrown 1 = .ok (.getfield 148, 3) := by decide +kernel
theorem dX5_thrown_4 : decode cX5_thrown 4 = .ok (.ireturn, 1) := by decide +kernel
theorem dX5_raise_0 : decode cX5_raise 0 = .ok (.aload_n 0, 1) := by decide +kernel
theorem dX5_raise_1 : decode cX5_raise 1 = .ok (.iconst 1, 1) := by decide +kernel
theorem dX5_raise_2 : decode cX5_raise 2 = .ok (.putfield 148, 3) := by decide +kernel
theorem dX5_raise_5 : decode cX5_raise 5 = .ok (.iconst 0, 1) := by decide +kernel
theorem dX5_raise_6 : decode cX5_raise 6 = .ok (.ireturn, 1) := by decide +kernel
theorem dX5_within_0 : decode cX5_within 0 = .ok (.iload_n 0, 1) := by decide +kernel
theorem dX5_within_1 : decode cX5_within 1 = .ok (.iload_n 1, 1) := by decide +kernel
theorem dX5_within_2 : decode cX5_within 2 = .ok (.if_icmp .lt 12, 3) := by decide +kernel
theorem dX5_within_5 : decode cX5_within 5 = .ok (.iload_n 0, 1) := by decide +kernel
theorem dX5_within_6 : decode cX5_within 6 = .ok (.iload_n 2, 1) := by decide +kernel
theorem dX5_within_7 : decode cX5_within 7 = .ok (.if_icmp .gt 7, 3) := by decide +kernel
theorem dX5_within_10 : decode cX5_within 10 = .ok (.iconst 1, 1) := by decide +kernel
theorem dX5_within_11 : decode cX5_within 11 = .ok (.goto 4, 3) := by decide +kernel
theorem dX5_within_14 : decode cX5_within 14 = .ok (.iconst 0, 1) := by decide +kernel
theorem dX5_within_15 : decode cX5_within 15 = .ok (.ireturn, 1) := by decide +kernel
theorem dX5_at_0 : decode cX5_at 0 = .ok (.sipush 256, 3) := by decide +kernel
theorem dX5_at_3 : decode cX5_at 3 = .ok (.iload_n 0, 1) := by decide +kernel
theorem dX5_at_4 : decode cX5_at 4 = .ok (.imul, 1) := by decide +kernel
theorem dX5_at_5 : decode cX5_at 5 = .ok (.bipush 64, 2) := by decide +kernel
theorem dX5_at_7 : decode cX5_at 7 = .ok (.iload_n 1, 1) := by decide +kernel
theorem dX5_at_8 : decode cX5_at 8 = .ok (.imul, 1) := by decide +kernel
theorem dX5_at_9 : decode cX5_at 9 = .ok (.iadd, 1) := by decide +kernel
theorem dX5_at_10 : decode cX5_at 10 = .ok (.iload_n 2, 1) := by decide +kernel
theorem dX5_at_11 : decode cX5_at 11 = .ok (.iadd, 1) := by decide +kernel
theorem dX5_at_12 : decode cX5_at 12 = .ok (.iconst 1, 1) := by decide +kernel
theorem dX5_at_13 : decode cX5_at 13 = .ok (.isub, 1) := by decide +kernel
theorem dX5_at_14 : decode cX5_at 14 = .ok (.ireturn, 1) := by decide +kernel
set_option maxRecDepth 20000 in
theorem ggX5_isPlace_X5_within : GoodIn wsX5_isPlace wsX5_within := goodIn_r _ [4] (by decide +kernel) (by decide +kernel)
set_option maxRecDepth 20000 in
theorem gX5_isPlace_X5_within : GoodIn wsX5_isPlace (va_wsS RX5 152 yX5_within wsX5_within) := goodIn_app (goodIn_of _ (by decide +kernel)) ggX5_isPlace_X5_within
theorem dX5_isPlace_0 : decode cX5_isPlace 0 = .ok (.iload_n 0, 1) := by decide +kernel
theorem dX5_isPlace_1 : decode cX5_isPlace 1 = .ok (.iconst 0, 1) := by decide +kernel
theorem dX5_isPlace_2 : decode cX5_isPlace 2 = .ok (.iconst 1, 1) := by decide +kernel
theorem dX5_isPlace_3 : decode cX5_isPlace 3 = .ok (.invokestatic 152, 3) := by decide +kernel
theorem dX5_isPlace_6 : decode cX5_isPlace 6 = .ok (.ifCond .eq 26, 3) := by decide +kernel
theorem dX5_isPlace_9 : decode cX5_isPlace 9 = .ok (.iload_n 1, 1) := by decide +kernel
theorem dX5_isPlace_10 : decode cX5_isPlace 10 = .ok (.iconst 0, 1) := by decide +kernel
theorem dX5_isPlace_11 : decode cX5_isPlace 11 = .ok (.iconst 3, 1) := by decide +kernel
theorem dX5_isPlace_12 : decode cX5_isPlace 12 = .ok (.invokestatic 152, 3) := by decide +kernel
theorem dX5_isPlace_15 : decode cX5_isPlace 15 = .ok (.ifCond .eq 17, 3) := by decide +kernel
theorem dX5_isPlace_18 : decode cX5_isPlace 18 = .ok (.iload_n 2, 1) := by decide +kernel
theorem dX5_isPlace_19 : decode cX5_isPlace 19 = .ok (.iconst 1, 1) := by decide +kernel
theorem dX5_isPlace_20 : decode cX5_isPlace 20 = .ok (.bipush 64, 2) := by decide +kernel
theorem dX5_isPlace_22 : decode cX5_isPlace 22 = .ok (.invokestatic 152, 3) := by decide +kernel
theorem dX5_isPlace_25 : decode cX5_isPlace 25 = .ok (.ifCond .eq 7, 3) := by decide +kernel
theorem dX5_isPlace_28 : decode cX5_isPlace 28 = .ok (.iconst 1, 1) := by decide +kernel
theorem dX5_isPlace_29 : decode cX5_isPlace 29 = .ok (.goto 4, 3) := by decide +kernel
theorem dX5_isPlace_32 : decode cX5_isPlace 32 = .ok (.iconst 0, 1) := by decide +kernel
theorem dX5_isPlace_33 : decode cX5_isPlace 33 = .ok (.ireturn, 1) := by decide +kernel
theorem dX5_counts_0 : decode cX5_counts 0 = .ok (.aload_n 0, 1) := by decide +kernel
theorem dX5_counts_1 : decode cX5_counts 1 = .ok (.getfield 7, 3) := by decide +kernel
theorem dX5_counts_4 : decode cX5_counts 4 = .ok (.iload_n 1, 1) := by decide +kernel
theorem dX5_counts_5 : decode cX5_counts 5 = .ok (.baload, 1) := by decide +kernel
theorem dX5_counts_6 : decode cX5_counts 6 = .ok (.ifCond .eq 18, 3) := by decide +kernel
theorem dX5_counts_9 : decode cX5_counts 9 = .ok (.aload_n 0, 1) := by decide +kernel
theorem dX5_counts_10 : decode cX5_counts 10 = .ok (.getfield 7, 3) := by decide +kernel
theorem dX5_counts_13 : decode cX5_counts 13 = .ok (.iconst 4, 1) := by decide +kernel
theorem dX5_counts_14 : decode cX5_counts 14 = .ok (.iload_n 1, 1) := by decide +kernel
theorem dX5_counts_15 : decode cX5_counts 15 = .ok (.iadd, 1) := by decide +kernel
theorem dX5_counts_16 : decode cX5_counts 16 = .ok (.baload, 1) := by decide +kernel
theorem dX5_counts_17 : decode cX5_counts 17 = .ok (.ifCond .eq 7, 3) := by decide +kernel
theorem dX5_counts_20 : decode cX5_counts 20 = .ok (.iconst 1, 1) := by decide +kernel
theorem dX5_counts_21 : decode cX5_counts 21 = .ok (.goto 4, 3) := by decide +kernel
theorem dX5_counts_24 : decode cX5_counts 24 = .ok (.iconst 0, 1) := by decide +kernel
theorem dX5_counts_25 : decode cX5_counts 25 = .ok (.ireturn, 1) := by decide +kernel
theorem dX5_put_0 : decode cX5_put 0 = .ok (.aload_n 0, 1) := by decide +kernel
theorem dX5_put_1 : decode cX5_put 1 = .ok (.getfield 133, 3) := by decide +kernel
theorem dX5_put_4 : decode cX5_put 4 = .ok (.aload_n 0, 1) := by decide +kernel
theorem dX5_put_5 : decode cX5_put 5 = .ok (.getfield 156, 3) := by decide +kernel
theorem dX5_put_8 : decode cX5_put 8 = .ok (.iload_n 1, 1) := by decide +kernel
theorem dX5_put_9 : decode cX5_put 9 = .ok (.sipush 255, 3) := by decide +kernel
theorem dX5_put_12 : decode cX5_put 12 = .ok (.iand, 1) := by decide +kernel
theorem dX5_put_13 : decode cX5_put 13 = .ok (.iastore, 1) := by decide +kernel
theorem dX5_put_14 : decode cX5_put 14 = .ok (.aload_n 0, 1) := by decide +kernel
theorem dX5_put_15 : decode cX5_put 15 = .ok (.dup, 1) := by decide +kernel
theorem dX5_put_16 : decode cX5_put 16 = .ok (.getfield 156, 3) := by decide +kernel
theorem dX5_put_19 : decode cX5_put 19 = .ok (.iconst 1, 1) := by decide +kernel
theorem dX5_put_20 : decode cX5_put 20 = .ok (.iadd, 1) := by decide +kernel
theorem dX5_put_21 : decode cX5_put 21 = .ok (.putfield 156, 3) := by decide +kernel
theorem dX5_put_24 : decode cX5_put 24 = .ok (.return_, 1) := by decide +kernel
set_option maxRecDepth 20000 in
theorem ggX5_putRow_X5_put : GoodIn wsX5_putRow wsX5_put := goodIn_r _ [5, 6, 7, 8, 9, 10, 11, 12, 13, 14, 15, 16, 17, 18, 19, 20, 21, 22, 23, 24, 25, 26, 27, 28, 29, 30, 31, 32, 33, 34, 35, 36, 37, 38, 39, 40, 41] (by decide +kernel) (by decide +kernel)
set_option maxRecDepth 20000 in
theorem gX5_putRow_X5_put : GoodIn wsX5_putRow (wsV RX5 159 RX5 yX5_put wsX5_put) := goodIn_app (goodIn_of _ (by decide +kernel)) ggX5_putRow_X5_put
theorem dX5_putRow_0 : decode cX5_putRow 0 = .ok (.aload_n 0, 1) := by decide +kernel
theorem dX5_putRow_1 : decode cX5_putRow 1 = .ok (.iload_n 1, 1) := by decide +kernel
theorem dX5_putRow_2 : decode cX5_putRow 2 = .ok (.bipush 64, 2) := by decide +kernel
theorem dX5_putRow_4 : decode cX5_putRow 4 = .ok (.idiv, 1) := by decide +kernel
theorem dX5_putRow_5 : decode cX5_putRow 5 = .ok (.invokevirtual 159, 3) := by decide +kernel
theorem dX5_putRow_8 : decode cX5_putRow 8 = .ok (.aload_n 0, 1) := by decide +kernel
theorem dX5_putRow_9 : decode cX5_putRow 9 = .ok (.iload_n 1, 1) := by decide +kernel
theorem dX5_putRow_10 : decode cX5_putRow 10 = .ok (.bipush 64, 2) := by decide +kernel
theorem dX5_putRow_12 : decode cX5_putRow 12 = .ok (.irem, 1) := by decide +kernel
theorem dX5_putRow_13 : decode cX5_putRow 13 = .ok (.iconst 1, 1) := by decide +kernel
theorem dX5_putRow_14 : decode cX5_putRow 14 = .ok (.iadd, 1) := by decide +kernel
theorem dX5_putRow_15 : decode cX5_putRow 15 = .ok (.invokevirtual 159, 3) := by decide +kernel
theorem dX5_putRow_18 : decode cX5_putRow 18 = .ok (.bipush 56, 2) := by decide +kernel
theorem dX5_putRow_20 : decode cX5_putRow 20 = .ok (.istore 4, 2) := by decide +kernel
theorem dX5_putRow_22 : decode cX5_putRow 22 = .ok (.iload 4, 2) := by decide +kernel
theorem dX5_putRow_24 : decode cX5_putRow 24 = .ok (.ifCond .lt 18, 3) := by decide +kernel
theorem dX5_putRow_27 : decode cX5_putRow 27 = .ok (.aload_n 0, 1) := by decide +kernel
theorem dX5_putRow_28 : decode cX5_putRow 28 = .ok (.lload_n 2, 1) := by decide +kernel
theorem dX5_putRow_29 : decode cX5_putRow 29 = .ok (.iload 4, 2) := by decide +kernel
theorem dX5_putRow_31 : decode cX5_putRow 31 = .ok (.lshr, 1) := by decide +kernel
theorem dX5_putRow_32 : decode cX5_putRow 32 = .ok (.l2i, 1) := by decide +kernel
theorem dX5_putRow_33 : decode cX5_putRow 33 = .ok (.invokevirtual 159, 3) := by decide +kernel
theorem dX5_putRow_36 : decode cX5_putRow 36 = .ok (.iinc 4 (-8), 3) := by decide +kernel
theorem dX5_putRow_39 : decode cX5_putRow 39 = .ok (.goto (-17), 3) := by decide +kernel
theorem dX5_putRow_42 : decode cX5_putRow 42 = .ok (.return_, 1) := by decide +kernel
theorem dX5_left_0 : decode cX5_left 0 = .ok (.iload_n 0, 1) := by decide +kernel
theorem dX5_left_1 : decode cX5_left 1 = .ok (.iload_n 1, 1) := by decide +kernel
theorem dX5_left_2 : decode cX5_left 2 = .ok (.ishl, 1) := by decide +kernel
theorem dX5_left_3 : decode cX5_left 3 = .ok (.iload_n 0, 1) := by decide +kernel
theorem dX5_left_4 : decode cX5_left 4 = .ok (.bipush 32, 2) := by decide +kernel
theorem dX5_left_6 : decode cX5_left 6 = .ok (.iload_n 1, 1) := by decide +kernel
theorem dX5_left_7 : decode cX5_left 7 = .ok (.isub, 1) := by decide +kernel
theorem dX5_left_8 : decode cX5_left 8 = .ok (.iushr, 1) := by decide +kernel
theorem dX5_left_9 : decode cX5_left 9 = .ok (.ior, 1) := by decide +kernel
theorem dX5_left_10 : decode cX5_left 10 = .ok (.ireturn, 1) := by decide +kernel
theorem dX5_right_0 : decode cX5_right 0 = .ok (.iload_n 0, 1) := by decide +kernel
theorem dX5_right_1 : decode cX5_right 1 = .ok (.iload_n 1, 1) := by decide +kernel
theorem dX5_right_2 : decode cX5_right 2 = .ok (.iushr, 1) := by decide +kernel
theorem dX5_right_3 : decode cX5_right 3 = .ok (.iload_n 0, 1) := by decide +kernel
theorem dX5_right_4 : decode cX5_right 4 = .ok (.bipush 32, 2) := by decide +kernel
theorem dX5_right_6 : decode cX5_right 6 = .ok (.iload_n 1, 1) := by decide +kernel
theorem dX5_right_7 : decode cX5_right 7 = .ok (.isub, 1) := by decide +kernel
theorem dX5_right_8 : decode cX5_right 8 = .ok (.ishl, 1) := by decide +kernel
theorem dX5_right_9 : decode cX5_right 9 = .ok (.ior, 1) := by decide +kernel
theorem dX5_right_10 : decode cX5_right 10 = .ok (.ireturn, 1) := by decide +kernel
set_option maxRecDepth 20000 in
theorem ggX5_fold_X5_left : GoodIn wsX5_fold wsX5_left := goodIn_r _ [7] (by decide +kernel) (by decide +kernel)
set_option maxRecDepth 20000 in
theorem gX5_fold_X5_left : GoodIn wsX5_fold (va_wsS RX5 163 yX5_left wsX5_left) := goodIn_app (goodIn_of _ (by decide +kernel)) ggX5_fold_X5_left
theorem dX5_fold_0 : decode cX5_fold 0 = .ok (.iconst 0, 1) := by decide +kernel
theorem dX5_fold_1 : decode cX5_fold 1 = .ok (.istore_n 1, 1) := by decide +kernel
theorem dX5_fold_2 : decode cX5_fold 2 = .ok (.iconst 0, 1) := by decide +kernel
theorem dX5_fold_3 : decode cX5_fold 3 = .ok (.istore_n 2, 1) := by decide +kernel
theorem dX5_fold_4 : decode cX5_fold 4 = .ok (.iload_n 2, 1) := by decide +kernel
theorem dX5_fold_5 : decode cX5_fold 5 = .ok (.aload_n 0, 1) := by decide +kernel
theorem dX5_fold_6 : decode cX5_fold 6 = .ok (.getfield 156, 3) := by decide +kernel
theorem dX5_fold_9 : decode cX5_fold 9 = .ok (.if_icmp .ge 26, 3) := by decide +kernel
theorem dX5_fold_12 : decode cX5_fold 12 = .ok (.iload_n 1, 1) := by decide +kernel
theorem dX5_fold_13 : decode cX5_fold 13 = .ok (.aload_n 0, 1) := by decide +kernel
theorem dX5_fold_14 : decode cX5_fold 14 = .ok (.getfield 133, 3) := by decide +kernel
theorem dX5_fold_17 : decode cX5_fold 17 = .ok (.iload_n 2, 1) := by decide +kernel
theorem dX5_fold_18 : decode cX5_fold 18 = .ok (.iaload, 1) := by decide +kernel
theorem dX5_fold_19 : decode cX5_fold 19 = .ok (.ixor, 1) := by decide +kernel
theorem dX5_fold_20 : decode cX5_fold 20 = .ok (.bipush 7, 2) := by decide +kernel
theorem dX5_fold_22 : decode cX5_fold 22 = .ok (.invokestatic 163, 3) := by decide +kernel
theorem dX5_fold_25 : decode cX5_fold 25 = .ok (.ldc 167, 2) := by decide +kernel
theorem dX5_fold_27 : decode cX5_fold 27 = .ok (.imul, 1) := by decide +kernel
theorem dX5_fold_28 : decode cX5_fold 28 = .ok (.istore_n 1, 1) := by decide +kernel
theorem dX5_fold_29 : decode cX5_fold 29 = .ok (.iinc 2 1, 3) := by decide +kernel
theorem dX5_fold_32 : decode cX5_fold 32 = .ok (.goto (-28), 3) := by decide +kernel
theorem dX5_fold_35 : decode cX5_fold 35 = .ok (.iload_n 1, 1) := by decide +kernel
theorem dX5_fold_36 : decode cX5_fold 36 = .ok (.ireturn, 1) := by decide +kernel
set_option maxRecDepth 20000 in
theorem ggX5_block_X5_right : GoodIn wsX5_block wsX5_right := goodIn_r _ [9] (by decide +kernel) (by decide +kernel)
set_option maxRecDepth 20000 in
theorem gX5_block_X5_right : GoodIn wsX5_block (va_wsS RX5 168 yX5_right wsX5_right) := goodIn_app (goodIn_of _ (by decide +kernel)) ggX5_block_X5_right
theorem dX5_block_0 : decode cX5_block 0 = .ok (.iconst 0, 1) := by decide +kernel
theorem dX5_block_1 : decode cX5_block 1 = .ok (.istore_n 2, 1) := by decide +kernel
theorem dX5_block_2 : decode cX5_block 2 = .ok (.iload_n 2, 1) := by decide +kernel
theorem dX5_block_3 : decode cX5_block 3 = .ok (.bipush 16, 2) := by decide +kernel
theorem dX5_block_5 : decode cX5_block 5 = .ok (.if_icmp .ge 73, 3) := by decide +kernel
theorem dX5_block_8 : decode cX5_block 8 = .ok (.aload_n 0, 1) := by decide +kernel
theorem dX5_block_9 : decode cX5_block 9 = .ok (.getfield 136, 3) := by decide +kernel
theorem dX5_block_12 : decode cX5_block 12 = .ok (.iload_n 2, 1) := by decide +kernel
theorem dX5_block_13 : decode cX5_block 13 = .ok (.aload_n 0, 1) := by decide +kernel
theorem dX5_block_14 : decode cX5_block 14 = .ok (.getfield 133, 3) := by decide +kernel
theorem dX5_block_17 : decode cX5_block 17 = .ok (.iload_n 1, 1) := by decide +kernel
theorem dX5_block_18 : decode cX5_block 18 = .ok (.iconst 4, 1) := by decide +kernel
theorem dX5_block_19 : decode cX5_block 19 = .ok (.iload_n 2, 1) := by decide +kernel
theorem dX5_block_20 : decode cX5_block 20 = .ok (.imul, 1) := by decide +kernel
theorem dX5_block_21 : decode cX5_block 21 = .ok (.iadd, 1) := by decide +kernel
theorem dX5_block_22 : decode cX5_block 22 = .ok (.iaload, 1) := by decide +kernel
theorem dX5_block_23 : decode cX5_block 23 = .ok (.bipush 24, 2) := by decide +kernel
theorem dX5_block_25 : decode cX5_block 25 = .ok (.ishl, 1) := by decide +kernel
theorem dX5_block_26 : decode cX5_block 26 = .ok (.aload_n 0, 1) := by decide +kernel
theorem dX5_block_27 : decode cX5_block 27 = .ok (.getfield 133, 3) := by decide +kernel
theorem dX5_block_30 : decode cX5_block 30 = .ok (.iload_n 1, 1) := by decide +kernel
theorem dX5_block_31 : decode cX5_block 31 = .ok (.iconst 4, 1) := by decide +kernel
theorem dX5_block_32 : decode cX5_block 32 = .ok (.iload_n 2, 1) := by decide +kernel
theorem dX5_block_33 : decode cX5_block 33 = .ok (.imul, 1) := by decide +kernel
theorem dX5_block_34 : decode cX5_block 34 = .ok (.iadd, 1) := by decide +kernel
theorem dX5_block_35 : decode cX5_block 35 = .ok (.iconst 1, 1) := by decide +kernel
theorem dX5_block_36 : decode cX5_block 36 = .ok (.iadd, 1) := by decide +kernel
theorem dX5_block_37 : decode cX5_block 37 = .ok (.iaload, 1) := by decide +kernel
theorem dX5_block_38 : decode cX5_block 38 = .ok (.bipush 16, 2) := by decide +kernel
theorem dX5_block_40 : decode cX5_block 40 = .ok (.ishl, 1) := by decide +kernel
theorem dX5_block_41 : decode cX5_block 41 = .ok (.ior, 1) := by decide +kernel
theorem dX5_block_42 : decode cX5_block 42 = .ok (.aload_n 0, 1) := by decide +kernel
theorem dX5_block_43 : decode cX5_block 43 = .ok (.getfield 133, 3) := by decide +kernel
theorem dX5_block_46 : decode cX5_block 46 = .ok (.iload_n 1, 1) := by decide +kernel
theorem dX5_block_47 : decode cX5_block 47 = .ok (.iconst 4, 1) := by decide +kernel
theorem dX5_block_48 : decode cX5_block 48 = .ok (.iload_n 2, 1) := by decide +kernel
theorem dX5_block_49 : decode cX5_block 49 = .ok (.imul, 1) := by decide +kernel
theorem dX5_block_50 : decode cX5_block 50 = .ok (.iadd, 1) := by decide +kernel
theorem dX5_block_51 : decode cX5_block 51 = .ok (.iconst 2, 1) := by decide +kernel
theorem dX5_block_52 : decode cX5_block 52 = .ok (.iadd, 1) := by decide +kernel
theorem dX5_block_53 : decode cX5_block 53 = .ok (.iaload, 1) := by decide +kernel
theorem dX5_block_54 : decode cX5_block 54 = .ok (.bipush 8, 2) := by decide +kernel
theorem dX5_block_56 : decode cX5_block 56 = .ok (.ishl, 1) := by decide +kernel
theorem dX5_block_57 : decode cX5_block 57 = .ok (.ior, 1) := by decide +kernel
theorem dX5_block_58 : decode cX5_block 58 = .ok (.aload_n 0, 1) := by decide +kernel
theorem dX5_block_59 : decode cX5_block 59 = .ok (.getfield 133, 3) := by decide +kernel
theorem dX5_block_62 : decode cX5_block 62 = .ok (.iload_n 1, 1) := by decide +kernel
theorem dX5_block_63 : decode cX5_block 63 = .ok (.iconst 4, 1) := by decide +kernel
theorem dX5_block_64 : decode cX5_block 64 = .ok (.iload_n 2, 1) := by decide +kernel
theorem dX5_block_65 : decode cX5_block 65 = .ok (.imul, 1) := by decide +kernel
theorem dX5_block_66 : decode cX5_block 66 = .ok (.iadd, 1) := by decide +kernel
theorem dX5_block_67 : decode cX5_block 67 = .ok (.iconst 3, 1) := by decide +kernel
theorem dX5_block_68 : decode cX5_block 68 = .ok (.iadd, 1) := by decide +kernel
theorem dX5_block_69 : decode cX5_block 69 = .ok (.iaload, 1) := by decide +kernel
theorem dX5_block_70 : decode cX5_block 70 = .ok (.ior, 1) := by decide +kernel
theorem dX5_block_71 : decode cX5_block 71 = .ok (.iastore, 1) := by decide +kernel
theorem dX5_block_72 : decode cX5_block 72 = .ok (.iinc 2 1, 3) := by decide +kernel
theorem dX5_block_75 : decode cX5_block 75 = .ok (.goto (-73), 3) := by decide +kernel
theorem dX5_block_78 : decode cX5_block 78 = .ok (.bipush 16, 2) := by decide +kernel
theorem dX5_block_80 : decode cX5_block 80 = .ok (.istore_n 2, 1) := by decide +kernel
theorem dX5_block_81 : decode cX5_block 81 = .ok (.iload_n 2, 1) := by decide +kernel
theorem dX5_block_82 : decode cX5_block 82 = .ok (.bipush 64, 2) := by decide +kernel
theorem dX5_block_84 : decode cX5_block 84 = .ok (.if_icmp .ge 102, 3) := by decide +kernel
theorem dX5_block_87 : decode cX5_block 87 = .ok (.aload_n 0, 1) := by decide +kernel
theorem dX5_block_88 : decode cX5_block 88 = .ok (.getfield 136, 3) := by decide +kernel
theorem dX5_block_91 : decode cX5_block 91 = .ok (.iload_n 2, 1) := by decide +kernel
theorem dX5_block_92 : decode cX5_block 92 = .ok (.bipush 15, 2) := by decide +kernel
theorem dX5_block_94 : decode cX5_block 94 = .ok (.isub, 1) := by decide +kernel
theorem dX5_block_95 : decode cX5_block 95 = .ok (.iaload, 1) := by decide +kernel
theorem dX5_block_96 : decode cX5_block 96 = .ok (.istore_n 3, 1) := by decide +kernel
theorem dX5_block_97 : decode cX5_block 97 = .ok (.aload_n 0, 1) := by decide +kernel
theorem dX5_block_98 : decode cX5_block 98 = .ok (.getfield 136, 3) := by decide +kernel
theorem dX5_block_101 : decode cX5_block 101 = .ok (.iload_n 2, 1) := by decide +kernel
theorem dX5_block_102 : decode cX5_block 102 = .ok (.iconst 2, 1) := by decide +kernel
theorem dX5_block_103 : decode cX5_block 103 = .ok (.isub, 1) := by decide +kernel
theorem dX5_block_104 : decode cX5_block 104 = .ok (.iaload, 1) := by decide +kernel
theorem dX5_block_105 : decode cX5_block 105 = .ok (.istore 4, 2) := by decide +kernel
theorem dX5_block_107 : decode cX5_block 107 = .ok (.iload_n 3, 1) := by decide +kernel
theorem dX5_block_108 : decode cX5_block 108 = .ok (.bipush 7, 2) := by decide +kernel
theorem dX5_block_110 : decode cX5_block 110 = .ok (.invokestatic 168, 3) := by decide +kernel
theorem dX5_block_113 : decode cX5_block 113 = .ok (.iload_n 3, 1) := by decide +kernel
theorem dX5_block_114 : decode cX5_block 114 = .ok (.bipush 18, 2) := by decide +kernel
theorem dX5_block_116 : decode cX5_block 116 = .ok (.invokestatic 168, 3) := by decide +kernel
theorem dX5_block_119 : decode cX5_block 119 = .ok (.ixor, 1) := by decide +kernel
theorem dX5_block_120 : decode cX5_block 120 = .ok (.iload_n 3, 1) := by decide +kernel
theorem dX5_block_121 : decode cX5_block 121 = .ok (.iconst 3, 1) := by decide +kernel
theorem dX5_block_122 : decode cX5_block 122 = .ok (.iushr, 1) := by decide +kernel
theorem dX5_block_123 : decode cX5_block 123 = .ok (.ixor, 1) := by decide +kernel
theorem dX5_block_124 : decode cX5_block 124 = .ok (.istore 5, 2) := by decide +kernel
theorem dX5_block_126 : decode cX5_block 126 = .ok (.iload 4, 2) := by decide +kernel
theorem dX5_block_128 : decode cX5_block 128 = .ok (.bipush 17, 2) := by decide +kernel
theorem dX5_block_130 : decode cX5_block 130 = .ok (.invokestatic 168, 3) := by decide +kernel
theorem dX5_block_133 : decode cX5_block 133 = .ok (.iload 4, 2) := by decide +kernel
theorem dX5_block_135 : decode cX5_block 135 = .ok (.bipush 19, 2) := by decide +kernel
theorem dX5_block_137 : decode cX5_block 137 = .ok (.invokestatic 168, 3) := by decide +kernel
theorem dX5_block_140 : decode cX5_block 140 = .ok (.ixor, 1) := by decide +kernel
theorem dX5_block_141 : decode cX5_block 141 = .ok (.iload 4, 2) := by decide +kernel
theorem dX5_block_143 : decode cX5_block 143 = .ok (.bipush 10, 2) := by decide +kernel
theorem dX5_block_145 : decode cX5_block 145 = .ok (.iushr, 1) := by decide +kernel
theorem dX5_block_146 : decode cX5_block 146 = .ok (.ixor, 1) := by decide +kernel
theorem dX5_block_147 : decode cX5_block 147 = .ok (.istore 6, 2) := by decide +kernel
theorem dX5_block_149 : decode cX5_block 149 = .ok (.aload_n 0, 1) := by decide +kernel
theorem dX5_block_150 : decode cX5_block 150 = .ok (.getfield 136, 3) := by decide +kernel
theorem dX5_block_153 : decode cX5_block 153 = .ok (.iload_n 2, 1) := by decide +kernel
theorem dX5_block_154 : decode cX5_block 154 = .ok (.iload 6, 2) := by decide +kernel
theorem dX5_block_156 : decode cX5_block 156 = .ok (.aload_n 0, 1) := by decide +kernel
theorem dX5_block_157 : decode cX5_block 157 = .ok (.getfield 136, 3) := by decide +kernel
theorem dX5_block_160 : decode cX5_block 160 = .ok (.iload_n 2, 1) := by decide +kernel
theorem dX5_block_161 : decode cX5_block 161 = .ok (.bipush 7, 2) := by decide +kernel
theorem dX5_block_163 : decode cX5_block 163 = .ok (.isub, 1) := by decide +kernel
theorem dX5_block_164 : decode cX5_block 164 = .ok (.iaload, 1) := by decide +kernel
theorem dX5_block_165 : decode cX5_block 165 = .ok (.iadd, 1) := by decide +kernel
theorem dX5_block_166 : decode cX5_block 166 = .ok (.iload 5, 2) := by decide +kernel
theorem dX5_block_168 : decode cX5_block 168 = .ok (.iadd, 1) := by decide +kernel
theorem dX5_block_169 : decode cX5_block 169 = .ok (.aload_n 0, 1) := by decide +kernel
theorem dX5_block_170 : decode cX5_block 170 = .ok (.getfield 136, 3) := by decide +kernel
theorem dX5_block_173 : decode cX5_block 173 = .ok (.iload_n 2, 1) := by decide +kernel
theorem dX5_block_174 : decode cX5_block 174 = .ok (.bipush 16, 2) := by decide +kernel
theorem dX5_block_176 : decode cX5_block 176 = .ok (.isub, 1) := by decide +kernel
theorem dX5_block_177 : decode cX5_block 177 = .ok (.iaload, 1) := by decide +kernel
theorem dX5_block_178 : decode cX5_block 178 = .ok (.iadd, 1) := by decide +kernel
theorem dX5_block_179 : decode cX5_block 179 = .ok (.iastore, 1) := by decide +kernel
theorem dX5_block_180 : decode cX5_block 180 = .ok (.iinc 2 1, 3) := by decide +kernel
theorem dX5_block_183 : decode cX5_block 183 = .ok (.goto (-102), 3) := by decide +kernel
theorem dX5_block_186 : decode cX5_block 186 = .ok (.iconst 0, 1) := by decide +kernel
theorem dX5_block_187 : decode cX5_block 187 = .ok (.istore_n 2, 1) := by decide +kernel
theorem dX5_block_188 : decode cX5_block 188 = .ok (.iload_n 2, 1) := by decide +kernel
theorem dX5_block_189 : decode cX5_block 189 = .ok (.bipush 8, 2) := by decide +kernel
theorem dX5_block_191 : decode cX5_block 191 = .ok (.if_icmp .ge 21, 3) := by decide +kernel
theorem dX5_block_194 : decode cX5_block 194 = .ok (.aload_n 0, 1) := by decide +kernel
theorem dX5_block_195 : decode cX5_block 195 = .ok (.getfield 142, 3) := by decide +kernel
theorem dX5_block_198 : decode cX5_block 198 = .ok (.iload_n 2, 1) := by decide +kernel
theorem dX5_block_199 : decode cX5_block 199 = .ok (.aload_n 0, 1) := by decide +kernel
theorem dX5_block_200 : decode cX5_block 200 = .ok (.getfield 139, 3) := by decide +kernel
theorem dX5_block_203 : decode cX5_block 203 = .ok (.iload_n 2, 1) := by decide +kernel
theorem dX5_block_204 : decode cX5_block 204 = .ok (.iaload, 1) := by decide +kernel
theorem dX5_block_205 : decode cX5_block 205 = .ok (.iastore, 1) := by decide +kernel
theorem dX5_block_206 : decode cX5_block 206 = .ok (.iinc 2 1, 3) := by decide +kernel
theorem dX5_block_209 : decode cX5_block 209 = .ok (.goto (-21), 3) := by decide +kernel
theorem dX5_block_212 : decode cX5_block 212 = .ok (.iconst 0, 1) := by decide +kernel
theorem dX5_block_213 : decode cX5_block 213 = .ok (.istore_n 2, 1) := by decide +kernel
theorem dX5_block_214 : decode cX5_block 214 = .ok (.iload_n 2, 1) := by decide +kernel
theorem dX5_block_215 : decode cX5_block 215 = .ok (.bipush 64, 2) := by decide +kernel
theorem dX5_block_217 : decode cX5_block 217 = .ok (.if_icmp .ge 200, 3) := by decide +kernel
theorem dX5_block_220 : decode cX5_block 220 = .ok (.aload_n 0, 1) := by decide +kernel
theorem dX5_block_221 : decode cX5_block 221 = .ok (.getfield 142, 3) := by decide +kernel
theorem dX5_block_224 : decode cX5_block 224 = .ok (.iconst 0, 1) := by decide +kernel
theorem dX5_block_225 : decode cX5_block 225 = .ok (.iaload, 1) := by decide +kernel
theorem dX5_block_226 : decode cX5_block 226 = .ok (.istore_n 3, 1) := by decide +kernel
theorem dX5_block_227 : decode cX5_block 227 = .ok (.aload_n 0, 1) := by decide +kernel
theorem dX5_block_228 : decode cX5_block 228 = .ok (.getfield 142, 3) := by decide +kernel
theorem dX5_block_231 : decode cX5_block 231 = .ok (.iconst 4, 1) := by decide +kernel
theorem dX5_block_232 : decode cX5_block 232 = .ok (.iaload, 1) := by decide +kernel
theorem dX5_block_233 : decode cX5_block 233 = .ok (.istore 4, 2) := by decide +kernel
theorem dX5_block_235 : decode cX5_block 235 = .ok (.aload_n 0, 1) := by decide +kernel
theorem dX5_block_236 : decode cX5_block 236 = .ok (.getfield 142, 3) := by decide +kernel
theorem dX5_block_239 : decode cX5_block 239 = .ok (.bipush 7, 2) := by decide +kernel
theorem dX5_block_241 : decode cX5_block 241 = .ok (.iaload, 1) := by decide +kernel
theorem dX5_block_242 : decode cX5_block 242 = .ok (.iload 4, 2) := by decide +kernel
theorem dX5_block_244 : decode cX5_block 244 = .ok (.bipush 6, 2) := by decide +kernel
theorem dX5_block_246 : decode cX5_block 246 = .ok (.invokestatic 168, 3) := by decide +kernel
theorem dX5_block_249 : decode cX5_block 249 = .ok (.iload 4, 2) := by decide +kernel
theorem dX5_block_251 : decode cX5_block 251 = .ok (.bipush 11, 2) := by decide +kernel
theorem dX5_block_253 : decode cX5_block 253 = .ok (.invokestatic 168, 3) := by decide +kernel
theorem dX5_block_256 : decode cX5_block 256 = .ok (.ixor, 1) := by decide +kernel
theorem dX5_block_257 : decode cX5_block 257 = .ok (.iload 4, 2) := by decide +kernel
theorem dX5_block_259 : decode cX5_block 259 = .ok (.bipush 25, 2) := by decide +kernel
theorem dX5_block_261 : decode cX5_block 261 = .ok (.invokestatic 168, 3) := by decide +kernel
theorem dX5_block_264 : decode cX5_block 264 = .ok (.ixor, 1) := by decide +kernel
theorem dX5_block_265 : decode cX5_block 265 = .ok (.iadd, 1) := by decide +kernel
theorem dX5_block_266 : decode cX5_block 266 = .ok (.iload 4, 2) := by decide +kernel
theorem dX5_block_268 : decode cX5_block 268 = .ok (.aload_n 0, 1) := by decide +kernel
theorem dX5_block_269 : decode cX5_block 269 = .ok (.getfield 142, 3) := by decide +kernel
theorem dX5_block_272 : decode cX5_block 272 = .ok (.iconst 5, 1) := by decide +kernel
theorem dX5_block_273 : decode cX5_block 273 = .ok (.iaload, 1) := by decide +kernel
theorem dX5_block_274 : decode cX5_block 274 = .ok (.iand, 1) := by decide +kernel
theorem dX5_block_275 : decode cX5_block 275 = .ok (.iload 4, 2) := by decide +kernel
theorem dX5_block_277 : decode cX5_block 277 = .ok (.iconst (-1), 1) := by decide +kernel
theorem dX5_block_278 : decode cX5_block 278 = .ok (.ixor, 1) := by decide +kernel
theorem dX5_block_279 : decode cX5_block 279 = .ok (.aload_n 0, 1) := by decide +kernel
theorem dX5_block_280 : decode cX5_block 280 = .ok (.getfield 142, 3) := by decide +kernel
theorem dX5_block_283 : decode cX5_block 283 = .ok (.bipush 6, 2) := by decide +kernel
theorem dX5_block_285 : decode cX5_block 285 = .ok (.iaload, 1) := by decide +kernel
theorem dX5_block_286 : decode cX5_block 286 = .ok (.iand, 1) := by decide +kernel
theorem dX5_block_287 : decode cX5_block 287 = .ok (.ixor, 1) := by decide +kernel
theorem dX5_block_288 : decode cX5_block 288 = .ok (.iadd, 1) := by decide +kernel
theorem dX5_block_289 : decode cX5_block 289 = .ok (.aload_n 0, 1) := by decide +kernel
theorem dX5_block_290 : decode cX5_block 290 = .ok (.getfield 100, 3) := by decide +kernel
theorem dX5_block_293 : decode cX5_block 293 = .ok (.iload_n 2, 1) := by decide +kernel
theorem dX5_block_294 : decode cX5_block 294 = .ok (.iaload, 1) := by decide +kernel
theorem dX5_block_295 : decode cX5_block 295 = .ok (.iadd, 1) := by decide +kernel
theorem dX5_block_296 : decode cX5_block 296 = .ok (.aload_n 0, 1) := by decide +kernel
theorem dX5_block_297 : decode cX5_block 297 = .ok (.getfield 136, 3) := by decide +kernel
theorem dX5_block_300 : decode cX5_block 300 = .ok (.iload_n 2, 1) := by decide +kernel
theorem dX5_block_301 : decode cX5_block 301 = .ok (.iaload, 1) := by decide +kernel
theorem dX5_block_302 : decode cX5_block 302 = .ok (.iadd, 1) := by decide +kernel
theorem dX5_block_303 : decode cX5_block 303 = .ok (.istore 5, 2) := by decide +kernel
theorem dX5_block_305 : decode cX5_block 305 = .ok (.iload_n 3, 1) := by decide +kernel
theorem dX5_block_306 : decode cX5_block 306 = .ok (.iconst 2, 1) := by decide +kernel
theorem dX5_block_307 : decode cX5_block 307 = .ok (.invokestatic 168, 3) := by decide +kernel
theorem dX5_block_310 : decode cX5_block 310 = .ok (.iload_n 3, 1) := by decide +kernel
theorem dX5_block_311 : decode cX5_block 311 = .ok (.bipush 13, 2) := by decide +kernel
theorem dX5_block_313 : decode cX5_block 313 = .ok (.invokestatic 168, 3) := by decide +kernel
theorem dX5_block_316 : decode cX5_block 316 = .ok (.ixor, 1) := by decide +kernel
theorem dX5_block_317 : decode cX5_block 317 = .ok (.iload_n 3, 1) := by decide +kernel
theorem dX5_block_318 : decode cX5_block 318 = .ok (.bipush 22, 2) := by decide +kernel
theorem dX5_block_320 : decode cX5_block 320 = .ok (.invokestatic 168, 3) := by decide +kernel
theorem dX5_block_323 : decode cX5_block 323 = .ok (.ixor, 1) := by decide +kernel
theorem dX5_block_324 : decode cX5_block 324 = .ok (.iload_n 3, 1) := by decide +kernel
theorem dX5_block_325 : decode cX5_block 325 = .ok (.aload_n 0, 1) := by decide +kernel
theorem dX5_block_326 : decode cX5_block 326 = .ok (.getfield 142, 3) := by decide +kernel
theorem dX5_block_329 : decode cX5_block 329 = .ok (.iconst 1, 1) := by decide +kernel
theorem dX5_block_330 : decode cX5_block 330 = .ok (.iaload, 1) := by decide +kernel
theorem dX5_block_331 : decode cX5_block 331 = .ok (.iand, 1) := by decide +kernel
theorem dX5_block_332 : decode cX5_block 332 = .ok (.iload_n 3, 1) := by decide +kernel
theorem dX5_block_333 : decode cX5_block 333 = .ok (.aload_n 0, 1) := by decide +kernel
theorem dX5_block_334 : decode cX5_block 334 = .ok (.getfield 142, 3) := by decide +kernel
theorem dX5_block_337 : decode cX5_block 337 = .ok (.iconst 2, 1) := by decide +kernel
theorem dX5_block_338 : decode cX5_block 338 = .ok (.iaload, 1) := by decide +kernel
theorem dX5_block_339 : decode cX5_block 339 = .ok (.iand, 1) := by decide +kernel
theorem dX5_block_340 : decode cX5_block 340 = .ok (.ixor, 1) := by decide +kernel
theorem dX5_block_341 : decode cX5_block 341 = .ok (.aload_n 0, 1) := by decide +kernel
theorem dX5_block_342 : decode cX5_block 342 = .ok (.getfield 142, 3) := by decide +kernel
theorem dX5_block_345 : decode cX5_block 345 = .ok (.iconst 1, 1) := by decide +kernel
theorem dX5_block_346 : decode cX5_block 346 = .ok (.iaload, 1) := by decide +kernel
theorem dX5_block_347 : decode cX5_block 347 = .ok (.aload_n 0, 1) := by decide +kernel
theorem dX5_block_348 : decode cX5_block 348 = .ok (.getfield 142, 3) := by decide +kernel
theorem dX5_block_351 : decode cX5_block 351 = .ok (.iconst 2, 1) := by decide +kernel
theorem dX5_block_352 : decode cX5_block 352 = .ok (.iaload, 1) := by decide +kernel
theorem dX5_block_353 : decode cX5_block 353 = .ok (.iand, 1) := by decide +kernel
theorem dX5_block_354 : decode cX5_block 354 = .ok (.ixor, 1) := by decide +kernel
theorem dX5_block_355 : decode cX5_block 355 = .ok (.iadd, 1) := by decide +kernel
theorem dX5_block_356 : decode cX5_block 356 = .ok (.istore 6, 2) := by decide +kernel
theorem dX5_block_358 : decode cX5_block 358 = .ok (.bipush 7, 2) := by decide +kernel
theorem dX5_block_360 : decode cX5_block 360 = .ok (.istore 7, 2) := by decide +kernel
theorem dX5_block_362 : decode cX5_block 362 = .ok (.iload 7, 2) := by decide +kernel
theorem dX5_block_364 : decode cX5_block 364 = .ok (.ifCond .le 25, 3) := by decide +kernel
theorem dX5_block_367 : decode cX5_block 367 = .ok (.aload_n 0, 1) := by decide +kernel
theorem dX5_block_368 : decode cX5_block 368 = .ok (.getfield 142, 3) := by decide +kernel
theorem dX5_block_371 : decode cX5_block 371 = .ok (.iload 7, 2) := by decide +kernel
theorem dX5_block_373 : decode cX5_block 373 = .ok (.aload_n 0, 1) := by decide +kernel
theorem dX5_block_374 : decode cX5_block 374 = .ok (.getfield 142, 3) := by decide +kernel
theorem dX5_block_377 : decode cX5_block 377 = .ok (.iload 7, 2) := by decide +kernel
theorem dX5_block_379 : decode cX5_block 379 = .ok (.iconst 1, 1) := by decide +kernel
theorem dX5_block_380 : decode cX5_block 380 = .ok (.isub, 1) := by decide +kernel
theorem dX5_block_381 : decode cX5_block 381 = .ok (.iaload, 1) := by decide +kernel
theorem dX5_block_382 : decode cX5_block 382 = .ok (.iastore, 1) := by decide +kernel
theorem dX5_block_383 : decode cX5_block 383 = .ok (.iinc 7 (-1), 3) := by decide +kernel
theorem dX5_block_386 : decode cX5_block 386 = .ok (.goto (-24), 3) := by decide +kernel
theorem dX5_block_389 : decode cX5_block 389 = .ok (.aload_n 0, 1) := by decide +kernel
theorem dX5_block_390 : decode cX5_block 390 = .ok (.getfield 142, 3) := by decide +kernel
theorem dX5_block_393 : decode cX5_block 393 = .ok (.iconst 4, 1) := by decide +kernel
theorem dX5_block_394 : decode cX5_block 394 = .ok (.dup2, 1) := by decide +kernel
theorem dX5_block_395 : decode cX5_block 395 = .ok (.iaload, 1) := by decide +kernel
theorem dX5_block_396 : decode cX5_block 396 = .ok (.iload 5, 2) := by decide +kernel
theorem dX5_block_398 : decode cX5_block 398 = .ok (.iadd, 1) := by decide +kernel
theorem dX5_block_399 : decode cX5_block 399 = .ok (.iastore, 1) := by decide +kernel
theorem dX5_block_400 : decode cX5_block 400 = .ok (.aload_n 0, 1) := by decide +kernel
theorem dX5_block_401 : decode cX5_block 401 = .ok (.getfield 142, 3) := by decide +kernel
theorem dX5_block_404 : decode cX5_block 404 = .ok (.iconst 0, 1) := by decide +kernel
theorem dX5_block_405 : decode cX5_block 405 = .ok (.iload 5, 2) := by decide +kernel
theorem dX5_block_407 : decode cX5_block 407 = .ok (.iload 6, 2) := by decide +kernel
theorem dX5_block_409 : decode cX5_block 409 = .ok (.iadd, 1) := by decide +kernel
theorem dX5_block_410 : decode cX5_block 410 = .ok (.iastore, 1) := by decide +kernel
theorem dX5_block_411 : decode cX5_block 411 = .ok (.iinc 2 1, 3) := by decide +kernel
theorem dX5_block_414 : decode cX5_block 414 = .ok (.goto (-200), 3) := by decide +kernel
theorem dX5_block_417 : decode cX5_block 417 = .ok (.iconst 0, 1) := by decide +kernel
theorem dX5_block_418 : decode cX5_block 418 = .ok (.istore_n 2, 1) := by decide +kernel
theorem dX5_block_419 : decode cX5_block 419 = .ok (.iload_n 2, 1) := by decide +kernel
theorem dX5_block_420 : decode cX5_block 420 = .ok (.bipush 8, 2) := by decide +kernel
theorem dX5_block_422 : decode cX5_block 422 = .ok (.if_icmp .ge 24, 3) := by decide +kernel
theorem dX5_block_425 : decode cX5_block 425 = .ok (.aload_n 0, 1) := by decide +kernel
theorem dX5_block_426 : decode cX5_block 426 = .ok (.getfield 139, 3) := by decide +kernel
theorem dX5_block_429 : decode cX5_block 429 = .ok (.iload_n 2, 1) := by decide +kernel
theorem dX5_block_430 : decode cX5_block 430 = .ok (.dup2, 1) := by decide +kernel
theorem dX5_block_431 : decode cX5_block 431 = .ok (.iaload, 1) := by decide +kernel
theorem dX5_block_432 : decode cX5_block 432 = .ok (.aload_n 0, 1) := by decide +kernel
theorem dX5_block_433 : decode cX5_block 433 = .ok (.getfield 142, 3) := by decide +kernel
theorem dX5_block_436 : decode cX5_block 436 = .ok (.iload_n 2, 1) := by decide +kernel
theorem dX5_block_437 : decode cX5_block 437 = .ok (.iaload, 1) := by decide +kernel
theorem dX5_block_438 : decode cX5_block 438 = .ok (.iadd, 1) := by decide +kernel
theorem dX5_block_439 : decode cX5_block 439 = .ok (.iastore, 1) := by decide +kernel
theorem dX5_block_440 : decode cX5_block 440 = .ok (.iinc 2 1, 3) := by decide +kernel
theorem dX5_block_443 : decode cX5_block 443 = .ok (.goto (-24), 3) := by decide +kernel
theorem dX5_block_446 : decode cX5_block 446 = .ok (.return_, 1) := by decide +kernel
set_option maxRecDepth 20000 in
theorem ggX5_digestTo_X5_put : GoodIn wsX5_digestTo wsX5_put := goodIn_r _ [16, 17, 1, 28, 29, 30, 31, 32, 33, 34, 35, 36, 37, 38, 39, 40, 41, 42, 43, 44, 45, 46, 47, 48, 49, 50, 51, 52, 53, 54, 55, 56, 57, 58, 59, 60, 61] (by decide +kernel) (by decide +kernel)
set_option maxRecDepth 20000 in
theorem gX5_digestTo_X5_put : GoodIn wsX5_digestTo (wsV RX5 159 RX5 yX5_put wsX5_put) := goodIn_app (goodIn_of _ (by decide +kernel)) ggX5_digestTo_X5_put
set_option maxRecDepth 20000 in
theorem ggX5_digestTo_X5_block : GoodIn wsX5_digestTo wsX5_block := goodIn_r _ [21, 22, 17, 23, 2, 24, 25, 26, 15, 27, 28, 29, 30, 31, 32, 33, 34, 35, 36, 37, 38, 39, 40, 41, 42, 43, 44, 45, 46, 47, 48, 49, 50, 51, 52, 53, 54, 55, 56, 57, 58, 59, 60, 61] (by decide +kernel) (by decide +kernel)
set_option maxRecDepth 20000 in
theorem gX5_digestTo_X5_block : GoodIn wsX5_digestTo (wsV RX5 179 RX5 yX5_block wsX5_block) := goodIn_app (goodIn_of _ (by decide +kernel)) ggX5_digestTo_X5_block
theorem dX5_digestTo_0 : decode cX5_digestTo 0 = .ok (.aload_n 0, 1) := by decide +kernel
theorem dX5_digestTo_1 : decode cX5_digestTo 1 = .ok (.getfield 156, 3) := by decide +kernel
theorem dX5_digestTo_4 : decode cX5_digestTo 4 = .ok (.istore_n 2, 1) := by decide +kernel
theorem dX5_digestTo_5 : decode cX5_digestTo 5 = .ok (.aload_n 0, 1) := by decide +kernel
theorem dX5_digestTo_6 : decode cX5_digestTo 6 = .ok (.sipush 128, 3) := by decide +kernel
theorem dX5_digestTo_9 : decode cX5_digestTo 9 = .ok (.invokevirtual 159, 3) := by decide +kernel
theorem dX5_digestTo_12 : decode cX5_digestTo 12 = .ok (.aload_n 0, 1) := by decide +kernel
theorem dX5_digestTo_13 : decode cX5_digestTo 13 = .ok (.getfield 156, 3) := by decide +kernel
theorem dX5_digestTo_16 : decode cX5_digestTo 16 = .ok (.bipush 64, 2) := by decide +kernel
theorem dX5_digestTo_18 : decode cX5_digestTo 18 = .ok (.irem, 1) := by decide +kernel
theorem dX5_digestTo_19 : decode cX5_digestTo 19 = .ok (.bipush 56, 2) := by decide +kernel
theorem dX5_digestTo_21 : decode cX5_digestTo 21 = .ok (.if_icmp .eq 11, 3) := by decide +kernel
theorem dX5_digestTo_24 : decode cX5_digestTo 24 = .ok (.aload_n 0, 1) := by decide +kernel
theorem dX5_digestTo_25 : decode cX5_digestTo 25 = .ok (.iconst 0, 1) := by decide +kernel
theorem dX5_digestTo_26 : decode cX5_digestTo 26 = .ok (.invokevirtual 159, 3) := by decide +kernel
theorem dX5_digestTo_29 : decode cX5_digestTo 29 = .ok (.goto (-17), 3) := by decide +kernel
theorem dX5_digestTo_32 : decode cX5_digestTo 32 = .ok (.iconst 0, 1) := by decide +kernel
theorem dX5_digestTo_33 : decode cX5_digestTo 33 = .ok (.istore_n 3, 1) := by decide +kernel
theorem dX5_digestTo_34 : decode cX5_digestTo 34 = .ok (.iload_n 3, 1) := by decide +kernel
theorem dX5_digestTo_35 : decode cX5_digestTo 35 = .ok (.bipush 6, 2) := by decide +kernel
theorem dX5_digestTo_37 : decode cX5_digestTo 37 = .ok (.if_icmp .ge 14, 3) := by decide +kernel
theorem dX5_digestTo_40 : decode cX5_digestTo 40 = .ok (.aload_n 0, 1) := by decide +kernel
theorem dX5_digestTo_41 : decode cX5_digestTo 41 = .ok (.iconst 0, 1) := by decide +kernel
theorem dX5_digestTo_42 : decode cX5_digestTo 42 = .ok (.invokevirtual 159, 3) := by decide +kernel
theorem dX5_digestTo_45 : decode cX5_digestTo 45 = .ok (.iinc 3 1, 3) := by decide +kernel
theorem dX5_digestTo_48 : decode cX5_digestTo 48 = .ok (.goto (-14), 3) := by decide +kernel
theorem dX5_digestTo_51 : decode cX5_digestTo 51 = .ok (.aload_n 0, 1) := by decide +kernel
theorem dX5_digestTo_52 : decode cX5_digestTo 52 = .ok (.bipush 8, 2) := by decide +kernel
theorem dX5_digestTo_54 : decode cX5_digestTo 54 = .ok (.iload_n 2, 1) := by decide +kernel
theorem dX5_digestTo_55 : decode cX5_digestTo 55 = .ok (.imul, 1) := by decide +kernel
theorem dX5_digestTo_56 : decode cX5_digestTo 56 = .ok (.bipush 8, 2) := by decide +kernel
theorem dX5_digestTo_58 : decode cX5_digestTo 58 = .ok (.ishr, 1) := by decide +kernel
theorem dX5_digestTo_59 : decode cX5_digestTo 59 = .ok (.invokevirtual 159, 3) := by decide +kernel
theorem dX5_digestTo_62 : decode cX5_digestTo 62 = .ok (.aload_n 0, 1) := by decide +kernel
theorem dX5_digestTo_63 : decode cX5_digestTo 63 = .ok (.bipush 8, 2) := by decide +kernel
theorem dX5_digestTo_65 : decode cX5_digestTo 65 = .ok (.iload_n 2, 1) := by decide +kernel
theorem dX5_digestTo_66 : decode cX5_digestTo 66 = .ok (.imul, 1) := by decide +kernel
theorem dX5_digestTo_67 : decode cX5_digestTo 67 = .ok (.invokevirtual 159, 3) := by decide +kernel
theorem dX5_digestTo_70 : decode cX5_digestTo 70 = .ok (.aload_n 0, 1) := by decide +kernel
theorem dX5_digestTo_71 : decode cX5_digestTo 71 = .ok (.getfield 139, 3) := by decide +kernel
theorem dX5_digestTo_74 : decode cX5_digestTo 74 = .ok (.iconst 0, 1) := by decide +kernel
theorem dX5_digestTo_75 : decode cX5_digestTo 75 = .ok (.ldc 171, 2) := by decide +kernel
theorem dX5_digestTo_77 : decode cX5_digestTo 77 = .ok (.iastore, 1) := by decide +kernel
theorem dX5_digestTo_78 : decode cX5_digestTo 78 = .ok (.aload_n 0, 1) := by decide +kernel
theorem dX5_digestTo_79 : decode cX5_digestTo 79 = .ok (.getfield 139, 3) := by decide +kernel
theorem dX5_digestTo_82 : decode cX5_digestTo 82 = .ok (.iconst 1, 1) := by decide +kernel
theorem dX5_digestTo_83 : decode cX5_digestTo 83 = .ok (.ldc 172, 2) := by decide +kernel
theorem dX5_digestTo_85 : decode cX5_digestTo 85 = .ok (.iastore, 1) := by decide +kernel
theorem dX5_digestTo_86 : decode cX5_digestTo 86 = .ok (.aload_n 0, 1) := by decide +kernel
theorem dX5_digestTo_87 : decode cX5_digestTo 87 = .ok (.getfield 139, 3) := by decide +kernel
theorem dX5_digestTo_90 : decode cX5_digestTo 90 = .ok (.iconst 2, 1) := by decide +kernel
theorem dX5_digestTo_91 : decode cX5_digestTo 91 = .ok (.ldc 173, 2) := by decide +kernel
theorem dX5_digestTo_93 : decode cX5_digestTo 93 = .ok (.iastore, 1) := by decide +kernel
theorem dX5_digestTo_94 : decode cX5_digestTo 94 = .ok (.aload_n 0, 1) := by decide +kernel
theorem dX5_digestTo_95 : decode cX5_digestTo 95 = .ok (.getfield 139, 3) := by decide +kernel
theorem dX5_digestTo_98 : decode cX5_digestTo 98 = .ok (.iconst 3, 1) := by decide +kernel
theorem dX5_digestTo_99 : decode cX5_digestTo 99 = .ok (.ldc 174, 2) := by decide +kernel
theorem dX5_digestTo_101 : decode cX5_digestTo 101 = .ok (.iastore, 1) := by decide +kernel
theorem dX5_digestTo_102 : decode cX5_digestTo 102 = .ok (.aload_n 0, 1) := by decide +kernel
theorem dX5_digestTo_103 : decode cX5_digestTo 103 = .ok (.getfield 139, 3) := by decide +kernel
theorem dX5_digestTo_106 : decode cX5_digestTo 106 = .ok (.iconst 4, 1) := by decide +kernel
theorem dX5_digestTo_107 : decode cX5_digestTo 107 = .ok (.ldc 175, 2) := by decide +kernel
theorem dX5_digestTo_109 : decode cX5_digestTo 109 = .ok (.iastore, 1) := by decide +kernel
theorem dX5_digestTo_110 : decode cX5_digestTo 110 = .ok (.aload_n 0, 1) := by decide +kernel
theorem dX5_digestTo_111 : decode cX5_digestTo 111 = .ok (.getfield 139, 3) := by decide +kernel
theorem dX5_digestTo_114 : decode cX5_digestTo 114 = .ok (.iconst 5, 1) := by decide +kernel
theorem dX5_digestTo_115 : decode cX5_digestTo 115 = .ok (.ldc 176, 2) := by decide +kernel
theorem dX5_digestTo_117 : decode cX5_digestTo 117 = .ok (.iastore, 1) := by decide +kernel
