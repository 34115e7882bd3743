theorem dX11_init_0 : decode cX11_init 0 = .ok (.aload_n 0, 1) := by decide +kernel
theorem dX11_init_1 : decode cX11_init 1 = .ok (.invokespecial 1, 3) := by decide +kernel
theorem dX11_init_4 : decode cX11_init 4 = .ok (.aload_n 0, 1) := by decide +kernel
theorem dX11_init_5 : decode cX11_init 5 = .ok (.sipush 235, 3) := by decide +kernel
theorem dX11_init_8 : decode cX11_init 8 = .ok (.newarray .int, 2) := by decide +kernel
theorem dX11_init_10 : decode cX11_init 10 = .ok (.putfield 7, 3) := by decide +kernel
theorem dX11_init_13 : decode cX11_init 13 = .ok (.aload_n 0, 1) := by decide +kernel
theorem dX11_init_14 : decode cX11_init 14 = .ok (.iconst 5, 1) := by decide +kernel
theorem dX11_init_15 : decode cX11_init 15 = .ok (.putfield 13, 3) := by decide +kernel
theorem dX11_init_18 : decode cX11_init 18 = .ok (.aload_n 0, 1) := by decide +kernel
theorem dX11_init_19 : decode cX11_init 19 = .ok (.bipush 47, 2) := by decide +kernel
theorem dX11_init_21 : decode cX11_init 21 = .ok (.newarray .int, 2) := by decide +kernel
theorem dX11_init_23 : decode cX11_init 23 = .ok (.putfield 17, 3) := by decide +kernel
theorem dX11_init_26 : decode cX11_init 26 = .ok (.aload_n 0, 1) := by decide +kernel
theorem dX11_init_27 : decode cX11_init 27 = .ok (.bipush 9, 2) := by decide +kernel
theorem dX11_init_29 : decode cX11_init 29 = .ok (.newarray .int, 2) := by decide +kernel
theorem dX11_init_31 : decode cX11_init 31 = .ok (.putfield 20, 3) := by decide +kernel
theorem dX11_init_34 : decode cX11_init 34 = .ok (.aload_n 0, 1) := by decide +kernel
theorem dX11_init_35 : decode cX11_init 35 = .ok (.sipush 320, 3) := by decide +kernel
theorem dX11_init_38 : decode cX11_init 38 = .ok (.newarray .int, 2) := by decide +kernel
theorem dX11_init_40 : decode cX11_init 40 = .ok (.putfield 23, 3) := by decide +kernel
theorem dX11_init_43 : decode cX11_init 43 = .ok (.aload_n 0, 1) := by decide +kernel
theorem dX11_init_44 : decode cX11_init 44 = .ok (.bipush 15, 2) := by decide +kernel
theorem dX11_init_46 : decode cX11_init 46 = .ok (.newarray .int, 2) := by decide +kernel
theorem dX11_init_48 : decode cX11_init 48 = .ok (.dup, 1) := by decide +kernel
theorem dX11_init_49 : decode cX11_init 49 = .ok (.iconst 0, 1) := by decide +kernel
theorem dX11_init_50 : decode cX11_init 50 = .ok (.iconst 0, 1) := by decide +kernel
theorem dX11_init_51 : decode cX11_init 51 = .ok (.iastore, 1) := by decide +kernel
theorem dX11_init_52 : decode cX11_init 52 = .ok (.dup, 1) := by decide +kernel
theorem dX11_init_53 : decode cX11_init 53 = .ok (.iconst 1, 1) := by decide +kernel
theorem dX11_init_54 : decode cX11_init 54 = .ok (.iconst 5, 1) := by decide +kernel
theorem dX11_init_55 : decode cX11_init 55 = .ok (.iastore, 1) := by decide +kernel
theorem dX11_init_56 : decode cX11_init 56 = .ok (.dup, 1) := by decide +kernel
theorem dX11_init_57 : decode cX11_init 57 = .ok (.iconst 2, 1) := by decide +kernel
theorem dX11_init_58 : decode cX11_init 58 = .ok (.bipush 9, 2) := by decide +kernel
theorem dX11_init_60 : decode cX11_init 60 = .ok (.iastore, 1) := by decide +kernel
theorem dX11_init_61 : decode cX11_init 61 = .ok (.dup, 1) := by decide +kernel
theorem dX11_init_62 : decode cX11_init 62 = .ok (.iconst 3, 1) := by decide +kernel
theorem dX11_init_63 : decode cX11_init 63 = .ok (.bipush 14, 2) := by decide +kernel
theorem dX11_init_65 : decode cX11_init 65 = .ok (.iastore, 1) := by decide +kernel
theorem dX11_init_66 : decode cX11_init 66 = .ok (.dup, 1) := by decide +kernel
theorem dX11_init_67 : decode cX11_init 67 = .ok (.iconst 4, 1) := by decide +kernel
theorem dX11_init_68 : decode cX11_init 68 = .ok (.bipush 19, 2) := by decide +kernel
theorem dX11_init_70 : decode cX11_init 70 = .ok (.iastore, 1) := by decide +kernel
theorem dX11_init_71 : decode cX11_init 71 = .ok (.dup, 1) := by decide +kernel
theorem dX11_init_72 : decode cX11_init 72 = .ok (.iconst 5, 1) := by decide +kernel
theorem dX11_init_73 : decode cX11_init 73 = .ok (.bipush 22, 2) := by decide +kernel
theorem dX11_init_75 : decode cX11_init 75 = .ok (.iastore, 1) := by decide +kernel
theorem dX11_init_76 : decode cX11_init 76 = .ok (.dup, 1) := by decide +kernel
theorem dX11_init_77 : decode cX11_init 77 = .ok (.bipush 6, 2) := by decide +kernel
theorem dX11_init_79 : decode cX11_init 79 = .ok (.bipush 26, 2) := by decide +kernel
theorem dX11_init_81 : decode cX11_init 81 = .ok (.iastore, 1) := by decide +kernel
theorem dX11_init_82 : decode cX11_init 82 = .ok (.dup, 1) := by decide +kernel
theorem dX11_init_83 : decode cX11_init 83 = .ok (.bipush 7, 2) := by decide +kernel
theorem dX11_init_85 : decode cX11_init 85 = .ok (.bipush 31, 2) := by decide +kernel
theorem dX11_init_87 : decode cX11_init 87 = .ok (.iastore, 1) := by decide +kernel
theorem dX11_init_88 : decode cX11_init 88 = .ok (.dup, 1) := by decide +kernel
theorem dX11_init_89 : decode cX11_init 89 = .ok (.bipush 8, 2) := by decide +kernel
theorem dX11_init_91 : decode cX11_init 91 = .ok (.bipush 35, 2) := by decide +kernel
theorem dX11_init_93 : decode cX11_init 93 = .ok (.iastore, 1) := by decide +kernel
theorem dX11_init_94 : decode cX11_init 94 = .ok (.dup, 1) := by decide +kernel
theorem dX11_init_95 : decode cX11_init 95 = .ok (.bipush 9, 2) := by decide +kernel
theorem dX11_init_97 : decode cX11_init 97 = .ok (.bipush 40, 2) := by decide +kernel
theorem dX11_init_99 : decode cX11_init 99 = .ok (.iastore, 1) := by decide +kernel
theorem dX11_init_100 : decode cX11_init 100 = .ok (.dup, 1) := by decide +kernel
theorem dX11_init_101 : decode cX11_init 101 = .ok (.bipush 10, 2) := by decide +kernel
theorem dX11_init_103 : decode cX11_init 103 = .ok (.bipush 43, 2) := by decide +kernel
theorem dX11_init_105 : decode cX11_init 105 = .ok (.iastore, 1) := by decide +kernel
theorem dX11_init_106 : decode cX11_init 106 = .ok (.dup, 1) := by decide +kernel
theorem dX11_init_107 : decode cX11_init 107 = .ok (.bipush 11, 2) := by decide +kernel
theorem dX11_init_109 : decode cX11_init 109 = .ok (.bipush 47, 2) := by decide +kernel
theorem dX11_init_111 : decode cX11_init 111 = .ok (.iastore, 1) := by decide +kernel
theorem dX11_init_112 : decode cX11_init 112 = .ok (.dup, 1) := by decide +kernel
theorem dX11_init_113 : decode cX11_init 113 = .ok (.bipush 12, 2) := by decide +kernel
theorem dX11_init_115 : decode cX11_init 115 = .ok (.bipush 53, 2) := by decide +kernel
theorem dX11_init_117 : decode cX11_init 117 = .ok (.iastore, 1) := by decide +kernel
theorem dX11_init_118 : decode cX11_init 118 = .ok (.dup, 1) := by decide +kernel
theorem dX11_init_119 : decode cX11_init 119 = .ok (.bipush 13, 2) := by decide +kernel
theorem dX11_init_121 : decode cX11_init 121 = .ok (.bipush 57, 2) := by decide +kernel
theorem dX11_init_123 : decode cX11_init 123 = .ok (.iastore, 1) := by decide +kernel
theorem dX11_init_124 : decode cX11_init 124 = .ok (.dup, 1) := by decide +kernel
theorem dX11_init_125 : decode cX11_init 125 = .ok (.bipush 14, 2) := by decide +kernel
theorem dX11_init_127 : decode cX11_init 127 = .ok (.bipush 64, 2) := by decide +kernel
theorem dX11_init_129 : decode cX11_init 129 = .ok (.iastore, 1) := by decide +kernel
theorem dX11_init_130 : decode cX11_init 130 = .ok (.putfield 26, 3) := by decide +kernel
theorem dX11_init_133 : decode cX11_init 133 = .ok (.aload_n 0, 1) := by decide +kernel
theorem dX11_init_134 : decode cX11_init 134 = .ok (.bipush 64, 2) := by decide +kernel
theorem dX11_init_136 : decode cX11_init 136 = .ok (.newarray .int, 2) := by decide +kernel
theorem dX11_init_138 : decode cX11_init 138 = .ok (.dup, 1) := by decide +kernel
theorem dX11_init_139 : decode cX11_init 139 = .ok (.iconst 0, 1) := by decide +kernel
theorem dX11_init_140 : decode cX11_init 140 = .ok (.bipush 99, 2) := by decide +kernel
theorem dX11_init_142 : decode cX11_init 142 = .ok (.iastore, 1) := by decide +kernel
theorem dX11_init_143 : decode cX11_init 143 = .ok (.dup, 1) := by decide +kernel
theorem dX11_init_144 : decode cX11_init 144 = .ok (.iconst 1, 1) := by decide +kernel
theorem dX11_init_145 : decode cX11_init 145 = .ok (.bipush 101, 2) := by decide +kernel
theorem dX11_init_147 : decode cX11_init 147 = .ok (.iastore, 1) := by decide +kernel
theorem dX11_init_148 : decode cX11_init 148 = .ok (.dup, 1) := by decide +kernel
theorem dX11_init_149 : decode cX11_init 149 = .ok (.iconst 2, 1) := by decide +kernel
theorem dX11_init_150 : decode cX11_init 150 = .ok (.bipush 108, 2) := by decide +kernel
theorem dX11_init_152 : decode cX11_init 152 = .ok (.iastore, 1) := by decide +kernel
theorem dX11_init_153 : decode cX11_init 153 = .ok (.dup, 1) := by decide +kernel
theorem dX11_init_154 : decode cX11_init 154 = .ok (.iconst 3, 1) := by decide +kernel
theorem dX11_init_155 : decode cX11_init 155 = .ok (.bipush 108, 2) := by decide +kernel
theorem dX11_init_157 : decode cX11_init 157 = .ok (.iastore, 1) := by decide +kernel
theorem dX11_init_158 : decode cX11_init 158 = .ok (.dup, 1) := by decide +kernel
theorem dX11_init_159 : decode cX11_init 159 = .ok (.iconst 4, 1) := by decide +kernel
theorem dX11_init_160 : decode cX11_init 160 = .ok (.bipush 115, 2) := by decide +kernel
theorem dX11_init_162 : decode cX11_init 162 = .ok (.iastore, 1) := by decide +kernel
theorem dX11_init_163 : decode cX11_init 163 = .ok (.dup, 1) := by decide +kernel
theorem dX11_init_164 : decode cX11_init 164 = .ok (.iconst 5, 1) := by decide +kernel
theorem dX11_init_165 : decode cX11_init 165 = .ok (.bipush 114, 2) := by decide +kernel
theorem dX11_init_167 : decode cX11_init 167 = .ok (.iastore, 1) := by decide +kernel
theorem dX11_init_168 : decode cX11_init 168 = .ok (.dup, 1) := by decide +kernel
theorem dX11_init_169 : decode cX11_init 169 = .ok (.bipush 6, 2) := by decide +kernel
theorem dX11_init_171 : decode cX11_init 171 = .ok (.bipush 111, 2) := by decide +kernel
theorem dX11_init_173 : decode cX11_init 173 = .ok (.iastore, 1) := by decide +kernel
theorem dX11_init_174 : decode cX11_init 174 = .ok (.dup, 1) := by decide +kernel
theorem dX11_init_175 : decode cX11_init 175 = .ok (.bipush 7, 2) := by decide +kernel
theorem dX11_init_177 : decode cX11_init 177 = .ok (.bipush 111, 2) := by decide +kernel
theorem dX11_init_179 : decode cX11_init 179 = .ok (.iastore, 1) := by decide +kernel
theorem dX11_init_180 : decode cX11_init 180 = .ok (.dup, 1) := by decide +kernel
theorem dX11_init_181 : decode cX11_init 181 = .ok (.bipush 8, 2) := by decide +kernel
theorem dX11_init_183 : decode cX11_init 183 = .ok (.bipush 109, 2) := by decide +kernel
theorem dX11_init_185 : decode cX11_init 185 = .ok (.iastore, 1) := by decide +kernel
theorem dX11_init_186 : decode cX11_init 186 = .ok (.dup, 1) := by decide +kernel
theorem dX11_init_187 : decode cX11_init 187 = .ok (.bipush 9, 2) := by decide +kernel
theorem dX11_init_189 : decode cX11_init 189 = .ok (.bipush 115, 2) := by decide +kernel
theorem dX11_init_191 : decode cX11_init 191 = .ok (.iastore, 1) := by decide +kernel
theorem dX11_init_192 : decode cX11_init 192 = .ok (.dup, 1) := by decide +kernel
theorem dX11_init_193 : decode cX11_init 193 = .ok (.bipush 10, 2) := by decide +kernel
theorem dX11_init_195 : decode cX11_init 195 = .ok (.bipush 108, 2) := by decide +kernel
theorem dX11_init_197 : decode cX11_init 197 = .ok (.iastore, 1) := by decide +kernel
theorem dX11_init_198 : decode cX11_init 198 = .ok (.dup, 1) := by decide +kernel
theorem dX11_init_199 : decode cX11_init 199 = .ok (.bipush 11, 2) := by decide +kernel
theorem dX11_init_201 : decode cX11_init 201 = .ok (.bipush 111, 2) := by decide +kernel
theorem dX11_init_203 : decode cX11_init 203 = .ok (.iastore, 1) := by decide +kernel
theorem dX11_init_204 : decode cX11_init 204 = .ok (.dup, 1) := by decide +kernel
theorem dX11_init_205 : decode cX11_init 205 = .ok (.bipush 12, 2) := by decide +kernel
theorem dX11_init_207 : decode cX11_init 207 = .ok (.bipush 112, 2) := by decide +kernel
theorem dX11_init_209 : decode cX11_init 209 = .ok (.iastore, 1) := by decide +kernel
theorem dX11_init_210 : decode cX11_init 210 = .ok (.dup, 1) := by decide +kernel
theorem dX11_init_211 : decode cX11_init 211 = .ok (.bipush 13, 2) := by decide +kernel
theorem dX11_init_213 : decode cX11_init 213 = .ok (.bipush 101, 2) := by decide +kernel
theorem dX11_init_215 : decode cX11_init 215 = .ok (.iastore, 1) := by decide +kernel
theorem dX11_init_216 : decode cX11_init 216 = .ok (.dup, 1) := by decide +kernel
theorem dX11_init_217 : decode cX11_init 217 = .ok (.bipush 14, 2) := by decide +kernel
theorem dX11_init_219 : decode cX11_init 219 = .ok (.bipush 104, 2) := by decide +kernel
theorem dX11_init_221 : decode cX11_init 221 = .ok (.iastore, 1) := by decide +kernel
theorem dX11_init_222 : decode cX11_init 222 = .ok (.dup, 1) := by decide +kernel
theorem dX11_init_223 : decode cX11_init 223 = .ok (.bipush 15, 2) := by decide +kernel
theorem dX11_init_225 : decode cX11_init 225 = .ok (.bipush 101, 2) := by decide +kernel
theorem dX11_init_227 : decode cX11_init 227 = .ok (.iastore, 1) := by decide +kernel
theorem dX11_init_228 : decode cX11_init 228 = .ok (.dup, 1) := by decide +kernel
theorem dX11_init_229 : decode cX11_init 229 = .ok (.bipush 16, 2) := by decide +kernel
theorem dX11_init_231 : decode cX11_init 231 = .ok (.bipush 100, 2) := by decide +kernel
theorem dX11_init_233 : decode cX11_init 233 = .ok (.iastore, 1) := by decide +kernel
theorem dX11_init_234 : decode cX11_init 234 = .ok (.dup, 1) := by decide +kernel
theorem dX11_init_235 : decode cX11_init 235 = .ok (.bipush 17, 2) := by decide +kernel
theorem dX11_init_237 : decode cX11_init 237 = .ok (.bipush 103, 2) := by decide +kernel
theorem dX11_init_239 : decode cX11_init 239 = .ok (.iastore, 1) := by decide +kernel
theorem dX11_init_240 : decode cX11_init 240 = .ok (.dup, 1) := by decide +kernel
theorem dX11_init_241 : decode cX11_init 241 = .ok (.bipush 18, 2) := by decide +kernel
theorem dX11_init_243 : decode cX11_init 243 = .ok (.bipush 101, 2) := by decide +kernel
theorem dX11_init_245 : decode cX11_init 245 = .ok (.iastore, 1) := by decide +kernel
theorem dX11_init_246 : decode cX11_init 246 = .ok (.dup, 1) := by decide +kernel
theorem dX11_init_247 : decode cX11_init 247 = .ok (.bipush 19, 2) := by decide +kernel
theorem dX11_init_249 : decode cX11_init 249 = .ok (.bipush 107, 2) := by decide +kernel
theorem dX11_init_251 : decode cX11_init 251 = .ok (.iastore, 1) := by decide +kernel
theorem dX11_init_252 : decode cX11_init 252 = .ok (.dup, 1) := by decide +kernel
theorem dX11_init_253 : decode cX11_init 253 = .ok (.bipush 20, 2) := by decide +kernel
theorem dX11_init_255 : decode cX11_init 255 = .ok (.bipush 101, 2) := by decide +kernel
theorem dX11_init_257 : decode cX11_init 257 = .ok (.iastore, 1) := by decide +kernel
theorem dX11_init_258 : decode cX11_init 258 = .ok (.dup, 1) := by decide +kernel
theorem dX11_init_259 : decode cX11_init 259 = .ok (.bipush 21, 2) := by decide +kernel
theorem dX11_init_261 : decode cX11_init 261 = .ok (.bipush 103, 2) := by decide +kernel
theorem dX11_init_263 : decode cX11_init 263 = .ok (.iastore, 1) := by decide +kernel
theorem dX11_init_264 : decode cX11_init 264 = .ok (.dup, 1) := by decide +kernel
theorem dX11_init_265 : decode cX11_init 265 = .ok (.bipush 22, 2) := by decide +kernel
theorem dX11_init_267 : decode cX11_init 267 = .ok (.bipush 115, 2) := by decide +kernel
theorem dX11_init_269 : decode cX11_init 269 = .ok (.iastore, 1) := by decide +kernel
theorem dX11_init_270 : decode cX11_init 270 = .ok (.dup, 1) := by decide +kernel
theorem dX11_init_271 : decode cX11_init 271 = .ok (.bipush 23, 2) := by decide +kernel
theorem dX11_init_273 : decode cX11_init 273 = .ok (.bipush 105, 2) := by decide +kernel
theorem dX11_init_275 : decode cX11_init 275 = .ok (.iastore, 1) := by decide +kernel
theorem dX11_init_276 : decode cX11_init 276 = .ok (.dup, 1) := by decide +kernel
theorem dX11_init_277 : decode cX11_init 277 = .ok (.bipush 24, 2) := by decide +kernel
theorem dX11_init_279 : decode cX11_init 279 = .ok (.bipush 100, 2) := by decide +kernel
theorem dX11_init_281 : decode cX11_init 281 = .ok (.iastore, 1) := by decide +kernel
theorem dX11_init_282 : decode cX11_init 282 = .ok (.dup, 1) := by decide +kernel
theorem dX11_init_283 : decode cX11_init 283 = .ok (.bipush 25, 2) := by decide +kernel
theorem dX11_init_285 : decode cX11_init 285 = .ok (.bipush 101, 2) := by decide +kernel
theorem dX11_init_287 : decode cX11_init 287 = .ok (.iastore, 1) := by decide +kernel
theorem dX11_init_288 : decode cX11_init 288 = .ok (.dup, 1) := by decide +kernel
theorem dX11_init_289 : decode cX11_init 289 = .ok (.bipush 26, 2) := by decide +kernel
theorem dX11_init_291 : decode cX11_init 291 = .ok (.bipush 102, 2) := by decide +kernel
theorem dX11_init_293 : decode cX11_init 293 = .ok (.iastore, 1) := by decide +kernel
theorem dX11_init_294 : decode cX11_init 294 = .ok (.dup, 1) := by decide +kernel
theorem dX11_init_295 : decode cX11_init 295 = .ok (.bipush 27, 2) := by decide +kernel
theorem dX11_init_297 : decode cX11_init 297 = .ok (.bipush 111, 2) := by decide +kernel
theorem dX11_init_299 : decode cX11_init 299 = .ok (.iastore, 1) := by decide +kernel
theorem dX11_init_300 : decode cX11_init 300 = .ok (.dup, 1) := by decide +kernel
theorem dX11_init_301 : decode cX11_init 301 = .ok (.bipush 28, 2) := by decide +kernel
theorem dX11_init_303 : decode cX11_init 303 = .ok (.bipush 111, 2) := by decide +kernel
theorem dX11_init_305 : decode cX11_init 305 = .ok (.iastore, 1) := by decide +kernel
theorem dX11_init_306 : decode cX11_init 306 = .ok (.dup, 1) := by decide +kernel
theorem dX11_init_307 : decode cX11_init 307 = .ok (.bipush 29, 2) := by decide +kernel
theorem dX11_init_309 : decode cX11_init 309 = .ok (.bipush 108, 2) := by decide +kernel
theorem dX11_init_311 : decode cX11_init 311 = .ok (.iastore, 1) := by decide +kernel
theorem dX11_init_312 : decode cX11_init 312 = .ok (.dup, 1) := by decide +kernel
theorem dX11_init_313 : decode cX11_init 313 = .ok (.bipush 30, 2) := by decide +kernel
theorem dX11_init_315 : decode cX11_init 315 = .ok (.bipush 115, 2) := by decide +kernel
theorem dX11_init_317 : decode cX11_init 317 = .ok (.iastore, 1) := by decide +kernel
theorem dX11_init_318 : decode cX11_init 318 = .ok (.dup, 1) := by decide +kernel
theorem dX11_init_319 : decode cX11_init 319 = .ok (.bipush 31, 2) := by decide +kernel
theorem dX11_init_321 : decode cX11_init 321 = .ok (.bipush 114, 2) := by decide +kernel
theorem dX11_init_323 : decode cX11_init 323 = .ok (.iastore, 1) := by decide +kernel
theorem dX11_init_324 : decode cX11_init 324 = .ok (.dup, 1) := by decide +kernel
theorem dX11_init_325 : decode cX11_init 325 = .ok (.bipush 32, 2) := by decide +kernel
theorem dX11_init_327 : decode cX11_init 327 = .ok (.bipush 101, 2) := by decide +kernel
theorem dX11_init_329 : decode cX11_init 329 = .ok (.iastore, 1) := by decide +kernel
theorem dX11_init_330 : decode cX11_init 330 = .ok (.dup, 1) := by decide +kernel
theorem dX11_init_331 : decode cX11_init 331 = .ok (.bipush 33, 2) := by decide +kernel
theorem dX11_init_333 : decode cX11_init 333 = .ok (.bipush 115, 2) := by decide +kernel
theorem dX11_init_335 : decode cX11_init 335 = .ok (.iastore, 1) := by decide +kernel
theorem dX11_init_336 : decode cX11_init 336 = .ok (.dup, 1) := by decide +kernel
theorem dX11_init_337 : decode cX11_init 337 = .ok (.bipush 34, 2) := by decide +kernel
theorem dX11_init_339 : decode cX11_init 339 = .ok (.bipush 116, 2) := by decide +kernel
theorem dX11_init_341 : decode cX11_init 341 = .ok (.iastore, 1) := by decide +kernel
theorem dX11_init_342 : decode cX11_init 342 = .ok (.dup, 1) := by decide +kernel
theorem dX11_init_343 : decode cX11_init 343 = .ok (.bipush 35, 2) := by decide +kernel
theorem dX11_init_345 : decode cX11_init 345 = .ok (.bipush 98, 2) := by decide +kernel
theorem dX11_init_347 : decode cX11_init 347 = .ok (.iastore, 1) := by decide +kernel
theorem dX11_init_348 : decode cX11_init 348 = .ok (.dup, 1) := by decide +kernel
theorem dX11_init_349 : decode cX11_init 349 = .ok (.bipush 36, 2) := by decide +kernel
theorem dX11_init_351 : decode cX11_init 351 = .ok (.bipush 114, 2) := by decide +kernel
theorem dX11_init_353 : decode cX11_init 353 = .ok (.iastore, 1) := by decide +kernel
theorem dX11_init_354 : decode cX11_init 354 = .ok (.dup, 1) := by decide +kernel
theorem dX11_init_355 : decode cX11_init 355 = .ok (.bipush 37, 2) := by decide +kernel
theorem dX11_init_357 : decode cX11_init 357 = .ok (.bipush 101, 2) := by decide +kernel
theorem dX11_init_359 : decode cX11_init 359 = .ok (.iastore, 1) := by decide +kernel
theorem dX11_init_360 : decode cX11_init 360 = .ok (.dup, 1) := by decide +kernel
theorem dX11_init_361 : decode cX11_init 361 = .ok (.bipush 38, 2) := by decide +kernel
theorem dX11_init_363 : decode cX11_init 363 = .ok (.bipush 97, 2) := by decide +kernel
theorem dX11_init_365 : decode cX11_init 365 = .ok (.iastore, 1) := by decide +kernel
theorem dX11_init_366 : decode cX11_init 366 = .ok (.dup, 1) := by decide +kernel
theorem dX11_init_367 : decode cX11_init 367 = .ok (.bipush 39, 2) := by decide +kernel
theorem dX11_init_369 : decode cX11_init 369 = .ok (.bipush 107, 2) := by decide +kernel
theorem dX11_init_371 : decode cX11_init 371 = .ok (.iastore, 1) := by decide +kernel
theorem dX11_init_372 : decode cX11_init 372 = .ok (.dup, 1) := by decide +kernel
theorem dX11_init_373 : decode cX11_init 373 = .ok (.bipush 40, 2) := by decide +kernel
theorem dX11_init_375 : decode cX11_init 375 = .ok (.bipush 97, 2) := by decide +kernel
theorem dX11_init_377 : decode cX11_init 377 = .ok (.iastore, 1) := by decide +kernel
theorem dX11_init_378 : decode cX11_init 378 = .ok (.dup, 1) := by decide +kernel
theorem dX11_init_379 : decode cX11_init 379 = .ok (.bipush 41, 2) := by decide +kernel
theorem dX11_init_381 : decode cX11_init 381 = .ok (.bipush 108, 2) := by decide +kernel
theorem dX11_init_383 : decode cX11_init 383 = .ok (.iastore, 1) := by decide +kernel
theorem dX11_init_384 : decode cX11_init 384 = .ok (.dup, 1) := by decide +kernel
theorem dX11_init_385 : decode cX11_init 385 = .ok (.bipush 42, 2) := by decide +kernel
theorem dX11_init_387 : decode cX11_init 387 = .ok (.bipush 108, 2) := by decide +kernel
theorem dX11_init_389 : decode cX11_init 389 = .ok (.iastore, 1) := by decide +kernel
theorem dX11_init_390 : decode cX11_init 390 = .ok (.dup, 1) := by decide +kernel
theorem dX11_init_391 : decode cX11_init 391 = .ok (.bipush 43, 2) := by decide +kernel
theorem dX11_init_393 : decode cX11_init 393 = .ok (.bipush 104, 2) := by decide +kernel
theorem dX11_init_395 : decode cX11_init 395 = .ok (.iastore, 1) := by decide +kernel
theorem dX11_init_396 : decode cX11_init 396 = .ok (.dup, 1) := by decide +kernel
theorem dX11_init_397 : decode cX11_init 397 = .ok (.bipush 44, 2) := by decide +kernel
theorem dX11_init_399 : decode cX11_init 399 = .ok (.bipush 97, 2) := by decide +kernel
theorem dX11_init_401 : decode cX11_init 401 = .ok (.iastore, 1) := by decide +kernel
theorem dX11_init_402 : decode cX11_init 402 = .ok (.dup, 1) := by decide +kernel
theorem dX11_init_403 : decode cX11_init 403 = .ok (.bipush 45, 2) := by decide +kernel
theorem dX11_init_405 : decode cX11_init 405 = .ok (.bipush 108, 2) := by decide +kernel
theorem dX11_init_407 : decode cX11_init 407 = .ok (.iastore, 1) := by decide +kernel
theorem dX11_init_408 : decode cX11_init 408 = .ok (.dup, 1) := by decide +kernel
theorem dX11_init_409 : decode cX11_init 409 = .ok (.bipush 46, 2) := by decide +kernel
theorem dX11_init_411 : decode cX11_init 411 = .ok (.bipush 102, 2) := by decide +kernel
theorem dX11_init_413 : decode cX11_init 413 = .ok (.iastore, 1) := by decide +kernel
theorem dX11_init_414 : decode cX11_init 414 = .ok (.dup, 1) := by decide +kernel
theorem dX11_init_415 : decode cX11_init 415 = .ok (.bipush 47, 2) := by decide +kernel
theorem dX11_init_417 : decode cX11_init 417 = .ok (.bipush 115, 2) := by decide +kernel
theorem dX11_init_419 : decode cX11_init 419 = .ok (.iastore, 1) := by decide +kernel
theorem dX11_init_420 : decode cX11_init 420 = .ok (.dup, 1) := by decide +kernel
theorem dX11_init_421 : decode cX11_init 421 = .ok (.bipush 48, 2) := by decide +kernel
theorem dX11_init_423 : decode cX11_init 423 = .ok (.bipush 116, 2) := by decide +kernel
theorem dX11_init_425 : decode cX11_init 425 = .ok (.iastore, 1) := by decide +kernel
theorem dX11_init_426 : decode cX11_init 426 = .ok (.dup, 1) := by decide +kernel
theorem dX11_init_427 : decode cX11_init 427 = .ok (.bipush 49, 2) := by decide +kernel
theorem dX11_init_429 : decode cX11_init 429 = .ok (.bipush 101, 2) := by decide +kernel
theorem dX11_init_431 : decode cX11_init 431 = .ok (.iastore, 1) := by decide +kernel
theorem dX11_init_432 : decode cX11_init 432 = .ok (.dup, 1) := by decide +kernel
theorem dX11_init_433 : decode cX11_init 433 = .ok (.bipush 50, 2) := by decide +kernel
theorem dX11_init_435 : decode cX11_init 435 = .ok (.bipush 97, 2) := by decide +kernel
theorem dX11_init_437 : decode cX11_init 437 = .ok (.iastore, 1) := by decide +kernel
theorem dX11_init_438 : decode cX11_init 438 = .ok (.dup, 1) := by decide +kernel
theorem dX11_init_439 : decode cX11_init 439 = .ok (.bipush 51, 2) := by decide +kernel
theorem dX11_init_441 : decode cX11_init 441 = .ok (.bipush 100, 2) := by decide +kernel
theorem dX11_init_443 : decode cX11_init 443 = .ok (.iastore, 1) := by decide +kernel
theorem dX11_init_444 : decode cX11_init 444 = .ok (.dup, 1) := by decide +kernel
theorem dX11_init_445 : decode cX11_init 445 = .ok (.bipush 52, 2) := by decide +kernel
theorem dX11_init_447 : decode cX11_init 447 = .ok (.bipush 121, 2) := by decide +kernel
theorem dX11_init_449 : decode cX11_init 449 = .ok (.iastore, 1) := by decide +kernel
theorem dX11_init_450 : decode cX11_init 450 = .ok (.dup, 1) := by decide +kernel
theorem dX11_init_451 : decode cX11_init 451 = .ok (.bipush 53, 2) := by decide +kernel
theorem dX11_init_453 : decode cX11_init 453 = .ok (.bipush 108, 2) := by decide +kernel
theorem dX11_init_455 : decode cX11_init 455 = .ok (.iastore, 1) := by decide +kernel
theorem dX11_init_456 : decode cX11_init 456 = .ok (.dup, 1) := by decide +kernel
theorem dX11_init_457 : decode cX11_init 457 = .ok (.bipush 54, 2) := by decide +kernel
theorem dX11_init_459 : decode cX11_init 459 = .ok (.bipush 97, 2) := by decide +kernel
theorem dX11_init_461 : decode cX11_init 461 = .ok (.iastore, 1) := by decide +kernel
theorem dX11_init_462 : decode cX11_init 462 = .ok (.dup, 1) := by decide +kernel
theorem dX11_init_463 : decode cX11_init 463 = .ok (.bipush 55, 2) := by decide +kernel
theorem dX11_init_465 : decode cX11_init 465 = .ok (.bipush 116, 2) := by decide +kernel
theorem dX11_init_467 : decode cX11_init 467 = .ok (.iastore, 1) := by decide +kernel
theorem dX11_init_468 : decode cX11_init 468 = .ok (.dup, 1) := by decide +kernel
theorem dX11_init_469 : decode cX11_init 469 = .ok (.bipush 56, 2) := by decide +kernel
theorem dX11_init_471 : decode cX11_init 471 = .ok (.bipush 101, 2) := by decide +kernel
theorem dX11_init_473 : decode cX11_init 473 = .ok (.iastore, 1) := by decide +kernel
theorem dX11_init_474 : decode cX11_init 474 = .ok (.dup, 1) := by decide +kernel
theorem dX11_init_475 : decode cX11_init 475 = .ok (.bipush 57, 2) := by decide +kernel
theorem dX11_init_477 : decode cX11_init 477 = .ok (.bipush 102, 2) := by decide +kernel
theorem dX11_init_479 : decode cX11_init 479 = .ok (.iastore, 1) := by decide +kernel
theorem dX11_init_480 : decode cX11_init 480 = .ok (.dup, 1) := by decide +kernel
theorem dX11_init_481 : decode cX11_init 481 = .ok (.bipush 58, 2) := by decide +kernel
theorem dX11_init_483 : decode cX11_init 483 = .ok (.bipush 111, 2) := by decide +kernel
theorem dX11_init_485 : decode cX11_init 485 = .ok (.iastore, 1) := by decide +kernel
theorem dX11_init_486 : decode cX11_init 486 = .ok (.dup, 1) := by decide +kernel
theorem dX11_init_487 : decode cX11_init 487 = .ok (.bipush 59, 2) := by decide +kernel
theorem dX11_init_489 : decode cX11_init 489 = .ok (.bipush 108, 2) := by decide +kernel
theorem dX11_init_491 : decode cX11_init 491 = .ok (.iastore, 1) := by decide +kernel
theorem dX11_init_492 : decode cX11_init 492 = .ok (.dup, 1) := by decide +kernel
theorem dX11_init_493 : decode cX11_init 493 = .ok (.bipush 60, 2) := by decide +kernel
theorem dX11_init_495 : decode cX11_init 495 = .ok (.bipush 108, 2) := by decide +kernel
theorem dX11_init_497 : decode cX11_init 497 = .ok (.iastore, 1) := by decide +kernel
theorem dX11_init_498 : decode cX11_init 498 = .ok (.dup, 1) := by decide +kernel
theorem dX11_init_499 : decode cX11_init 499 = .ok (.bipush 61, 2) := by decide +kernel
theorem dX11_init_501 : decode cX11_init 501 = .ok (.bipush 111, 2) := by decide +kernel
theorem dX11_init_503 : decode cX11_init 503 = .ok (.iastore, 1) := by decide +kernel
theorem dX11_init_504 : decode cX11_init 504 = .ok (.dup, 1) := by decide +kernel
theorem dX11_init_505 : decode cX11_init 505 = .ok (.bipush 62, 2) := by decide +kernel
theorem dX11_init_507 : decode cX11_init 507 = .ok (.bipush 119, 2) := by decide +kernel
theorem dX11_init_509 : decode cX11_init 509 = .ok (.iastore, 1) := by decide +kernel
theorem dX11_init_510 : decode cX11_init 510 = .ok (.dup, 1) := by decide +kernel
theorem dX11_init_511 : decode cX11_init 511 = .ok (.bipush 63, 2) := by decide +kernel
theorem dX11_init_513 : decode cX11_init 513 = .ok (.bipush 115, 2) := by decide +kernel
theorem dX11_init_515 : decode cX11_init 515 = .ok (.iastore, 1) := by decide +kernel
theorem dX11_init_516 : decode cX11_init 516 = .ok (.putfield 29, 3) := by decide +kernel
theorem dX11_init_519 : decode cX11_init 519 = .ok (.aload_n 0, 1) := by decide +kernel
theorem dX11_init_520 : decode cX11_init 520 = .ok (.iconst 4, 1) := by decide +kernel
theorem dX11_init_521 : decode cX11_init 521 = .ok (.newarray .int, 2) := by decide +kernel
theorem dX11_init_523 : decode cX11_init 523 = .ok (.putfield 32, 3) := by decide +kernel
theorem dX11_init_526 : decode cX11_init 526 = .ok (.aload_n 0, 1) := by decide +kernel
theorem dX11_init_527 : decode cX11_init 527 = .ok (.iconst 4, 1) := by decide +kernel
theorem dX11_init_528 : decode cX11_init 528 = .ok (.newarray .int, 2) := by decide +kernel
theorem dX11_init_530 : decode cX11_init 530 = .ok (.putfield 35, 3) := by decide +kernel
theorem dX11_init_533 : decode cX11_init 533 = .ok (.aload_n 0, 1) := by decide +kernel
theorem dX11_init_534 : decode cX11_init 534 = .ok (.bipush 16, 2) := by decide +kernel
theorem dX11_init_536 : decode cX11_init 536 = .ok (.newarray .int, 2) := by decide +kernel
theorem dX11_init_538 : decode cX11_init 538 = .ok (.putfield 38, 3) := by decide +kernel
theorem dX11_init_541 : decode cX11_init 541 = .ok (.aload_n 0, 1) := by decide +kernel
theorem dX11_init_542 : decode cX11_init 542 = .ok (.iconst 2, 1) := by decide +kernel
theorem dX11_init_543 : decode cX11_init 543 = .ok (.newarray .boolean, 2) := by decide +kernel
theorem dX11_init_545 : decode cX11_init 545 = .ok (.putfield 41, 3) := by decide +kernel
theorem dX11_init_548 : decode cX11_init 548 = .ok (.aload_n 0, 1) := by decide +kernel
theorem dX11_init_549 : decode cX11_init 549 = .ok (.iconst 4, 1) := by decide +kernel
theorem dX11_init_550 : decode cX11_init 550 = .ok (.newarray .int, 2) := by decide +kernel
theorem dX11_init_552 : decode cX11_init 552 = .ok (.dup, 1) := by decide +kernel
theorem dX11_init_553 : decode cX11_init 553 = .ok (.iconst 0, 1) := by decide +kernel
theorem dX11_init_554 : decode cX11_init 554 = .ok (.bipush (-4), 2) := by decide +kernel
theorem dX11_init_556 : decode cX11_init 556 = .ok (.iastore, 1) := by decide +kernel
theorem dX11_init_557 : decode cX11_init 557 = .ok (.dup, 1) := by decide +kernel
theorem dX11_init_558 : decode cX11_init 558 = .ok (.iconst 1, 1) := by decide +kernel
theorem dX11_init_559 : decode cX11_init 559 = .ok (.bipush (-4), 2) := by decide +kernel
theorem dX11_init_561 : decode cX11_init 561 = .ok (.iastore, 1) := by decide +kernel
theorem dX11_init_562 : decode cX11_init 562 = .ok (.dup, 1) := by decide +kernel
theorem dX11_init_563 : decode cX11_init 563 = .ok (.iconst 2, 1) := by decide +kernel
theorem dX11_init_564 : decode cX11_init 564 = .ok (.bipush (-4), 2) := by decide +kernel
theorem dX11_init_566 : decode cX11_init 566 = .ok (.iastore, 1) := by decide +kernel
theorem dX11_init_567 : decode cX11_init 567 = .ok (.dup, 1) := by decide +kernel
theorem dX11_init_568 : decode cX11_init 568 = .ok (.iconst 3, 1) := by decide +kernel
theorem dX11_init_569 : decode cX11_init 569 = .ok (.bipush (-4), 2) := by decide +kernel
theorem dX11_init_571 : decode cX11_init 571 = .ok (.iastore, 1) := by decide +kernel
theorem dX11_init_572 : decode cX11_init 572 = .ok (.putfield 45, 3) := by decide +kernel
theorem dX11_init_575 : decode cX11_init 575 = .ok (.aload_n 0, 1) := by decide +kernel
theorem dX11_init_576 : decode cX11_init 576 = .ok (.iconst 4, 1) := by decide +kernel
theorem dX11_init_577 : decode cX11_init 577 = .ok (.newarray .int, 2) := by decide +kernel
theorem dX11_init_579 : decode cX11_init 579 = .ok (.putfield 48, 3) := by decide +kernel
theorem dX11_init_582 : decode cX11_init 582 = .ok (.aload_n 0, 1) := by decide +kernel
theorem dX11_init_583 : decode cX11_init 583 = .ok (.sipush 160, 3) := by decide +kernel
theorem dX11_init_586 : decode cX11_init 586 = .ok (.newarray .int, 2) := by decide +kernel
theorem dX11_init_588 : decode cX11_init 588 = .ok (.putfield 51, 3) := by decide +kernel
theorem dX11_init_591 : decode cX11_init 591 = .ok (.return_, 1) := by decide +kernel
theorem dX11_in_0 : decode cX11_in 0 = .ok (.lload_n 0, 1) := by decide +kernel
theorem dX11_in_1 : decode cX11_in 1 = .ok (.lload_n 2, 1) := by decide +kernel
theorem dX11_in_2 : decode cX11_in 2 = .ok (.lcmp, 1) := by decide +kernel
theorem dX11_in_3 : decode cX11_in 3 = .ok (.ifCond .lt 14, 3) := by decide +kernel
theorem dX11_in_6 : decode cX11_in 6 = .ok (.lload_n 0, 1) := by decide +kernel
theorem dX11_in_7 : decode cX11_in 7 = .ok (.lload 4, 2) := by decide +kernel
theorem dX11_in_9 : decode cX11_in 9 = .ok (.lcmp, 1) := by decide +kernel
theorem dX11_in_10 : decode cX11_in 10 = .ok (.ifCond .gt 7, 3) := by decide +kernel
theorem dX11_in_13 : decode cX11_in 13 = .ok (.iconst 1, 1) := by decide +kernel
theorem dX11_in_14 : decode cX11_in 14 = .ok (.goto 4, 3) := by decide +kernel
theorem dX11_in_17 : decode cX11_in 17 = .ok (.iconst 0, 1) := by decide +kernel
theorem dX11_in_18 : decode cX11_in 18 = .ok (.ireturn, 1) := by decide +kernel
theorem dX11_feed_0 : decode cX11_feed 0 = .ok (.aload_n 0, 1) := by decide +kernel
theorem dX11_feed_1 : decode cX11_feed 1 = .ok (.getfield 54, 3) := by decide +kernel
theorem dX11_feed_4 : decode cX11_feed 4 = .ok (.bipush 8, 2) := by decide +kernel
theorem dX11_feed_6 : decode cX11_feed 6 = .ok (.iadd, 1) := by decide +kernel
theorem dX11_feed_7 : decode cX11_feed 7 = .ok (.sipush 320, 3) := by decide +kernel
theorem dX11_feed_10 : decode cX11_feed 10 = .ok (.if_icmp .le 6, 3) := by decide +kernel
theorem dX11_feed_13 : decode cX11_feed 13 = .ok (.bipush (-3), 2) := by decide +kernel
theorem dX11_feed_15 : decode cX11_feed 15 = .ok (.ireturn, 1) := by decide +kernel
theorem dX11_feed_16 : decode cX11_feed 16 = .ok (.bipush 56, 2) := by decide +kernel
theorem dX11_feed_18 : decode cX11_feed 18 = .ok (.istore_n 3, 1) := by decide +kernel
theorem dX11_feed_19 : decode cX11_feed 19 = .ok (.iload_n 3, 1) := by decide +kernel
theorem dX11_feed_20 : decode cX11_feed 20 = .ok (.ifCond .lt 36, 3) := by decide +kernel
theorem dX11_feed_23 : decode cX11_feed 23 = .ok (.aload_n 0, 1) := by decide +kernel
theorem dX11_feed_24 : decode cX11_feed 24 = .ok (.getfield 23, 3) := by decide +kernel
theorem dX11_feed_27 : decode cX11_feed 27 = .ok (.aload_n 0, 1) := by decide +kernel
theorem dX11_feed_28 : decode cX11_feed 28 = .ok (.getfield 54, 3) := by decide +kernel
theorem dX11_feed_31 : decode cX11_feed 31 = .ok (.lload_n 1, 1) := by decide +kernel
theorem dX11_feed_32 : decode cX11_feed 32 = .ok (.iload_n 3, 1) := by decide +kernel
theorem dX11_feed_33 : decode cX11_feed 33 = .ok (.lshr, 1) := by decide +kernel
theorem dX11_feed_34 : decode cX11_feed 34 = .ok (.l2i, 1) := by decide +kernel
theorem dX11_feed_35 : decode cX11_feed 35 = .ok (.sipush 255, 3) := by decide +kernel
theorem dX11_feed_38 : decode cX11_feed 38 = .ok (.iand, 1) := by decide +kernel
theorem dX11_feed_39 : decode cX11_feed 39 = .ok (.iastore, 1) := by decide +kernel
theorem dX11_feed_40 : decode cX11_feed 40 = .ok (.aload_n 0, 1) := by decide +kernel
theorem dX11_feed_41 : decode cX11_feed 41 = .ok (.dup, 1) := by decide +kernel
theorem dX11_feed_42 : decode cX11_feed 42 = .ok (.getfield 54, 3) := by decide +kernel
theorem dX11_feed_45 : decode cX11_feed 45 = .ok (.iconst 1, 1) := by decide +kernel
theorem dX11_feed_46 : decode cX11_feed 46 = .ok (.iadd, 1) := by decide +kernel
theorem dX11_feed_47 : decode cX11_feed 47 = .ok (.putfield 54, 3) := by decide +kernel
theorem dX11_feed_50 : decode cX11_feed 50 = .ok (.iinc 3 (-8), 3) := by decide +kernel
theorem dX11_feed_53 : decode cX11_feed 53 = .ok (.goto (-34), 3) := by decide +kernel
theorem dX11_feed_56 : decode cX11_feed 56 = .ok (.aload_n 0, 1) := by decide +kernel
theorem dX11_feed_57 : decode cX11_feed 57 = .ok (.getfield 54, 3) := by decide +kernel
theorem dX11_feed_60 : decode cX11_feed 60 = .ok (.ireturn, 1) := by decide +kernel
theorem dX11_end_0 : decode cX11_end 0 = .ok (.iload_n 1, 1) := by decide +kernel
theorem dX11_end_1 : decode cX11_end 1 = .ok (.i2l, 1) := by decide +kernel
theorem dX11_end_2 : decode cX11_end 2 = .ok (.lconst 0, 1) := by decide +kernel
theorem dX11_end_3 : decode cX11_end 3 = .ok (.aload_n 0, 1) := by decide +kernel
theorem dX11_end_4 : decode cX11_end 4 = .ok (.getfield 54, 3) := by decide +kernel
theorem dX11_end_7 : decode cX11_end 7 = .ok (.i2l, 1) := by decide +kernel
theorem dX11_end_8 : decode cX11_end 8 = .ok (.invokestatic 57, 3) := by decide +kernel
theorem dX11_end_11 : decode cX11_end 11 = .ok (.ifCond .ne 5, 3) := by decide +kernel
theorem dX11_end_14 : decode cX11_end 14 = .ok (.iconst (-1), 1) := by decide +kernel
theorem dX11_end_15 : decode cX11_end 15 = .ok (.ireturn, 1) := by decide +kernel
theorem dX11_end_16 : decode cX11_end 16 = .ok (.aload_n 0, 1) := by decide +kernel
theorem dX11_end_17 : decode cX11_end 17 = .ok (.getfield 54, 3) := by decide +kernel
theorem dX11_end_20 : decode cX11_end 20 = .ok (.istore_n 2, 1) := by decide +kernel
theorem dX11_end_21 : decode cX11_end 21 = .ok (.aload_n 0, 1) := by decide +kernel
theorem dX11_end_22 : decode cX11_end 22 = .ok (.iload_n 1, 1) := by decide +kernel
theorem dX11_end_23 : decode cX11_end 23 = .ok (.putfield 54, 3) := by decide +kernel
theorem dX11_end_26 : decode cX11_end 26 = .ok (.iload_n 2, 1) := by decide +kernel
theorem dX11_end_27 : decode cX11_end 27 = .ok (.ireturn, 1) := by decide +kernel
theorem dX11_byteAt_0 : decode cX11_byteAt 0 = .ok (.iload_n 1, 1) := by decide +kernel
theorem dX11_byteAt_1 : decode cX11_byteAt 1 = .ok (.aload_n 0, 1) := by decide +kernel
theorem dX11_byteAt_2 : decode cX11_byteAt 2 = .ok (.getfield 54, 3) := by decide +kernel
theorem dX11_byteAt_5 : decode cX11_byteAt 5 = .ok (.if_icmp .ge 12, 3) := by decide +kernel
theorem dX11_byteAt_8 : decode cX11_byteAt 8 = .ok (.aload_n 0, 1) := by decide +kernel
theorem dX11_byteAt_9 : decode cX11_byteAt 9 = .ok (.getfield 23, 3) := by decide +kernel
theorem dX11_byteAt_12 : decode cX11_byteAt 12 = .ok (.iload_n 1, 1) := by decide +kernel
theorem dX11_byteAt_13 : decode cX11_byteAt 13 = .ok (.iaload, 1) := by decide +kernel
theorem dX11_byteAt_14 : decode cX11_byteAt 14 = .ok (.goto 5, 3) := by decide +kernel
theorem dX11_byteAt_17 : decode cX11_byteAt 17 = .ok (.bipush (-4), 2) := by decide +kernel
theorem dX11_byteAt_19 : decode cX11_byteAt 19 = .ok (.ireturn, 1) := by decide +kernel
theorem dX11_fails_0 : decode cX11_fails 0 = .ok (.aload_n 0, 1) := by decide +kernel
theorem dX11_fails_1 : decode cX11_fails 1 = .ok (.getfield 61, 3) := by decide +kernel
theorem dX11_fails_4 : decode cX11_fails 4 = .ok (.ifCond .ne 16, 3) := by decide +kernel
theorem dX11_fails_7 : decode cX11_fails 7 = .ok (.aload_n 0, 1) := by decide +kernel
theorem dX11_fails_8 : decode cX11_fails 8 = .ok (.iload_n 1, 1) := by decide +kernel
theorem dX11_fails_9 : decode cX11_fails 9 = .ok (.putfield 61, 3) := by decide +kernel
theorem dX11_fails_12 : decode cX11_fails 12 = .ok (.aload_n 0, 1) := by decide +kernel
theorem dX11_fails_13 : decode cX11_fails 13 = .ok (.aload_n 0, 1) := by decide +kernel
theorem dX11_fails_14 : decode cX11_fails 14 = .ok (.getfield 64, 3) := by decide +kernel
theorem dX11_fails_17 : decode cX11_fails 17 = .ok (.putfield 67, 3) := by decide +kernel
theorem dX11_fails_20 : decode cX11_fails 20 = .ok (.return_, 1) := by decide +kernel
theorem dX11_nameHere_0 : decode cX11_nameHere 0 = .ok (.iconst 0, 1) := by decide +kernel
theorem dX11_nameHere_1 : decode cX11_nameHere 1 = .ok (.istore_n 1, 1) := by decide +kernel
theorem dX11_nameHere_2 : decode cX11_nameHere 2 = .ok (.iload_n 1, 1) := by decide +kernel
theorem dX11_nameHere_3 : decode cX11_nameHere 3 = .ok (.bipush 14, 2) := by decide +kernel
theorem dX11_nameHere_5 : decode cX11_nameHere 5 = .ok (.if_icmp .ge 113, 3) := by decide +kernel
theorem dX11_nameHere_8 : decode cX11_nameHere 8 = .ok (.aload_n 0, 1) := by decide +kernel
theorem dX11_nameHere_9 : decode cX11_nameHere 9 = .ok (.getfield 70, 3) := by decide +kernel
theorem dX11_nameHere_12 : decode cX11_nameHere 12 = .ok (.iconst 1, 1) := by decide +kernel
theorem dX11_nameHere_13 : decode cX11_nameHere 13 = .ok (.if_icmp .ne 105, 3) := by decide +kernel
theorem dX11_nameHere_16 : decode cX11_nameHere 16 = .ok (.aload_n 0, 1) := by decide +kernel
theorem dX11_nameHere_17 : decode cX11_nameHere 17 = .ok (.getfield 73, 3) := by decide +kernel
theorem dX11_nameHere_20 : decode cX11_nameHere 20 = .ok (.aload_n 0, 1) := by decide +kernel
theorem dX11_nameHere_21 : decode cX11_nameHere 21 = .ok (.getfield 64, 3) := by decide +kernel
theorem dX11_nameHere_24 : decode cX11_nameHere 24 = .ok (.isub, 1) := by decide +kernel
theorem dX11_nameHere_25 : decode cX11_nameHere 25 = .ok (.aload_n 0, 1) := by decide +kernel
theorem dX11_nameHere_26 : decode cX11_nameHere 26 = .ok (.getfield 26, 3) := by decide +kernel
theorem dX11_nameHere_29 : decode cX11_nameHere 29 = .ok (.iload_n 1, 1) := by decide +kernel
theorem dX11_nameHere_30 : decode cX11_nameHere 30 = .ok (.iconst 1, 1) := by decide +kernel
theorem dX11_nameHere_31 : decode cX11_nameHere 31 = .ok (.iadd, 1) := by decide +kernel
theorem dX11_nameHere_32 : decode cX11_nameHere 32 = .ok (.iaload, 1) := by decide +kernel
theorem dX11_nameHere_33 : decode cX11_nameHere 33 = .ok (.aload_n 0, 1) := by decide +kernel
theorem dX11_nameHere_34 : decode cX11_nameHere 34 = .ok (.getfield 26, 3) := by decide +kernel
theorem dX11_nameHere_37 : decode cX11_nameHere 37 = .ok (.iload_n 1, 1) := by decide +kernel
theorem dX11_nameHere_38 : decode cX11_nameHere 38 = .ok (.iaload, 1) := by decide +kernel
theorem dX11_nameHere_39 : decode cX11_nameHere 39 = .ok (.isub, 1) := by decide +kernel
theorem dX11_nameHere_40 : decode cX11_nameHere 40 = .ok (.if_icmp .ne 7, 3) := by decide +kernel
theorem dX11_nameHere_43 : decode cX11_nameHere 43 = .ok (.iconst 1, 1) := by decide +kernel
theorem dX11_nameHere_44 : decode cX11_nameHere 44 = .ok (.goto 4, 3) := by decide +kernel
theorem dX11_nameHere_47 : decode cX11_nameHere 47 = .ok (.iconst 0, 1) := by decide +kernel
theorem dX11_nameHere_48 : decode cX11_nameHere 48 = .ok (.istore_n 2, 1) := by decide +kernel
theorem dX11_nameHere_49 : decode cX11_nameHere 49 = .ok (.iconst 0, 1) := by decide +kernel
theorem dX11_nameHere_50 : decode cX11_nameHere 50 = .ok (.istore_n 3, 1) := by decide +kernel
theorem dX11_nameHere_51 : decode cX11_nameHere 51 = .ok (.iload_n 2, 1) := by decide +kernel
theorem dX11_nameHere_52 : decode cX11_nameHere 52 = .ok (.ifCond .eq 54, 3) := by decide +kernel
theorem dX11_nameHere_55 : decode cX11_nameHere 55 = .ok (.iload_n 3, 1) := by decide +kernel
theorem dX11_nameHere_56 : decode cX11_nameHere 56 = .ok (.aload_n 0, 1) := by decide +kernel
theorem dX11_nameHere_57 : decode cX11_nameHere 57 = .ok (.getfield 73, 3) := by decide +kernel
theorem dX11_nameHere_60 : decode cX11_nameHere 60 = .ok (.aload_n 0, 1) := by decide +kernel
theorem dX11_nameHere_61 : decode cX11_nameHere 61 = .ok (.getfield 64, 3) := by decide +kernel
theorem dX11_nameHere_64 : decode cX11_nameHere 64 = .ok (.isub, 1) := by decide +kernel
theorem dX11_nameHere_65 : decode cX11_nameHere 65 = .ok (.if_icmp .ge 41, 3) := by decide +kernel
theorem dX11_nameHere_68 : decode cX11_nameHere 68 = .ok (.aload_n 0, 1) := by decide +kernel
theorem dX11_nameHere_69 : decode cX11_nameHere 69 = .ok (.aload_n 0, 1) := by decide +kernel
theorem dX11_nameHere_70 : decode cX11_nameHere 70 = .ok (.getfield 64, 3) := by decide +kernel
theorem dX11_nameHere_73 : decode cX11_nameHere 73 = .ok (.iload_n 3, 1) := by decide +kernel
theorem dX11_nameHere_74 : decode cX11_nameHere 74 = .ok (.iadd, 1) := by decide +kernel
theorem dX11_nameHere_75 : decode cX11_nameHere 75 = .ok (.invokevirtual 76, 3) := by decide +kernel
theorem dX11_nameHere_78 : decode cX11_nameHere 78 = .ok (.aload_n 0, 1) := by decide +kernel
theorem dX11_nameHere_79 : decode cX11_nameHere 79 = .ok (.getfield 29, 3) := by decide +kernel
theorem dX11_nameHere_82 : decode cX11_nameHere 82 = .ok (.aload_n 0, 1) := by decide +kernel
theorem dX11_nameHere_83 : decode cX11_nameHere 83 = .ok (.getfield 26, 3) := by decide +kernel
theorem dX11_nameHere_86 : decode cX11_nameHere 86 = .ok (.iload_n 1, 1) := by decide +kernel
theorem dX11_nameHere_87 : decode cX11_nameHere 87 = .ok (.iaload, 1) := by decide +kernel
theorem dX11_nameHere_88 : decode cX11_nameHere 88 = .ok (.iload_n 3, 1) := by decide +kernel
theorem dX11_nameHere_89 : decode cX11_nameHere 89 = .ok (.iadd, 1) := by decide +kernel
theorem dX11_nameHere_90 : decode cX11_nameHere 90 = .ok (.iaload, 1) := by decide +kernel
theorem dX11_nameHere_91 : decode cX11_nameHere 91 = .ok (.if_icmp .ne 7, 3) := by decide +kernel
theorem dX11_nameHere_94 : decode cX11_nameHere 94 = .ok (.iconst 1, 1) := by decide +kernel
theorem dX11_nameHere_95 : decode cX11_nameHere 95 = .ok (.goto 4, 3) := by decide +kernel
theorem dX11_nameHere_98 : decode cX11_nameHere 98 = .ok (.iconst 0, 1) := by decide +kernel
theorem dX11_nameHere_99 : decode cX11_nameHere 99 = .ok (.istore_n 2, 1) := by decide +kernel
theorem dX11_nameHere_100 : decode cX11_nameHere 100 = .ok (.iinc 3 1, 3) := by decide +kernel
theorem dX11_nameHere_103 : decode cX11_nameHere 103 = .ok (.goto (-52), 3) := by decide +kernel
theorem dX11_nameHere_106 : decode cX11_nameHere 106 = .ok (.iload_n 2, 1) := by decide +kernel
theorem dX11_nameHere_107 : decode cX11_nameHere 107 = .ok (.ifCond .eq 5, 3) := by decide +kernel
theorem dX11_nameHere_110 : decode cX11_nameHere 110 = .ok (.iload_n 1, 1) := by decide +kernel
theorem dX11_nameHere_111 : decode cX11_nameHere 111 = .ok (.ireturn, 1) := by decide +kernel
theorem dX11_nameHere_112 : decode cX11_nameHere 112 = .ok (.iinc 1 1, 3) := by decide +kernel
theorem dX11_nameHere_115 : decode cX11_nameHere 115 = .ok (.goto (-113), 3) := by decide +kernel
theorem dX11_nameHere_118 : decode cX11_nameHere 118 = .ok (.bipush (-4), 2) := by decide +kernel
theorem dX11_nameHere_120 : decode cX11_nameHere 120 = .ok (.ireturn, 1) := by decide +kernel
theorem dX11_step_0 : decode cX11_step 0 = .ok (.aload_n 0, 1) := by decide +kernel
theorem dX11_step_1 : decode cX11_step 1 = .ok (.getfield 61, 3) := by decide +kernel
theorem dX11_step_4 : decode cX11_step 4 = .ok (.ifCond .le 4, 3) := by decide +kernel
theorem dX11_step_7 : decode cX11_step 7 = .ok (.return_, 1) := by decide +kernel
theorem dX11_step_8 : decode cX11_step 8 = .ok (.aload_n 0, 1) := by decide +kernel
theorem dX11_step_9 : decode cX11_step 9 = .ok (.aload_n 0, 1) := by decide +kernel
theorem dX11_step_10 : decode cX11_step 10 = .ok (.getfield 73, 3) := by decide +kernel
theorem dX11_step_13 : decode cX11_step 13 = .ok (.invokevirtual 76, 3) := by decide +kernel
theorem dX11_step_16 : decode cX11_step 16 = .ok (.bipush 32, 2) := by decide +kernel
theorem dX11_step_18 : decode cX11_step 18 = .ok (.if_icmp .ne 16, 3) := by decide +kernel
theorem dX11_step_21 : decode cX11_step 21 = .ok (.aload_n 0, 1) := by decide +kernel
theorem dX11_step_22 : decode cX11_step 22 = .ok (.dup, 1) := by decide +kernel
theorem dX11_step_23 : decode cX11_step 23 = .ok (.getfield 73, 3) := by decide +kernel
theorem dX11_step_26 : decode cX11_step 26 = .ok (.iconst 1, 1) := by decide +kernel
theorem dX11_step_27 : decode cX11_step 27 = .ok (.iadd, 1) := by decide +kernel
theorem dX11_step_28 : decode cX11_step 28 = .ok (.putfield 73, 3) := by decide +kernel
theorem dX11_step_31 : decode cX11_step 31 = .ok (.goto (-23), 3) := by decide +kernel
theorem dX11_step_34 : decode cX11_step 34 = .ok (.aload_n 0, 1) := by decide +kernel
theorem dX11_step_35 : decode cX11_step 35 = .ok (.aload_n 0, 1) := by decide +kernel
theorem dX11_step_36 : decode cX11_step 36 = .ok (.getfield 73, 3) := by decide +kernel
theorem dX11_step_39 : decode cX11_step 39 = .ok (.putfield 64, 3) := by decide +kernel
theorem dX11_step_42 : decode cX11_step 42 = .ok (.aload_n 0, 1) := by decide +kernel
theorem dX11_step_43 : decode cX11_step 43 = .ok (.aload_n 0, 1) := by decide +kernel
theorem dX11_step_44 : decode cX11_step 44 = .ok (.getfield 73, 3) := by decide +kernel
theorem dX11_step_47 : decode cX11_step 47 = .ok (.invokevirtual 76, 3) := by decide +kernel
theorem dX11_step_50 : decode cX11_step 50 = .ok (.istore_n 1, 1) := by decide +kernel
theorem dX11_step_51 : decode cX11_step 51 = .ok (.aload_n 0, 1) := by decide +kernel
theorem dX11_step_52 : decode cX11_step 52 = .ok (.iconst 0, 1) := by decide +kernel
theorem dX11_step_53 : decode cX11_step 53 = .ok (.putfield 80, 3) := by decide +kernel
theorem dX11_step_56 : decode cX11_step 56 = .ok (.iload_n 1, 1) := by decide +kernel
theorem dX11_step_57 : decode cX11_step 57 = .ok (.bipush (-4), 2) := by decide +kernel
theorem dX11_step_59 : decode cX11_step 59 = .ok (.if_icmp .ne 11, 3) := by decide +kernel
theorem dX11_step_62 : decode cX11_step 62 = .ok (.aload_n 0, 1) := by decide +kernel
theorem dX11_step_63 : decode cX11_step 63 = .ok (.iconst 0, 1) := by decide +kernel
theorem dX11_step_64 : decode cX11_step 64 = .ok (.putfield 70, 3) := by decide +kernel
theorem dX11_step_67 : decode cX11_step 67 = .ok (.goto 202, 3) := by decide +kernel
theorem dX11_step_70 : decode cX11_step 70 = .ok (.iload_n 1, 1) := by decide +kernel
theorem dX11_step_71 : decode cX11_step 71 = .ok (.i2l, 1) := by decide +kernel
theorem dX11_step_72 : decode cX11_step 72 = .ok (.ldc2_w 83, 3) := by decide +kernel
theorem dX11_step_75 : decode cX11_step 75 = .ok (.ldc2_w 85, 3) := by decide +kernel
theorem dX11_step_78 : decode cX11_step 78 = .ok (.invokestatic 57, 3) := by decide +kernel
theorem dX11_step_81 : decode cX11_step 81 = .ok (.ifCond .eq 45, 3) := by decide +kernel
theorem dX11_step_84 : decode cX11_step 84 = .ok (.aload_n 0, 1) := by decide +kernel
theorem dX11_step_85 : decode cX11_step 85 = .ok (.aload_n 0, 1) := by decide +kernel
theorem dX11_step_86 : decode cX11_step 86 = .ok (.getfield 73, 3) := by decide +kernel
theorem dX11_step_89 : decode cX11_step 89 = .ok (.invokevirtual 76, 3) := by decide +kernel
theorem dX11_step_92 : decode cX11_step 92 = .ok (.i2l, 1) := by decide +kernel
theorem dX11_step_93 : decode cX11_step 93 = .ok (.ldc2_w 83, 3) := by decide +kernel
theorem dX11_step_96 : decode cX11_step 96 = .ok (.ldc2_w 85, 3) := by decide +kernel
theorem dX11_step_99 : decode cX11_step 99 = .ok (.invokestatic 57, 3) := by decide +kernel
theorem dX11_step_102 : decode cX11_step 102 = .ok (.ifCond .eq 16, 3) := by decide +kernel
theorem dX11_step_105 : decode cX11_step 105 = .ok (.aload_n 0, 1) := by decide +kernel
theorem dX11_step_106 : decode cX11_step 106 = .ok (.dup, 1) := by decide +kernel
theorem dX11_step_107 : decode cX11_step 107 = .ok (.getfield 73, 3) := by decide +kernel
theorem dX11_step_110 : decode cX11_step 110 = .ok (.iconst 1, 1) := by decide +kernel
theorem dX11_step_111 : decode cX11_step 111 = .ok (.iadd, 1) := by decide +kernel
theorem dX11_step_112 : decode cX11_step 112 = .ok (.putfield 73, 3) := by decide +kernel
theorem dX11_step_115 : decode cX11_step 115 = .ok (.goto (-31), 3) := by decide +kernel
theorem dX11_step_118 : decode cX11_step 118 = .ok (.aload_n 0, 1) := by decide +kernel
theorem dX11_step_119 : decode cX11_step 119 = .ok (.iconst 1, 1) := by decide +kernel
theorem dX11_step_120 : decode cX11_step 120 = .ok (.putfield 70, 3) := by decide +kernel
theorem dX11_step_123 : decode cX11_step 123 = .ok (.goto 146, 3) := by decide +kernel
theorem dX11_step_126 : decode cX11_step 126 = .ok (.iload_n 1, 1) := by decide +kernel
theorem dX11_step_127 : decode cX11_step 127 = .ok (.i2l, 1) := by decide +kernel
theorem dX11_step_128 : decode cX11_step 128 = .ok (.ldc2_w 87, 3) := by decide +kernel
theorem dX11_step_131 : decode cX11_step 131 = .ok (.ldc2_w 89, 3) := by decide +kernel
theorem dX11_step_134 : decode cX11_step 134 = .ok (.invokestatic 57, 3) := by decide +kernel
theorem dX11_step_137 : decode cX11_step 137 = .ok (.ifCond .eq 106, 3) := by decide +kernel
theorem dX11_step_140 : decode cX11_step 140 = .ok (.aload_n 0, 1) := by decide +kernel
theorem dX11_step_141 : decode cX11_step 141 = .ok (.aload_n 0, 1) := by decide +kernel
theorem dX11_step_142 : decode cX11_step 142 = .ok (.getfield 73, 3) := by decide +kernel
theorem dX11_step_145 : decode cX11_step 145 = .ok (.invokevirtual 76, 3) := by decide +kernel
theorem dX11_step_148 : decode cX11_step 148 = .ok (.i2l, 1) := by decide +kernel
theorem dX11_step_149 : decode cX11_step 149 = .ok (.ldc2_w 87, 3) := by decide +kernel
theorem dX11_step_152 : decode cX11_step 152 = .ok (.ldc2_w 89, 3) := by decide +kernel
theorem dX11_step_155 : decode cX11_step 155 = .ok (.invokestatic 57, 3) := by decide +kernel
theorem dX11_step_158 : decode cX11_step 158 = .ok (.ifCond .eq 59, 3) := by decide +kernel
theorem dX11_step_161 : decode cX11_step 161 = .ok (.aload_n 0, 1) := by decide +kernel
theorem dX11_step_162 : decode cX11_step 162 = .ok (.aload_n 0, 1) := by decide +kernel
theorem dX11_step_163 : decode cX11_step 163 = .ok (.getfield 73, 3) := by decide +kernel
theorem dX11_step_166 : decode cX11_step 166 = .ok (.aload_n 0, 1) := by decide +kernel
theorem dX11_step_167 : decode cX11_step 167 = .ok (.getfield 64, 3) := by decide +kernel
theorem dX11_step_170 : decode cX11_step 170 = .ok (.isub, 1) := by decide +kernel
theorem dX11_step_171 : decode cX11_step 171 = .ok (.iconst 2, 1) := by decide +kernel
theorem dX11_step_172 : decode cX11_step 172 = .ok (.if_icmp .ge 25, 3) := by decide +kernel
theorem dX11_step_175 : decode cX11_step 175 = .ok (.bipush 10, 2) := by decide +kernel
theorem dX11_step_177 : decode cX11_step 177 = .ok (.aload_n 0, 1) := by decide +kernel
theorem dX11_step_178 : decode cX11_step 178 = .ok (.getfield 80, 3) := by decide +kernel
theorem dX11_step_181 : decode cX11_step 181 = .ok (.imul, 1) := by decide +kernel
theorem dX11_step_182 : decode cX11_step 182 = .ok (.aload_n 0, 1) := by decide +kernel
theorem dX11_step_183 : decode cX11_step 183 = .ok (.aload_n 0, 1) := by decide +kernel
theorem dX11_step_184 : decode cX11_step 184 = .ok (.getfield 73, 3) := by decide +kernel
theorem dX11_step_187 : decode cX11_step 187 = .ok (.invokevirtual 76, 3) := by decide +kernel
theorem dX11_step_190 : decode cX11_step 190 = .ok (.iadd, 1) := by decide +kernel
theorem dX11_step_191 : decode cX11_step 191 = .ok (.bipush 48, 2) := by decide +kernel
theorem dX11_step_193 : decode cX11_step 193 = .ok (.isub, 1) := by decide +kernel
theorem dX11_step_194 : decode cX11_step 194 = .ok (.goto 7, 3) := by decide +kernel
theorem dX11_step_197 : decode cX11_step 197 = .ok (.aload_n 0, 1) := by decide +kernel
theorem dX11_step_198 : decode cX11_step 198 = .ok (.getfield 80, 3) := by decide +kernel
theorem dX11_step_201 : decode cX11_step 201 = .ok (.putfield 80, 3) := by decide +kernel
theorem dX11_step_204 : decode cX11_step 204 = .ok (.aload_n 0, 1) := by decide +kernel
theorem dX11_step_205 : decode cX11_step 205 = .ok (.dup, 1) := by decide +kernel
theorem dX11_step_206 : decode cX11_step 206 = .ok (.getfield 73, 3) := by decide +kernel
theorem dX11_step_209 : decode cX11_step 209 = .ok (.iconst 1, 1) := by decide +kernel
theorem dX11_step_210 : decode cX11_step 210 = .ok (.iadd, 1) := by decide +kernel
theorem dX11_step_211 : decode cX11_step 211 = .ok (.putfield 73, 3) := by decide +kernel
theorem dX11_step_214 : decode cX11_step 214 = .ok (.goto (-74), 3) := by decide +kernel
theorem dX11_step_217 : decode cX11_step 217 = .ok (.aload_n 0, 1) := by decide +kernel
theorem dX11_step_218 : decode cX11_step 218 = .ok (.iconst 2, 1) := by decide +kernel
theorem dX11_step_219 : decode cX11_step 219 = .ok (.putfield 70, 3) := by decide +kernel
theorem dX11_step_222 : decode cX11_step 222 = .ok (.aload_n 0, 1) := by decide +kernel
theorem dX11_step_223 : decode cX11_step 223 = .ok (.getfield 73, 3) := by decide +kernel
theorem dX11_step_226 : decode cX11_step 226 = .ok (.aload_n 0, 1) := by decide +kernel
theorem dX11_step_227 : decode cX11_step 227 = .ok (.getfield 64, 3) := by decide +kernel
theorem dX11_step_230 : decode cX11_step 230 = .ok (.isub, 1) := by decide +kernel
theorem dX11_step_231 : decode cX11_step 231 = .ok (.iconst 2, 1) := by decide +kernel
theorem dX11_step_232 : decode cX11_step 232 = .ok (.if_icmp .le 37, 3) := by decide +kernel
theorem dX11_step_235 : decode cX11_step 235 = .ok (.aload_n 0, 1) := by decide +kernel
theorem dX11_step_236 : decode cX11_step 236 = .ok (.iconst 1, 1) := by decide +kernel
theorem dX11_step_237 : decode cX11_step 237 = .ok (.invokevirtual 91, 3) := by decide +kernel
theorem dX11_step_240 : decode cX11_step 240 = .ok (.goto 29, 3) := by decide +kernel
theorem dX11_step_243 : decode cX11_step 243 = .ok (.aload_n 0, 1) := by decide +kernel
theorem dX11_step_244 : decode cX11_step 244 = .ok (.iconst 3, 1) := by decide +kernel
theorem dX11_step_245 : decode cX11_step 245 = .ok (.putfield 70, 3) := by decide +kernel
theorem dX11_step_248 : decode cX11_step 248 = .ok (.aload_n 0, 1) := by decide +kernel
theorem dX11_step_249 : decode cX11_step 249 = .ok (.dup, 1) := by decide +kernel
theorem dX11_step_250 : decode cX11_step 250 = .ok (.getfield 73, 3) := by decide +kernel
theorem dX11_step_253 : decode cX11_step 253 = .ok (.iconst 1, 1) := by decide +kernel
theorem dX11_step_254 : decode cX11_step 254 = .ok (.iadd, 1) := by decide +kernel
theorem dX11_step_255 : decode cX11_step 255 = .ok (.putfield 73, 3) := by decide +kernel
theorem dX11_step_258 : decode cX11_step 258 = .ok (.iload_n 1, 1) := by decide +kernel
theorem dX11_step_259 : decode cX11_step 259 = .ok (.bipush 59, 2) := by decide +kernel
theorem dX11_step_261 : decode cX11_step 261 = .ok (.if_icmp .eq 8, 3) := by decide +kernel
theorem dX11_step_264 : decode cX11_step 264 = .ok (.aload_n 0, 1) := by decide +kernel
theorem dX11_step_265 : decode cX11_step 265 = .ok (.iconst 1, 1) := by decide +kernel
theorem dX11_step_266 : decode cX11_step 266 = .ok (.invokevirtual 91, 3) := by decide +kernel
theorem dX11_step_269 : decode cX11_step 269 = .ok (.return_, 1) := by decide +kernel
theorem dX11_other_0 : decode cX11_other 0 = .ok (.aload_n 0, 1) := by decide +kernel
theorem dX11_other_1 : decode cX11_other 1 = .ok (.getfield 61, 3) := by decide +kernel
theorem dX11_other_4 : decode cX11_other 4 = .ok (.ifCond .ne 16, 3) := by decide +kernel
theorem dX11_other_7 : decode cX11_other 7 = .ok (.aload_n 0, 1) := by decide +kernel
theorem dX11_other_8 : decode cX11_other 8 = .ok (.getfield 70, 3) := by decide +kernel
theorem dX11_other_11 : decode cX11_other 11 = .ok (.iconst 2, 1) := by decide +kernel
theorem dX11_other_12 : decode cX11_other 12 = .ok (.if_icmp .eq 8, 3) := by decide +kernel
theorem dX11_other_15 : decode cX11_other 15 = .ok (.aload_n 0, 1) := by decide +kernel
theorem dX11_other_16 : decode cX11_other 16 = .ok (.iconst 2, 1) := by decide +kernel
theorem dX11_other_17 : decode cX11_other 17 = .ok (.invokevirtual 91, 3) := by decide +kernel
theorem dX11_other_20 : decode cX11_other 20 = .ok (.aload_n 0, 1) := by decide +kernel
theorem dX11_other_21 : decode cX11_other 21 = .ok (.getfield 61, 3) := by decide +kernel
theorem dX11_other_24 : decode cX11_other 24 = .ok (.ifCond .ne 23, 3) := by decide +kernel
theorem dX11_other_27 : decode cX11_other 27 = .ok (.aload_n 0, 1) := by decide +kernel
theorem dX11_other_28 : decode cX11_other 28 = .ok (.getfield 80, 3) := by decide +kernel
theorem dX11_other_31 : decode cX11_other 31 = .ok (.i2l, 1) := by decide +kernel
theorem dX11_other_32 : decode cX11_other 32 = .ok (.iload_n 1, 1) := by decide +kernel
theorem dX11_other_33 : decode cX11_other 33 = .ok (.i2l, 1) := by decide +kernel
theorem dX11_other_34 : decode cX11_other 34 = .ok (.iload_n 2, 1) := by decide +kernel
theorem dX11_other_35 : decode cX11_other 35 = .ok (.i2l, 1) := by decide +kernel
theorem dX11_other_36 : decode cX11_other 36 = .ok (.invokestatic 57, 3) := by decide +kernel
theorem dX11_other_39 : decode cX11_other 39 = .ok (.ifCond .ne 8, 3) := by decide +kernel
theorem dX11_other_42 : decode cX11_other 42 = .ok (.aload_n 0, 1) := by decide +kernel
theorem dX11_other_43 : decode cX11_other 43 = .ok (.iconst 3, 1) := by decide +kernel
theorem dX11_other_44 : decode cX11_other 44 = .ok (.invokevirtual 91, 3) := by decide +kernel
theorem dX11_other_47 : decode cX11_other 47 = .ok (.aload_n 0, 1) := by decide +kernel
theorem dX11_other_48 : decode cX11_other 48 = .ok (.getfield 61, 3) := by decide +kernel
theorem dX11_other_51 : decode cX11_other 51 = .ok (.ifCond .ne 20, 3) := by decide +kernel
theorem dX11_other_54 : decode cX11_other 54 = .ok (.iload_n 3, 1) := by decide +kernel
theorem dX11_other_55 : decode cX11_other 55 = .ok (.aload_n 0, 1) := by decide +kernel
theorem dX11_other_56 : decode cX11_other 56 = .ok (.getfield 80, 3) := by decide +kernel
theorem dX11_other_59 : decode cX11_other 59 = .ok (.ishr, 1) := by decide +kernel
theorem dX11_other_60 : decode cX11_other 60 = .ok (.iconst 1, 1) := by decide +kernel
theorem dX11_other_61 : decode cX11_other 61 = .ok (.iand, 1) := by decide +kernel
theorem dX11_other_62 : decode cX11_other 62 = .ok (.iconst 1, 1) := by decide +kernel
theorem dX11_other_63 : decode cX11_other 63 = .ok (.if_icmp .ne 8, 3) := by decide +kernel
theorem dX11_other_66 : decode cX11_other 66 = .ok (.aload_n 0, 1) := by decide +kernel
theorem dX11_other_67 : decode cX11_other 67 = .ok (.iconst 4, 1) := by decide +kernel
theorem dX11_other_68 : decode cX11_other 68 = .ok (.invokevirtual 91, 3) := by decide +kernel
theorem dX11_other_71 : decode cX11_other 71 = .ok (.aload_n 0, 1) := by decide +kernel
theorem dX11_other_72 : decode cX11_other 72 = .ok (.getfield 61, 3) := by decide +kernel
theorem dX11_other_75 : decode cX11_other 75 = .ok (.ifCond .ne 10, 3) := by decide +kernel
theorem dX11_other_78 : decode cX11_other 78 = .ok (.aload_n 0, 1) := by decide +kernel
theorem dX11_other_79 : decode cX11_other 79 = .ok (.getfield 80, 3) := by decide +kernel
theorem dX11_other_82 : decode cX11_other 82 = .ok (.goto 4, 3) := by decide +kernel
theorem dX11_other_85 : decode cX11_other 85 = .ok (.iload_n 1, 1) := by decide +kernel
theorem dX11_other_86 : decode cX11_other 86 = .ok (.istore 4, 2) := by decide +kernel
theorem dX11_other_88 : decode cX11_other 88 = .ok (.aload_n 0, 1) := by decide +kernel
theorem dX11_other_89 : decode cX11_other 89 = .ok (.invokevirtual 95, 3) := by decide +kernel
theorem dX11_other_92 : decode cX11_other 92 = .ok (.iload 4, 2) := by decide +kernel
theorem dX11_other_94 : decode cX11_other 94 = .ok (.ireturn, 1) := by decide +kernel
theorem dX11_fresh_0 : decode cX11_fresh 0 = .ok (.aload_n 0, 1) := by decide +kernel
theorem dX11_fresh_1 : decode cX11_fresh 1 = .ok (.iconst 0, 1) := by decide +kernel
theorem dX11_fresh_2 : decode cX11_fresh 2 = .ok (.iload_n 2, 1) := by decide +kernel
theorem dX11_fresh_3 : decode cX11_fresh 3 = .ok (.aload_n 0, 1) := by decide +kernel
theorem dX11_fresh_4 : decode cX11_fresh 4 = .ok (.getfield 20, 3) := by decide +kernel
theorem dX11_fresh_7 : decode cX11_fresh 7 = .ok (.iload_n 1, 1) := by decide +kernel
theorem dX11_fresh_8 : decode cX11_fresh 8 = .ok (.iaload, 1) := by decide +kernel
theorem dX11_fresh_9 : decode cX11_fresh 9 = .ok (.invokevirtual 98, 3) := by decide +kernel
theorem dX11_fresh_12 : decode cX11_fresh 12 = .ok (.istore_n 3, 1) := by decide +kernel
theorem dX11_fresh_13 : decode cX11_fresh 13 = .ok (.aload_n 0, 1) := by decide +kernel
theorem dX11_fresh_14 : decode cX11_fresh 14 = .ok (.getfield 20, 3) := by decide +kernel
theorem dX11_fresh_17 : decode cX11_fresh 17 = .ok (.iload_n 1, 1) := by decide +kernel
theorem dX11_fresh_18 : decode cX11_fresh 18 = .ok (.dup2, 1) := by decide +kernel
theorem dX11_fresh_19 : decode cX11_fresh 19 = .ok (.iaload, 1) := by decide +kernel
theorem dX11_fresh_20 : decode cX11_fresh 20 = .ok (.iconst 1, 1) := by decide +kernel
theorem dX11_fresh_21 : decode cX11_fresh 21 = .ok (.iload_n 3, 1) := by decide +kernel
theorem dX11_fresh_22 : decode cX11_fresh 22 = .ok (.ishl, 1) := by decide +kernel
theorem dX11_fresh_23 : decode cX11_fresh 23 = .ok (.ior, 1) := by decide +kernel
theorem dX11_fresh_24 : decode cX11_fresh 24 = .ok (.iastore, 1) := by decide +kernel
theorem dX11_fresh_25 : decode cX11_fresh 25 = .ok (.aload_n 0, 1) := by decide +kernel
theorem dX11_fresh_26 : decode cX11_fresh 26 = .ok (.iload_n 2, 1) := by decide +kernel
theorem dX11_fresh_27 : decode cX11_fresh 27 = .ok (.iconst 1, 1) := by decide +kernel
theorem dX11_fresh_28 : decode cX11_fresh 28 = .ok (.if_icmp .le 15, 3) := by decide +kernel
theorem dX11_fresh_31 : decode cX11_fresh 31 = .ok (.iload_n 3, 1) := by decide +kernel
theorem dX11_fresh_32 : decode cX11_fresh 32 = .ok (.aload_n 0, 1) := by decide +kernel
theorem dX11_fresh_33 : decode cX11_fresh 33 = .ok (.getfield 102, 3) := by decide +kernel
theorem dX11_fresh_36 : decode cX11_fresh 36 = .ok (.if_icmp .le 7, 3) := by decide +kernel
theorem dX11_fresh_39 : decode cX11_fresh 39 = .ok (.iload_n 3, 1) := by decide +kernel
theorem dX11_fresh_40 : decode cX11_fresh 40 = .ok (.goto 7, 3) := by decide +kernel
theorem dX11_fresh_43 : decode cX11_fresh 43 = .ok (.aload_n 0, 1) := by decide +kernel
theorem dX11_fresh_44 : decode cX11_fresh 44 = .ok (.getfield 102, 3) := by decide +kernel
theorem dX11_fresh_47 : decode cX11_fresh 47 = .ok (.putfield 102, 3) := by decide +kernel
theorem dX11_fresh_50 : decode cX11_fresh 50 = .ok (.iload_n 3, 1) := by decide +kernel
theorem dX11_fresh_51 : decode cX11_fresh 51 = .ok (.ireturn, 1) := by decide +kernel
theorem dX11_readSide_0 : decode cX11_readSide 0 = .ok (.bipush 28, 2) := by decide +kernel
theorem dX11_readSide_2 : decode cX11_readSide 2 = .ok (.bipush 8, 2) := by decide +kernel
theorem dX11_readSide_4 : decode cX11_readSide 4 = .ok (.aload_n 0, 1) := by decide +kernel
theorem dX11_readSide_5 : decode cX11_readSide 5 = .ok (.iconst 5, 1) := by decide +kernel
theorem dX11_readSide_6 : decode cX11_readSide 6 = .ok (.iconst 1, 1) := by decide +kernel
theorem dX11_readSide_7 : decode cX11_readSide 7 = .ok (.invokevirtual 105, 3) := by decide +kernel
theorem dX11_readSide_10 : decode cX11_readSide 10 = .ok (.imul, 1) := by decide +kernel
theorem dX11_readSide_11 : decode cX11_readSide 11 = .ok (.iadd, 1) := by decide +kernel
theorem dX11_readSide_12 : decode cX11_readSide 12 = .ok (.istore_n 1, 1) := by decide +kernel
theorem dX11_readSide_13 : decode cX11_readSide 13 = .ok (.aload_n 0, 1) := by decide +kernel
theorem dX11_readSide_14 : decode cX11_readSide 14 = .ok (.getfield 17, 3) := by decide +kernel
theorem dX11_readSide_17 : decode cX11_readSide 17 = .ok (.iload_n 1, 1) := by decide +kernel
theorem dX11_readSide_18 : decode cX11_readSide 18 = .ok (.aload_n 0, 1) := by decide +kernel
theorem dX11_readSide_19 : decode cX11_readSide 19 = .ok (.iconst 0, 1) := by decide +kernel
theorem dX11_readSide_20 : decode cX11_readSide 20 = .ok (.bipush 12, 2) := by decide +kernel
theorem dX11_readSide_22 : decode cX11_readSide 22 = .ok (.iconst 0, 1) := by decide +kernel
theorem dX11_readSide_23 : decode cX11_readSide 23 = .ok (.invokevirtual 98, 3) := by decide +kernel
theorem dX11_readSide_26 : decode cX11_readSide 26 = .ok (.iastore, 1) := by decide +kernel
theorem dX11_readSide_27 : decode cX11_readSide 27 = .ok (.aload_n 0, 1) := by decide +kernel
theorem dX11_readSide_28 : decode cX11_readSide 28 = .ok (.invokevirtual 109, 3) := by decide +kernel
theorem dX11_readSide_31 : decode cX11_readSide 31 = .ok (.bipush 9, 2) := by decide +kernel
theorem dX11_readSide_33 : decode cX11_readSide 33 = .ok (.isub, 1) := by decide +kernel
theorem dX11_readSide_34 : decode cX11_readSide 34 = .ok (.istore_n 2, 1) := by decide +kernel
theorem dX11_readSide_35 : decode cX11_readSide 35 = .ok (.aload_n 0, 1) := by decide +kernel
theorem dX11_readSide_36 : decode cX11_readSide 36 = .ok (.getfield 61, 3) := by decide +kernel
theorem dX11_readSide_39 : decode cX11_readSide 39 = .ok (.ifCond .ne 12, 3) := by decide +kernel
theorem dX11_readSide_42 : decode cX11_readSide 42 = .ok (.iload_n 2, 1) := by decide +kernel
theorem dX11_readSide_43 : decode cX11_readSide 43 = .ok (.ifCond .ge 8, 3) := by decide +kernel
theorem dX11_readSide_46 : decode cX11_readSide 46 = .ok (.aload_n 0, 1) := by decide +kernel
theorem dX11_readSide_47 : decode cX11_readSide 47 = .ok (.iconst 2, 1) := by decide +kernel
theorem dX11_readSide_48 : decode cX11_readSide 48 = .ok (.invokevirtual 91, 3) := by decide +kernel
theorem dX11_readSide_51 : decode cX11_readSide 51 = .ok (.aload_n 0, 1) := by decide +kernel
theorem dX11_readSide_52 : decode cX11_readSide 52 = .ok (.getfield 17, 3) := by decide +kernel
theorem dX11_readSide_55 : decode cX11_readSide 55 = .ok (.iload_n 1, 1) := by decide +kernel
theorem dX11_readSide_56 : decode cX11_readSide 56 = .ok (.bipush 6, 2) := by decide +kernel
theorem dX11_readSide_58 : decode cX11_readSide 58 = .ok (.iadd, 1) := by decide +kernel
theorem dX11_readSide_59 : decode cX11_readSide 59 = .ok (.iload_n 2, 1) := by decide +kernel
theorem dX11_readSide_60 : decode cX11_readSide 60 = .ok (.iastore, 1) := by decide +kernel
theorem dX11_readSide_61 : decode cX11_readSide 61 = .ok (.aload_n 0, 1) := by decide +kernel
theorem dX11_readSide_62 : decode cX11_readSide 62 = .ok (.invokevirtual 95, 3) := by decide +kernel
theorem dX11_readSide_65 : decode cX11_readSide 65 = .ok (.aload_n 0, 1) := by decide +kernel
theorem dX11_readSide_66 : decode cX11_readSide 66 = .ok (.getfield 17, 3) := by decide +kernel
theorem dX11_readSide_69 : decode cX11_readSide 69 = .ok (.iload_n 1, 1) := by decide +kernel
theorem dX11_readSide_70 : decode cX11_readSide 70 = .ok (.bipush 7, 2) := by decide +kernel
theorem dX11_readSide_72 : decode cX11_readSide 72 = .ok (.iadd, 1) := by decide +kernel
theorem dX11_readSide_73 : decode cX11_readSide 73 = .ok (.aload_n 0, 1) := by decide +kernel
theorem dX11_readSide_74 : decode cX11_readSide 74 = .ok (.iconst 0, 1) := by decide +kernel
theorem dX11_readSide_75 : decode cX11_readSide 75 = .ok (.bipush 12, 2) := by decide +kernel
theorem dX11_readSide_77 : decode cX11_readSide 77 = .ok (.iconst 0, 1) := by decide +kernel
theorem dX11_readSide_78 : decode cX11_readSide 78 = .ok (.invokevirtual 98, 3) := by decide +kernel
theorem dX11_readSide_81 : decode cX11_readSide 81 = .ok (.iastore, 1) := by decide +kernel
theorem dX11_readSide_82 : decode cX11_readSide 82 = .ok (.return_, 1) := by decide +kernel
theorem dX11_readOf_0 : decode cX11_readOf 0 = .ok (.iload_n 1, 1) := by decide +kernel
theorem dX11_readOf_1 : decode cX11_readOf 1 = .ok (.iconst 1, 1) := by decide +kernel
theorem dX11_readOf_2 : decode cX11_readOf 2 = .ok (.if_icmp .ne 33, 3) := by decide +kernel
theorem dX11_readOf_5 : decode cX11_readOf 5 = .ok (.aload_n 0, 1) := by decide +kernel
theorem dX11_readOf_6 : decode cX11_readOf 6 = .ok (.iload_n 1, 1) := by decide +kernel
theorem dX11_readOf_7 : decode cX11_readOf 7 = .ok (.bipush 8, 2) := by decide +kernel
theorem dX11_readOf_9 : decode cX11_readOf 9 = .ok (.invokevirtual 105, 3) := by decide +kernel
theorem dX11_readOf_12 : decode cX11_readOf 12 = .ok (.istore_n 2, 1) := by decide +kernel
theorem dX11_readOf_13 : decode cX11_readOf 13 = .ok (.aload_n 0, 1) := by decide +kernel
theorem dX11_readOf_14 : decode cX11_readOf 14 = .ok (.getfield 17, 3) := by decide +kernel
theorem dX11_readOf_17 : decode cX11_readOf 17 = .ok (.iconst 3, 1) := by decide +kernel
theorem dX11_readOf_18 : decode cX11_readOf 18 = .ok (.iload_n 2, 1) := by decide +kernel
theorem dX11_readOf_19 : decode cX11_readOf 19 = .ok (.imul, 1) := by decide +kernel
theorem dX11_readOf_20 : decode cX11_readOf 20 = .ok (.bipush 12, 2) := by decide +kernel
theorem dX11_readOf_22 : decode cX11_readOf 22 = .ok (.aload_n 0, 1) := by decide +kernel
theorem dX11_readOf_23 : decode cX11_readOf 23 = .ok (.iconst 1, 1) := by decide +kernel
theorem dX11_readOf_24 : decode cX11_readOf 24 = .ok (.bipush 12, 2) := by decide +kernel
theorem dX11_readOf_26 : decode cX11_readOf 26 = .ok (.iconst 0, 1) := by decide +kernel
theorem dX11_readOf_27 : decode cX11_readOf 27 = .ok (.invokevirtual 98, 3) := by decide +kernel
theorem dX11_readOf_30 : decode cX11_readOf 30 = .ok (.isub, 1) := by decide +kernel
theorem dX11_readOf_31 : decode cX11_readOf 31 = .ok (.iastore, 1) := by decide +kernel
theorem dX11_readOf_32 : decode cX11_readOf 32 = .ok (.goto 113, 3) := by decide +kernel
theorem dX11_readOf_35 : decode cX11_readOf 35 = .ok (.iload_n 1, 1) := by decide +kernel
theorem dX11_readOf_36 : decode cX11_readOf 36 = .ok (.iconst 2, 1) := by decide +kernel
theorem dX11_readOf_37 : decode cX11_readOf 37 = .ok (.if_icmp .ne 34, 3) := by decide +kernel
theorem dX11_readOf_40 : decode cX11_readOf 40 = .ok (.aload_n 0, 1) := by decide +kernel
theorem dX11_readOf_41 : decode cX11_readOf 41 = .ok (.iload_n 1, 1) := by decide +kernel
theorem dX11_readOf_42 : decode cX11_readOf 42 = .ok (.bipush 8, 2) := by decide +kernel
theorem dX11_readOf_44 : decode cX11_readOf 44 = .ok (.invokevirtual 105, 3) := by decide +kernel
theorem dX11_readOf_47 : decode cX11_readOf 47 = .ok (.istore_n 2, 1) := by decide +kernel
theorem dX11_readOf_48 : decode cX11_readOf 48 = .ok (.aload_n 0, 1) := by decide +kernel
theorem dX11_readOf_49 : decode cX11_readOf 49 = .ok (.getfield 17, 3) := by decide +kernel
theorem dX11_readOf_52 : decode cX11_readOf 52 = .ok (.iconst 3, 1) := by decide +kernel
theorem dX11_readOf_53 : decode cX11_readOf 53 = .ok (.iload_n 2, 1) := by decide +kernel
theorem dX11_readOf_54 : decode cX11_readOf 54 = .ok (.imul, 1) := by decide +kernel
theorem dX11_readOf_55 : decode cX11_readOf 55 = .ok (.iconst 1, 1) := by decide +kernel
theorem dX11_readOf_56 : decode cX11_readOf 56 = .ok (.iadd, 1) := by decide +kernel
theorem dX11_readOf_57 : decode cX11_readOf 57 = .ok (.aload_n 0, 1) := by decide +kernel
theorem dX11_readOf_58 : decode cX11_readOf 58 = .ok (.iconst 0, 1) := by decide +kernel
theorem dX11_readOf_59 : decode cX11_readOf 59 = .ok (.bipush 6, 2) := by decide +kernel
theorem dX11_readOf_61 : decode cX11_readOf 61 = .ok (.iconst 0, 1) := by decide +kernel
theorem dX11_readOf_62 : decode cX11_readOf 62 = .ok (.invokevirtual 98, 3) := by decide +kernel
theorem dX11_readOf_65 : decode cX11_readOf 65 = .ok (.iconst 3, 1) := by decide +kernel
theorem dX11_readOf_66 : decode cX11_readOf 66 = .ok (.isub, 1) := by decide +kernel
theorem dX11_readOf_67 : decode cX11_readOf 67 = .ok (.iastore, 1) := by decide +kernel
theorem dX11_readOf_68 : decode cX11_readOf 68 = .ok (.goto 77, 3) := by decide +kernel
theorem dX11_readOf_71 : decode cX11_readOf 71 = .ok (.iload_n 1, 1) := by decide +kernel
theorem dX11_readOf_72 : decode cX11_readOf 72 = .ok (.iconst 3, 1) := by decide +kernel
theorem dX11_readOf_73 : decode cX11_readOf 73 = .ok (.if_icmp .ne 32, 3) := by decide +kernel
theorem dX11_readOf_76 : decode cX11_readOf 76 = .ok (.aload_n 0, 1) := by decide +kernel
theorem dX11_readOf_77 : decode cX11_readOf 77 = .ok (.iload_n 1, 1) := by decide +kernel
theorem dX11_readOf_78 : decode cX11_readOf 78 = .ok (.bipush 8, 2) := by decide +kernel
theorem dX11_readOf_80 : decode cX11_readOf 80 = .ok (.invokevirtual 105, 3) := by decide +kernel
theorem dX11_readOf_83 : decode cX11_readOf 83 = .ok (.istore_n 2, 1) := by decide +kernel
theorem dX11_readOf_84 : decode cX11_readOf 84 = .ok (.aload_n 0, 1) := by decide +kernel
theorem dX11_readOf_85 : decode cX11_readOf 85 = .ok (.getfield 17, 3) := by decide +kernel
theorem dX11_readOf_88 : decode cX11_readOf 88 = .ok (.iconst 3, 1) := by decide +kernel
theorem dX11_readOf_89 : decode cX11_readOf 89 = .ok (.iload_n 2, 1) := by decide +kernel
theorem dX11_readOf_90 : decode cX11_readOf 90 = .ok (.imul, 1) := by decide +kernel
theorem dX11_readOf_91 : decode cX11_readOf 91 = .ok (.iconst 2, 1) := by decide +kernel
theorem dX11_readOf_92 : decode cX11_readOf 92 = .ok (.iadd, 1) := by decide +kernel
theorem dX11_readOf_93 : decode cX11_readOf 93 = .ok (.aload_n 0, 1) := by decide +kernel
theorem dX11_readOf_94 : decode cX11_readOf 94 = .ok (.iconst 0, 1) := by decide +kernel
theorem dX11_readOf_95 : decode cX11_readOf 95 = .ok (.bipush 9, 2) := by decide +kernel
theorem dX11_readOf_97 : decode cX11_readOf 97 = .ok (.iconst 0, 1) := by decide +kernel
theorem dX11_readOf_98 : decode cX11_readOf 98 = .ok (.invokevirtual 98, 3) := by decide +kernel
theorem dX11_readOf_101 : decode cX11_readOf 101 = .ok (.iastore, 1) := by decide +kernel
theorem dX11_readOf_102 : decode cX11_readOf 102 = .ok (.goto 43, 3) := by decide +kernel
theorem dX11_readOf_105 : decode cX11_readOf 105 = .ok (.iload_n 1, 1) := by decide +kernel
theorem dX11_readOf_106 : decode cX11_readOf 106 = .ok (.iconst 5, 1) := by decide +kernel
theorem dX11_readOf_107 : decode cX11_readOf 107 = .ok (.if_icmp .ne 10, 3) := by decide +kernel
theorem dX11_readOf_110 : decode cX11_readOf 110 = .ok (.aload_n 0, 1) := by decide +kernel
theorem dX11_readOf_111 : decode cX11_readOf 111 = .ok (.invokevirtual 113, 3) := by decide +kernel
theorem dX11_readOf_114 : decode cX11_readOf 114 = .ok (.goto 31, 3) := by decide +kernel
theorem dX11_readOf_117 : decode cX11_readOf 117 = .ok (.aload_n 0, 1) := by decide +kernel
theorem dX11_readOf_118 : decode cX11_readOf 118 = .ok (.iload_n 1, 1) := by decide +kernel
theorem dX11_readOf_119 : decode cX11_readOf 119 = .ok (.iconst 1, 1) := by decide +kernel
theorem dX11_readOf_120 : decode cX11_readOf 120 = .ok (.invokevirtual 105, 3) := by decide +kernel
theorem dX11_readOf_123 : decode cX11_readOf 123 = .ok (.istore_n 2, 1) := by decide +kernel
theorem dX11_readOf_124 : decode cX11_readOf 124 = .ok (.aload_n 0, 1) := by decide +kernel
theorem dX11_readOf_125 : decode cX11_readOf 125 = .ok (.getfield 17, 3) := by decide +kernel
theorem dX11_readOf_128 : decode cX11_readOf 128 = .ok (.bipush 28, 2) := by decide +kernel
theorem dX11_readOf_130 : decode cX11_readOf 130 = .ok (.bipush 8, 2) := by decide +kernel
theorem dX11_readOf_132 : decode cX11_readOf 132 = .ok (.iload_n 2, 1) := by decide +kernel
theorem dX11_readOf_133 : decode cX11_readOf 133 = .ok (.imul, 1) := by decide +kernel
theorem dX11_readOf_134 : decode cX11_readOf 134 = .ok (.iadd, 1) := by decide +kernel
theorem dX11_readOf_135 : decode cX11_readOf 135 = .ok (.iconst 5, 1) := by decide +kernel
theorem dX11_readOf_136 : decode cX11_readOf 136 = .ok (.iadd, 1) := by decide +kernel
theorem dX11_readOf_137 : decode cX11_readOf 137 = .ok (.aload_n 0, 1) := by decide +kernel
theorem dX11_readOf_138 : decode cX11_readOf 138 = .ok (.iconst 0, 1) := by decide +kernel
theorem dX11_readOf_139 : decode cX11_readOf 139 = .ok (.iconst 5, 1) := by decide +kernel
theorem dX11_readOf_140 : decode cX11_readOf 140 = .ok (.iconst 0, 1) := by decide +kernel
theorem dX11_readOf_141 : decode cX11_readOf 141 = .ok (.invokevirtual 98, 3) := by decide +kernel
theorem dX11_readOf_144 : decode cX11_readOf 144 = .ok (.iastore, 1) := by decide +kernel
theorem dX11_readOf_145 : decode cX11_readOf 145 = .ok (.return_, 1) := by decide +kernel
theorem dX11_readOnce_0 : decode cX11_readOnce 0 = .ok (.iload_n 1, 1) := by decide +kernel
theorem dX11_readOnce_1 : decode cX11_readOnce 1 = .ok (.ifCond .ne 18, 3) := by decide +kernel
theorem dX11_readOnce_4 : decode cX11_readOnce 4 = .ok (.aload_n 0, 1) := by decide +kernel
theorem dX11_readOnce_5 : decode cX11_readOnce 5 = .ok (.aload_n 0, 1) := by decide +kernel
theorem dX11_readOnce_6 : decode cX11_readOnce 6 = .ok (.iconst 3, 1) := by decide +kernel
theorem dX11_readOnce_7 : decode cX11_readOnce 7 = .ok (.bipush 9, 2) := by decide +kernel
theorem dX11_readOnce_9 : decode cX11_readOnce 9 = .ok (.iconst 0, 1) := by decide +kernel
theorem dX11_readOnce_10 : decode cX11_readOnce 10 = .ok (.invokevirtual 98, 3) := by decide +kernel
theorem dX11_readOnce_13 : decode cX11_readOnce 13 = .ok (.putfield 116, 3) := by decide +kernel
theorem dX11_readOnce_16 : decode cX11_readOnce 16 = .ok (.goto 89, 3) := by decide +kernel
theorem dX11_readOnce_19 : decode cX11_readOnce 19 = .ok (.iload_n 1, 1) := by decide +kernel
theorem dX11_readOnce_20 : decode cX11_readOnce 20 = .ok (.iconst 4, 1) := by decide +kernel
theorem dX11_readOnce_21 : decode cX11_readOnce 21 = .ok (.if_icmp .ne 44, 3) := by decide +kernel
theorem dX11_readOnce_24 : decode cX11_readOnce 24 = .ok (.aload_n 0, 1) := by decide +kernel
theorem dX11_readOnce_25 : decode cX11_readOnce 25 = .ok (.aload_n 0, 1) := by decide +kernel
theorem dX11_readOnce_26 : decode cX11_readOnce 26 = .ok (.iconst 0, 1) := by decide +kernel
theorem dX11_readOnce_27 : decode cX11_readOnce 27 = .ok (.bipush 8, 2) := by decide +kernel
theorem dX11_readOnce_29 : decode cX11_readOnce 29 = .ok (.iconst 0, 1) := by decide +kernel
theorem dX11_readOnce_30 : decode cX11_readOnce 30 = .ok (.invokevirtual 98, 3) := by decide +kernel
theorem dX11_readOnce_33 : decode cX11_readOnce 33 = .ok (.putfield 119, 3) := by decide +kernel
theorem dX11_readOnce_36 : decode cX11_readOnce 36 = .ok (.aload_n 0, 1) := by decide +kernel
theorem dX11_readOnce_37 : decode cX11_readOnce 37 = .ok (.aload_n 0, 1) := by decide +kernel
theorem dX11_readOnce_38 : decode cX11_readOnce 38 = .ok (.getfield 119, 3) := by decide +kernel
theorem dX11_readOnce_41 : decode cX11_readOnce 41 = .ok (.aload_n 0, 1) := by decide +kernel
theorem dX11_readOnce_42 : decode cX11_readOnce 42 = .ok (.getfield 102, 3) := by decide +kernel
theorem dX11_readOnce_45 : decode cX11_readOnce 45 = .ok (.if_icmp .le 10, 3) := by decide +kernel
theorem dX11_readOnce_48 : decode cX11_readOnce 48 = .ok (.aload_n 0, 1) := by decide +kernel
theorem dX11_readOnce_49 : decode cX11_readOnce 49 = .ok (.getfield 119, 3) := by decide +kernel
theorem dX11_readOnce_52 : decode cX11_readOnce 52 = .ok (.goto 7, 3) := by decide +kernel
theorem dX11_readOnce_55 : decode cX11_readOnce 55 = .ok (.aload_n 0, 1) := by decide +kernel
theorem dX11_readOnce_56 : decode cX11_readOnce 56 = .ok (.getfield 102, 3) := by decide +kernel
theorem dX11_readOnce_59 : decode cX11_readOnce 59 = .ok (.putfield 102, 3) := by decide +kernel
theorem dX11_readOnce_62 : decode cX11_readOnce 62 = .ok (.goto 43, 3) := by decide +kernel
theorem dX11_readOnce_65 : decode cX11_readOnce 65 = .ok (.iload_n 1, 1) := by decide +kernel
theorem dX11_readOnce_66 : decode cX11_readOnce 66 = .ok (.bipush 7, 2) := by decide +kernel
theorem dX11_readOnce_68 : decode cX11_readOnce 68 = .ok (.if_icmp .ne 22, 3) := by decide +kernel
theorem dX11_readOnce_71 : decode cX11_readOnce 71 = .ok (.aload_n 0, 1) := by decide +kernel
theorem dX11_readOnce_72 : decode cX11_readOnce 72 = .ok (.getfield 17, 3) := by decide +kernel
theorem dX11_readOnce_75 : decode cX11_readOnce 75 = .ok (.bipush 44, 2) := by decide +kernel
theorem dX11_readOnce_77 : decode cX11_readOnce 77 = .ok (.aload_n 0, 1) := by decide +kernel
theorem dX11_readOnce_78 : decode cX11_readOnce 78 = .ok (.iconst 1, 1) := by decide +kernel
theorem dX11_readOnce_79 : decode cX11_readOnce 79 = .ok (.iconst 4, 1) := by decide +kernel
theorem dX11_readOnce_80 : decode cX11_readOnce 80 = .ok (.iconst 0, 1) := by decide +kernel
theorem dX11_readOnce_81 : decode cX11_readOnce 81 = .ok (.invokevirtual 98, 3) := by decide +kernel
theorem dX11_readOnce_84 : decode cX11_readOnce 84 = .ok (.iconst 2, 1) := by decide +kernel
theorem dX11_readOnce_85 : decode cX11_readOnce 85 = .ok (.isub, 1) := by decide +kernel
theorem dX11_readOnce_86 : decode cX11_readOnce 86 = .ok (.iastore, 1) := by decide +kernel
theorem dX11_readOnce_87 : decode cX11_readOnce 87 = .ok (.goto 18, 3) := by decide +kernel
theorem dX11_readOnce_90 : decode cX11_readOnce 90 = .ok (.aload_n 0, 1) := by decide +kernel
theorem dX11_readOnce_91 : decode cX11_readOnce 91 = .ok (.getfield 17, 3) := by decide +kernel
theorem dX11_readOnce_94 : decode cX11_readOnce 94 = .ok (.bipush 45, 2) := by decide +kernel
theorem dX11_readOnce_96 : decode cX11_readOnce 96 = .ok (.aload_n 0, 1) := by decide +kernel
theorem dX11_readOnce_97 : decode cX11_readOnce 97 = .ok (.iconst 0, 1) := by decide +kernel
theorem dX11_readOnce_98 : decode cX11_readOnce 98 = .ok (.bipush 7, 2) := by decide +kernel
theorem dX11_readOnce_100 : decode cX11_readOnce 100 = .ok (.iconst 0, 1) := by decide +kernel
theorem dX11_readOnce_101 : decode cX11_readOnce 101 = .ok (.invokevirtual 98, 3) := by decide +kernel
theorem dX11_readOnce_104 : decode cX11_readOnce 104 = .ok (.iastore, 1) := by decide +kernel
theorem dX11_readOnce_105 : decode cX11_readOnce 105 = .ok (.return_, 1) := by decide +kernel
theorem dX11_readLine_0 : decode cX11_readLine 0 = .ok (.aload_n 0, 1) := by decide +kernel
theorem dX11_readLine_1 : decode cX11_readLine 1 = .ok (.invokevirtual 109, 3) := by decide +kernel
theorem dX11_readLine_4 : decode cX11_readLine 4 = .ok (.istore_n 1, 1) := by decide +kernel
theorem dX11_readLine_5 : decode cX11_readLine 5 = .ok (.iload_n 1, 1) := by decide +kernel
theorem dX11_readLine_6 : decode cX11_readLine 6 = .ok (.i2l, 1) := by decide +kernel
theorem dX11_readLine_7 : decode cX11_readLine 7 = .ok (.lconst 0, 1) := by decide +kernel
theorem dX11_readLine_8 : decode cX11_readLine 8 = .ok (.ldc2_w 122, 3) := by decide +kernel
theorem dX11_readLine_11 : decode cX11_readLine 11 = .ok (.invokestatic 57, 3) := by decide +kernel
theorem dX11_readLine_14 : decode cX11_readLine 14 = .ok (.ifCond .ne 9, 3) := by decide +kernel
theorem dX11_readLine_17 : decode cX11_readLine 17 = .ok (.aload_n 0, 1) := by decide +kernel
theorem dX11_readLine_18 : decode cX11_readLine 18 = .ok (.iconst 2, 1) := by decide +kernel
theorem dX11_readLine_19 : decode cX11_readLine 19 = .ok (.invokevirtual 91, 3) := by decide +kernel
theorem dX11_readLine_22 : decode cX11_readLine 22 = .ok (.return_, 1) := by decide +kernel
theorem dX11_readLine_23 : decode cX11_readLine 23 = .ok (.iload_n 1, 1) := by decide +kernel
theorem dX11_readLine_24 : decode cX11_readLine 24 = .ok (.ifCond .eq 20, 3) := by decide +kernel
theorem dX11_readLine_27 : decode cX11_readLine 27 = .ok (.iload_n 1, 1) := by decide +kernel
theorem dX11_readLine_28 : decode cX11_readLine 28 = .ok (.iconst 4, 1) := by decide +kernel
theorem dX11_readLine_29 : decode cX11_readLine 29 = .ok (.if_icmp .eq 15, 3) := by decide +kernel
theorem dX11_readLine_32 : decode cX11_readLine 32 = .ok (.iload_n 1, 1) := by decide +kernel
theorem dX11_readLine_33 : decode cX11_readLine 33 = .ok (.bipush 7, 2) := by decide +kernel
theorem dX11_readLine_35 : decode cX11_readLine 35 = .ok (.if_icmp .eq 9, 3) := by decide +kernel
theorem dX11_readLine_38 : decode cX11_readLine 38 = .ok (.iload_n 1, 1) := by decide +kernel
theorem dX11_readLine_39 : decode cX11_readLine 39 = .ok (.bipush 8, 2) := by decide +kernel
theorem dX11_readLine_41 : decode cX11_readLine 41 = .ok (.if_icmp .ne 7, 3) := by decide +kernel
theorem dX11_readLine_44 : decode cX11_readLine 44 = .ok (.iconst 1, 1) := by decide +kernel
theorem dX11_readLine_45 : decode cX11_readLine 45 = .ok (.goto 4, 3) := by decide +kernel
theorem dX11_readLine_48 : decode cX11_readLine 48 = .ok (.iconst 0, 1) := by decide +kernel
theorem dX11_readLine_49 : decode cX11_readLine 49 = .ok (.istore_n 2, 1) := by decide +kernel
theorem dX11_readLine_50 : decode cX11_readLine 50 = .ok (.iload_n 2, 1) := by decide +kernel
theorem dX11_readLine_51 : decode cX11_readLine 51 = .ok (.ifCond .eq 20, 3) := by decide +kernel
theorem dX11_readLine_54 : decode cX11_readLine 54 = .ok (.aload_n 0, 1) := by decide +kernel
theorem dX11_readLine_55 : decode cX11_readLine 55 = .ok (.getfield 124, 3) := by decide +kernel
theorem dX11_readLine_58 : decode cX11_readLine 58 = .ok (.iload_n 1, 1) := by decide +kernel
theorem dX11_readLine_59 : decode cX11_readLine 59 = .ok (.ishr, 1) := by decide +kernel
theorem dX11_readLine_60 : decode cX11_readLine 60 = .ok (.iconst 1, 1) := by decide +kernel
theorem dX11_readLine_61 : decode cX11_readLine 61 = .ok (.iand, 1) := by decide +kernel
theorem dX11_readLine_62 : decode cX11_readLine 62 = .ok (.iconst 1, 1) := by decide +kernel
theorem dX11_readLine_63 : decode cX11_readLine 63 = .ok (.if_icmp .ne 8, 3) := by decide +kernel
theorem dX11_readLine_66 : decode cX11_readLine 66 = .ok (.aload_n 0, 1) := by decide +kernel
theorem dX11_readLine_67 : decode cX11_readLine 67 = .ok (.iconst 4, 1) := by decide +kernel
theorem dX11_readLine_68 : decode cX11_readLine 68 = .ok (.invokevirtual 91, 3) := by decide +kernel
theorem dX11_readLine_71 : decode cX11_readLine 71 = .ok (.aload_n 0, 1) := by decide +kernel
theorem dX11_readLine_72 : decode cX11_readLine 72 = .ok (.dup, 1) := by decide +kernel
theorem dX11_readLine_73 : decode cX11_readLine 73 = .ok (.getfield 124, 3) := by decide +kernel
theorem dX11_readLine_76 : decode cX11_readLine 76 = .ok (.iconst 1, 1) := by decide +kernel
theorem dX11_readLine_77 : decode cX11_readLine 77 = .ok (.iload_n 1, 1) := by decide +kernel
theorem dX11_readLine_78 : decode cX11_readLine 78 = .ok (.ishl, 1) := by decide +kernel
theorem dX11_readLine_79 : decode cX11_readLine 79 = .ok (.ior, 1) := by decide +kernel
theorem dX11_readLine_80 : decode cX11_readLine 80 = .ok (.putfield 124, 3) := by decide +kernel
theorem dX11_readLine_83 : decode cX11_readLine 83 = .ok (.aload_n 0, 1) := by decide +kernel
theorem dX11_readLine_84 : decode cX11_readLine 84 = .ok (.invokevirtual 95, 3) := by decide +kernel
theorem dX11_readLine_87 : decode cX11_readLine 87 = .ok (.iload_n 2, 1) := by decide +kernel
theorem dX11_readLine_88 : decode cX11_readLine 88 = .ok (.ifCond .eq 11, 3) := by decide +kernel
theorem dX11_readLine_91 : decode cX11_readLine 91 = .ok (.aload_n 0, 1) := by decide +kernel
theorem dX11_readLine_92 : decode cX11_readLine 92 = .ok (.iload_n 1, 1) := by decide +kernel
theorem dX11_readLine_93 : decode cX11_readLine 93 = .ok (.invokevirtual 127, 3) := by decide +kernel
theorem dX11_readLine_96 : decode cX11_readLine 96 = .ok (.goto 8, 3) := by decide +kernel
theorem dX11_readLine_99 : decode cX11_readLine 99 = .ok (.aload_n 0, 1) := by decide +kernel
theorem dX11_readLine_100 : decode cX11_readLine 100 = .ok (.iload_n 1, 1) := by decide +kernel
theorem dX11_readLine_101 : decode cX11_readLine 101 = .ok (.invokevirtual 130, 3) := by decide +kernel
theorem dX11_readLine_104 : decode cX11_readLine 104 = .ok (.aload_n 0, 1) := by decide +kernel
theorem dX11_readLine_105 : decode cX11_readLine 105 = .ok (.getfield 61, 3) := by decide +kernel
theorem dX11_readLine_108 : decode cX11_readLine 108 = .ok (.ifCond .ne 16, 3) := by decide +kernel
theorem dX11_readLine_111 : decode cX11_readLine 111 = .ok (.aload_n 0, 1) := by decide +kernel
theorem dX11_readLine_112 : decode cX11_readLine 112 = .ok (.getfield 70, 3) := by decide +kernel
theorem dX11_readLine_115 : decode cX11_readLine 115 = .ok (.iconst 3, 1) := by decide +kernel
theorem dX11_readLine_116 : decode cX11_readLine 116 = .ok (.if_icmp .eq 8, 3) := by decide +kernel
theorem dX11_readLine_119 : decode cX11_readLine 119 = .ok (.aload_n 0, 1) := by decide +kernel
theorem dX11_readLine_120 : decode cX11_readLine 120 = .ok (.iconst 2, 1) := by decide +kernel
theorem dX11_readLine_121 : decode cX11_readLine 121 = .ok (.invokevirtual 91, 3) := by decide +kernel
theorem dX11_readLine_124 : decode cX11_readLine 124 = .ok (.aload_n 0, 1) := by decide +kernel
theorem dX11_readLine_125 : decode cX11_readLine 125 = .ok (.invokevirtual 95, 3) := by decide +kernel
theorem dX11_readLine_128 : decode cX11_readLine 128 = .ok (.return_, 1) := by decide +kernel
theorem dX11_text_0 : decode cX11_text 0 = .ok (.aload_n 0, 1) := by decide +kernel
theorem dX11_text_1 : decode cX11_text 1 = .ok (.iconst 0, 1) := by decide +kernel
theorem dX11_text_2 : decode cX11_text 2 = .ok (.putfield 61, 3) := by decide +kernel
theorem dX11_text_5 : decode cX11_text 5 = .ok (.aload_n 0, 1) := by decide +kernel
theorem dX11_text_6 : decode cX11_text 6 = .ok (.iconst 0, 1) := by decide +kernel
theorem dX11_text_7 : decode cX11_text 7 = .ok (.putfield 73, 3) := by decide +kernel
theorem dX11_text_10 : decode cX11_text 10 = .ok (.aload_n 0, 1) := by decide +kernel
theorem dX11_text_11 : decode cX11_text 11 = .ok (.iconst 5, 1) := by decide +kernel
theorem dX11_text_12 : decode cX11_text 12 = .ok (.putfield 116, 3) := by decide +kernel
theorem dX11_text_15 : decode cX11_text 15 = .ok (.aload_n 0, 1) := by decide +kernel
theorem dX11_text_16 : decode cX11_text 16 = .ok (.bipush (-4), 2) := by decide +kernel
theorem dX11_text_18 : decode cX11_text 18 = .ok (.putfield 119, 3) := by decide +kernel
theorem dX11_text_21 : decode cX11_text 21 = .ok (.aload_n 0, 1) := by decide +kernel
theorem dX11_text_22 : decode cX11_text 22 = .ok (.iconst 0, 1) := by decide +kernel
theorem dX11_text_23 : decode cX11_text 23 = .ok (.putfield 124, 3) := by decide +kernel
theorem dX11_text_26 : decode cX11_text 26 = .ok (.aload_n 0, 1) := by decide +kernel
theorem dX11_text_27 : decode cX11_text 27 = .ok (.iconst (-1), 1) := by decide +kernel
theorem dX11_text_28 : decode cX11_text 28 = .ok (.putfield 102, 3) := by decide +kernel
theorem dX11_text_31 : decode cX11_text 31 = .ok (.iconst 0, 1) := by decide +kernel
theorem dX11_text_32 : decode cX11_text 32 = .ok (.istore_n 1, 1) := by decide +kernel
theorem dX11_text_33 : decode cX11_text 33 = .ok (.iconst 0, 1) := by decide +kernel
theorem dX11_text_34 : decode cX11_text 34 = .ok (.istore_n 2, 1) := by decide +kernel
theorem dX11_text_35 : decode cX11_text 35 = .ok (.iload_n 2, 1) := by decide +kernel
theorem dX11_text_36 : decode cX11_text 36 = .ok (.bipush 47, 2) := by decide +kernel
theorem dX11_text_38 : decode cX11_text 38 = .ok (.if_icmp .ge 26, 3) := by decide +kernel
theorem dX11_text_41 : decode cX11_text 41 = .ok (.aload_n 0, 1) := by decide +kernel
theorem dX11_text_42 : decode cX11_text 42 = .ok (.getfield 17, 3) := by decide +kernel
theorem dX11_text_45 : decode cX11_text 45 = .ok (.iload_n 2, 1) := by decide +kernel
theorem dX11_text_46 : decode cX11_text 46 = .ok (.iconst 0, 1) := by decide +kernel
theorem dX11_text_47 : decode cX11_text 47 = .ok (.iastore, 1) := by decide +kernel
theorem dX11_text_48 : decode cX11_text 48 = .ok (.aload_n 0, 1) := by decide +kernel
theorem dX11_text_49 : decode cX11_text 49 = .ok (.getfield 20, 3) := by decide +kernel
theorem dX11_text_52 : decode cX11_text 52 = .ok (.iload_n 2, 1) := by decide +kernel
theorem dX11_text_53 : decode cX11_text 53 = .ok (.bipush 9, 2) := by decide +kernel
theorem dX11_text_55 : decode cX11_text 55 = .ok (.irem, 1) := by decide +kernel
theorem dX11_text_56 : decode cX11_text 56 = .ok (.iconst 0, 1) := by decide +kernel
theorem dX11_text_57 : decode cX11_text 57 = .ok (.iastore, 1) := by decide +kernel
theorem dX11_text_58 : decode cX11_text 58 = .ok (.iinc 2 1, 3) := by decide +kernel
theorem dX11_text_61 : decode cX11_text 61 = .ok (.goto (-26), 3) := by decide +kernel
theorem dX11_text_64 : decode cX11_text 64 = .ok (.aload_n 0, 1) := by decide +kernel
theorem dX11_text_65 : decode cX11_text 65 = .ok (.invokevirtual 95, 3) := by decide +kernel
theorem dX11_text_68 : decode cX11_text 68 = .ok (.aload_n 0, 1) := by decide +kernel
theorem dX11_text_69 : decode cX11_text 69 = .ok (.getfield 61, 3) := by decide +kernel
theorem dX11_text_72 : decode cX11_text 72 = .ok (.ifCond .ne 20, 3) := by decide +kernel
theorem dX11_text_75 : decode cX11_text 75 = .ok (.aload_n 0, 1) := by decide +kernel
theorem dX11_text_76 : decode cX11_text 76 = .ok (.getfield 70, 3) := by decide +kernel
theorem dX11_text_79 : decode cX11_text 79 = .ok (.ifCond .eq 13, 3) := by decide +kernel
theorem dX11_text_82 : decode cX11_text 82 = .ok (.aload_n 0, 1) := by decide +kernel
theorem dX11_text_83 : decode cX11_text 83 = .ok (.invokevirtual 133, 3) := by decide +kernel
theorem dX11_text_86 : decode cX11_text 86 = .ok (.iinc 1 1, 3) := by decide +kernel
theorem dX11_text_89 : decode cX11_text 89 = .ok (.goto (-21), 3) := by decide +kernel
theorem dX11_text_92 : decode cX11_text 92 = .ok (.aload_n 0, 1) := by decide +kernel
theorem dX11_text_93 : decode cX11_text 93 = .ok (.getfield 61, 3) := by decide +kernel
theorem dX11_text_96 : decode cX11_text 96 = .ok (.ifCond .ne 19, 3) := by decide +kernel
theorem dX11_text_99 : decode cX11_text 99 = .ok (.aload_n 0, 1) := by decide +kernel
theorem dX11_text_100 : decode cX11_text 100 = .ok (.getfield 102, 3) := by decide +kernel
theorem dX11_text_103 : decode cX11_text 103 = .ok (.aload_n 0, 1) := by decide +kernel
theorem dX11_text_104 : decode cX11_text 104 = .ok (.getfield 116, 3) := by decide +kernel
theorem dX11_text_107 : decode cX11_text 107 = .ok (.if_icmp .lt 8, 3) := by decide +kernel
theorem dX11_text_110 : decode cX11_text 110 = .ok (.aload_n 0, 1) := by decide +kernel
theorem dX11_text_111 : decode cX11_text 111 = .ok (.iconst 5, 1) := by decide +kernel
theorem dX11_text_112 : decode cX11_text 112 = .ok (.invokevirtual 91, 3) := by decide +kernel
theorem dX11_text_115 : decode cX11_text 115 = .ok (.aload_n 0, 1) := by decide +kernel
theorem dX11_text_116 : decode cX11_text 116 = .ok (.iconst 0, 1) := by decide +kernel
theorem dX11_text_117 : decode cX11_text 117 = .ok (.putfield 54, 3) := by decide +kernel
theorem dX11_text_120 : decode cX11_text 120 = .ok (.aload_n 0, 1) := by decide +kernel
theorem dX11_text_121 : decode cX11_text 121 = .ok (.aload_n 0, 1) := by decide +kernel
theorem dX11_text_122 : decode cX11_text 122 = .ok (.getfield 61, 3) := by decide +kernel
theorem dX11_text_125 : decode cX11_text 125 = .ok (.putfield 136, 3) := by decide +kernel
theorem dX11_text_128 : decode cX11_text 128 = .ok (.aload_n 0, 1) := by decide +kernel
theorem dX11_text_129 : decode cX11_text 129 = .ok (.getfield 61, 3) := by decide +kernel
theorem dX11_text_132 : decode cX11_text 132 = .ok (.ifCond .le 11, 3) := by decide +kernel
theorem dX11_text_135 : decode cX11_text 135 = .ok (.bipush (-10), 2) := by decide +kernel
theorem dX11_text_137 : decode cX11_text 137 = .ok (.aload_n 0, 1) := by decide +kernel
theorem dX11_text_138 : decode cX11_text 138 = .ok (.getfield 67, 3) := by decide +kernel
theorem dX11_text_141 : decode cX11_text 141 = .ok (.isub, 1) := by decide +kernel
theorem dX11_text_142 : decode cX11_text 142 = .ok (.ireturn, 1) := by decide +kernel
theorem dX11_text_143 : decode cX11_text 143 = .ok (.aload_n 0, 1) := by decide +kernel
theorem dX11_text_144 : decode cX11_text 144 = .ok (.getfield 17, 3) := by decide +kernel
theorem dX11_text_147 : decode cX11_text 147 = .ok (.bipush 27, 2) := by decide +kernel
theorem dX11_text_149 : decode cX11_text 149 = .ok (.aload_n 0, 1) := by decide +kernel
theorem dX11_text_150 : decode cX11_text 150 = .ok (.getfield 119, 3) := by decide +kernel
theorem dX11_text_153 : decode cX11_text 153 = .ok (.bipush (-4), 2) := by decide +kernel
theorem dX11_text_155 : decode cX11_text 155 = .ok (.if_icmp .ne 12, 3) := by decide +kernel
theorem dX11_text_158 : decode cX11_text 158 = .ok (.aload_n 0, 1) := by decide +kernel
theorem dX11_text_159 : decode cX11_text 159 = .ok (.getfield 116, 3) := by decide +kernel
theorem dX11_text_162 : decode cX11_text 162 = .ok (.iconst 2, 1) := by decide +kernel
theorem dX11_text_163 : decode cX11_text 163 = .ok (.idiv, 1) := by decide +kernel
theorem dX11_text_164 : decode cX11_text 164 = .ok (.goto 7, 3) := by decide +kernel
theorem dX11_text_167 : decode cX11_text 167 = .ok (.aload_n 0, 1) := by decide +kernel
theorem dX11_text_168 : decode cX11_text 168 = .ok (.getfield 119, 3) := by decide +kernel
theorem dX11_text_171 : decode cX11_text 171 = .ok (.iconst 2, 1) := by decide +kernel
theorem dX11_text_172 : decode cX11_text 172 = .ok (.isub, 1) := by decide +kernel
theorem dX11_text_173 : decode cX11_text 173 = .ok (.iastore, 1) := by decide +kernel
theorem dX11_text_174 : decode cX11_text 174 = .ok (.iconst 0, 1) := by decide +kernel
theorem dX11_text_175 : decode cX11_text 175 = .ok (.istore_n 2, 1) := by decide +kernel
theorem dX11_text_176 : decode cX11_text 176 = .ok (.iload_n 2, 1) := by decide +kernel
theorem dX11_text_177 : decode cX11_text 177 = .ok (.bipush 47, 2) := by decide +kernel
theorem dX11_text_179 : decode cX11_text 179 = .ok (.if_icmp .ge 21, 3) := by decide +kernel
theorem dX11_text_182 : decode cX11_text 182 = .ok (.aload_n 0, 1) := by decide +kernel
theorem dX11_text_183 : decode cX11_text 183 = .ok (.getfield 7, 3) := by decide +kernel
theorem dX11_text_186 : decode cX11_text 186 = .ok (.iload_n 2, 1) := by decide +kernel
theorem dX11_text_187 : decode cX11_text 187 = .ok (.aload_n 0, 1) := by decide +kernel
theorem dX11_text_188 : decode cX11_text 188 = .ok (.getfield 17, 3) := by decide +kernel
theorem dX11_text_191 : decode cX11_text 191 = .ok (.iload_n 2, 1) := by decide +kernel
theorem dX11_text_192 : decode cX11_text 192 = .ok (.iaload, 1) := by decide +kernel
theorem dX11_text_193 : decode cX11_text 193 = .ok (.iastore, 1) := by decide +kernel
theorem dX11_text_194 : decode cX11_text 194 = .ok (.iinc 2 1, 3) := by decide +kernel
theorem dX11_text_197 : decode cX11_text 197 = .ok (.goto (-21), 3) := by decide +kernel
theorem dX11_text_200 : decode cX11_text 200 = .ok (.aload_n 0, 1) := by decide +kernel
theorem dX11_text_201 : decode cX11_text 201 = .ok (.aload_n 0, 1) := by decide +kernel
theorem dX11_text_202 : decode cX11_text 202 = .ok (.getfield 116, 3) := by decide +kernel
theorem dX11_text_205 : decode cX11_text 205 = .ok (.putfield 13, 3) := by decide +kernel
theorem dX11_text_208 : decode cX11_text 208 = .ok (.aload_n 0, 1) := by decide +kernel
theorem dX11_text_209 : decode cX11_text 209 = .ok (.iconst 0, 1) := by decide +kernel
theorem dX11_text_210 : decode cX11_text 210 = .ok (.putfield 139, 3) := by decide +kernel
theorem dX11_text_213 : decode cX11_text 213 = .ok (.aload_n 0, 1) := by decide +kernel
theorem dX11_text_214 : decode cX11_text 214 = .ok (.getfield 41, 3) := by decide +kernel
theorem dX11_text_217 : decode cX11_text 217 = .ok (.iconst 0, 1) := by decide +kernel
theorem dX11_text_218 : decode cX11_text 218 = .ok (.iconst 0, 1) := by decide +kernel
theorem dX11_text_219 : decode cX11_text 219 = .ok (.bastore, 1) := by decide +kernel
theorem dX11_text_220 : decode cX11_text 220 = .ok (.aload_n 0, 1) := by decide +kernel
theorem dX11_text_221 : decode cX11_text 221 = .ok (.getfield 41, 3) := by decide +kernel
theorem dX11_text_224 : decode cX11_text 224 = .ok (.iconst 1, 1) := by decide +kernel
theorem dX11_text_225 : decode cX11_text 225 = .ok (.iconst 0, 1) := by decide +kernel
theorem dX11_text_226 : decode cX11_text 226 = .ok (.bastore, 1) := by decide +kernel
theorem dX11_text_227 : decode cX11_text 227 = .ok (.iload_n 1, 1) := by decide +kernel
theorem dX11_text_228 : decode cX11_text 228 = .ok (.ireturn, 1) := by decide +kernel
theorem dX11_fault_0 : decode cX11_fault 0 = .ok (.aload_n 0, 1) := by decide +kernel
theorem dX11_fault_1 : decode cX11_fault 1 = .ok (.getfield 136, 3) := by decide +kernel
theorem dX11_fault_4 : decode cX11_fault 4 = .ok (.ireturn, 1) := by decide +kernel
theorem dX11_isCell_0 : decode cX11_isCell 0 = .ok (.iload_n 1, 1) := by decide +kernel
theorem dX11_isCell_1 : decode cX11_isCell 1 = .ok (.i2l, 1) := by decide +kernel
theorem dX11_isCell_2 : decode cX11_isCell 2 = .ok (.lconst 0, 1) := by decide +kernel
theorem dX11_isCell_3 : decode cX11_isCell 3 = .ok (.aload_n 0, 1) := by decide +kernel
theorem dX11_isCell_4 : decode cX11_isCell 4 = .ok (.getfield 13, 3) := by decide +kernel
theorem dX11_isCell_7 : decode cX11_isCell 7 = .ok (.iconst 1, 1) := by decide +kernel
theorem dX11_isCell_8 : decode cX11_isCell 8 = .ok (.isub, 1) := by decide +kernel
theorem dX11_isCell_9 : decode cX11_isCell 9 = .ok (.i2l, 1) := by decide +kernel
theorem dX11_isCell_10 : decode cX11_isCell 10 = .ok (.invokestatic 57, 3) := by decide +kernel
theorem dX11_isCell_13 : decode cX11_isCell 13 = .ok (.ireturn, 1) := by decide +kernel
theorem dX11_isSide_0 : decode cX11_isSide 0 = .ok (.iload_n 0, 1) := by decide +kernel
theorem dX11_isSide_1 : decode cX11_isSide 1 = .ok (.i2l, 1) := by decide +kernel
theorem dX11_isSide_2 : decode cX11_isSide 2 = .ok (.lconst 0, 1) := by decide +kernel
theorem dX11_isSide_3 : decode cX11_isSide 3 = .ok (.lconst 1, 1) := by decide +kernel
theorem dX11_isSide_4 : decode cX11_isSide 4 = .ok (.invokestatic 57, 3) := by decide +kernel
theorem dX11_isSide_7 : decode cX11_isSide 7 = .ok (.ireturn, 1) := by decide +kernel
theorem dX11_isSpot_0 : decode cX11_isSpot 0 = .ok (.aload_n 0, 1) := by decide +kernel
theorem dX11_isSpot_1 : decode cX11_isSpot 1 = .ok (.iload_n 1, 1) := by decide +kernel
theorem dX11_isSpot_2 : decode cX11_isSpot 2 = .ok (.invokevirtual 142, 3) := by decide +kernel
theorem dX11_isSpot_5 : decode cX11_isSpot 5 = .ok (.ifCond .ne 15, 3) := by decide +kernel
theorem dX11_isSpot_8 : decode cX11_isSpot 8 = .ok (.iload_n 1, 1) := by decide +kernel
theorem dX11_isSpot_9 : decode cX11_isSpot 9 = .ok (.bipush 20, 2) := by decide +kernel
theorem dX11_isSpot_11 : decode cX11_isSpot 11 = .ok (.if_icmp .eq 9, 3) := by decide +kernel
theorem dX11_isSpot_14 : decode cX11_isSpot 14 = .ok (.iload_n 1, 1) := by decide +kernel
theorem dX11_isSpot_15 : decode cX11_isSpot 15 = .ok (.bipush 21, 2) := by decide +kernel
theorem dX11_isSpot_17 : decode cX11_isSpot 17 = .ok (.if_icmp .ne 7, 3) := by decide +kernel
theorem dX11_isSpot_20 : decode cX11_isSpot 20 = .ok (.iconst 1, 1) := by decide +kernel
theorem dX11_isSpot_21 : decode cX11_isSpot 21 = .ok (.goto 4, 3) := by decide +kernel
theorem dX11_isSpot_24 : decode cX11_isSpot 24 = .ok (.iconst 0, 1) := by decide +kernel
theorem dX11_isSpot_25 : decode cX11_isSpot 25 = .ok (.ireturn, 1) := by decide +kernel
theorem dX11_keg_0 : decode cX11_keg 0 = .ok (.aload_n 0, 1) := by decide +kernel
theorem dX11_keg_1 : decode cX11_keg 1 = .ok (.getfield 7, 3) := by decide +kernel
theorem dX11_keg_4 : decode cX11_keg 4 = .ok (.iload_n 1, 1) := by decide +kernel
theorem dX11_keg_5 : decode cX11_keg 5 = .ok (.bipush 27, 2) := by decide +kernel
theorem dX11_keg_7 : decode cX11_keg 7 = .ok (.iadd, 1) := by decide +kernel
theorem dX11_keg_8 : decode cX11_keg 8 = .ok (.iaload, 1) := by decide +kernel
theorem dX11_keg_9 : decode cX11_keg 9 = .ok (.iconst 2, 1) := by decide +kernel
theorem dX11_keg_10 : decode cX11_keg 10 = .ok (.iadd, 1) := by decide +kernel
theorem dX11_keg_11 : decode cX11_keg 11 = .ok (.ireturn, 1) := by decide +kernel
theorem dX11_isOver_0 : decode cX11_isOver 0 = .ok (.aload_n 0, 1) := by decide +kernel
theorem dX11_isOver_1 : decode cX11_isOver 1 = .ok (.iload_n 1, 1) := by decide +kernel
theorem dX11_isOver_2 : decode cX11_isOver 2 = .ok (.invokevirtual 146, 3) := by decide +kernel
theorem dX11_isOver_5 : decode cX11_isOver 5 = .ok (.bipush 20, 2) := by decide +kernel
theorem dX11_isOver_7 : decode cX11_isOver 7 = .ok (.if_icmp .lt 7, 3) := by decide +kernel
theorem dX11_isOver_10 : decode cX11_isOver 10 = .ok (.iconst 1, 1) := by decide +kernel
theorem dX11_isOver_11 : decode cX11_isOver 11 = .ok (.goto 4, 3) := by decide +kernel
theorem dX11_isOver_14 : decode cX11_isOver 14 = .ok (.iconst 0, 1) := by decide +kernel
theorem dX11_isOver_15 : decode cX11_isOver 15 = .ok (.ireturn, 1) := by decide +kernel
theorem dX11_ofSide_0 : decode cX11_ofSide 0 = .ok (.aload_n 0, 1) := by decide +kernel
theorem dX11_ofSide_1 : decode cX11_ofSide 1 = .ok (.getfield 7, 3) := by decide +kernel
theorem dX11_ofSide_4 : decode cX11_ofSide 4 = .ok (.iload_n 1, 1) := by decide +kernel
theorem dX11_ofSide_5 : decode cX11_ofSide 5 = .ok (.bipush 28, 2) := by decide +kernel
theorem dX11_ofSide_7 : decode cX11_ofSide 7 = .ok (.iadd, 1) := by decide +kernel
theorem dX11_ofSide_8 : decode cX11_ofSide 8 = .ok (.bipush 8, 2) := by decide +kernel
theorem dX11_ofSide_10 : decode cX11_ofSide 10 = .ok (.iload_n 2, 1) := by decide +kernel
theorem dX11_ofSide_11 : decode cX11_ofSide 11 = .ok (.imul, 1) := by decide +kernel
theorem dX11_ofSide_12 : decode cX11_ofSide 12 = .ok (.iadd, 1) := by decide +kernel
theorem dX11_ofSide_13 : decode cX11_ofSide 13 = .ok (.iload_n 3, 1) := by decide +kernel
theorem dX11_ofSide_14 : decode cX11_ofSide 14 = .ok (.iadd, 1) := by decide +kernel
theorem dX11_ofSide_15 : decode cX11_ofSide 15 = .ok (.iaload, 1) := by decide +kernel
theorem dX11_ofSide_16 : decode cX11_ofSide 16 = .ok (.ireturn, 1) := by decide +kernel
theorem dX11_rule_0 : decode cX11_rule 0 = .ok (.iload_n 1, 1) := by decide +kernel
theorem dX11_rule_1 : decode cX11_rule 1 = .ok (.ifCond .ne 10, 3) := by decide +kernel
theorem dX11_rule_4 : decode cX11_rule 4 = .ok (.aload_n 0, 1) := by decide +kernel
theorem dX11_rule_5 : decode cX11_rule 5 = .ok (.getfield 13, 3) := by decide +kernel
theorem dX11_rule_8 : decode cX11_rule 8 = .ok (.goto 64, 3) := by decide +kernel
theorem dX11_rule_11 : decode cX11_rule 11 = .ok (.iload_n 1, 1) := by decide +kernel
theorem dX11_rule_12 : decode cX11_rule 12 = .ok (.iconst 1, 1) := by decide +kernel
theorem dX11_rule_13 : decode cX11_rule 13 = .ok (.if_icmp .ne 11, 3) := by decide +kernel
theorem dX11_rule_16 : decode cX11_rule 16 = .ok (.aload_n 0, 1) := by decide +kernel
theorem dX11_rule_17 : decode cX11_rule 17 = .ok (.iconst 0, 1) := by decide +kernel
theorem dX11_rule_18 : decode cX11_rule 18 = .ok (.invokevirtual 146, 3) := by decide +kernel
theorem dX11_rule_21 : decode cX11_rule 21 = .ok (.goto 51, 3) := by decide +kernel
theorem dX11_rule_24 : decode cX11_rule 24 = .ok (.iload_n 1, 1) := by decide +kernel
theorem dX11_rule_25 : decode cX11_rule 25 = .ok (.iconst 2, 1) := by decide +kernel
theorem dX11_rule_26 : decode cX11_rule 26 = .ok (.if_icmp .ne 15, 3) := by decide +kernel
theorem dX11_rule_29 : decode cX11_rule 29 = .ok (.aload_n 0, 1) := by decide +kernel
theorem dX11_rule_30 : decode cX11_rule 30 = .ok (.getfield 7, 3) := by decide +kernel
theorem dX11_rule_33 : decode cX11_rule 33 = .ok (.bipush 44, 2) := by decide +kernel
theorem dX11_rule_35 : decode cX11_rule 35 = .ok (.iaload, 1) := by decide +kernel
theorem dX11_rule_36 : decode cX11_rule 36 = .ok (.iconst 2, 1) := by decide +kernel
theorem dX11_rule_37 : decode cX11_rule 37 = .ok (.iadd, 1) := by decide +kernel
theorem dX11_rule_38 : decode cX11_rule 38 = .ok (.goto 34, 3) := by decide +kernel
theorem dX11_rule_41 : decode cX11_rule 41 = .ok (.iload_n 1, 1) := by decide +kernel
theorem dX11_rule_42 : decode cX11_rule 42 = .ok (.iconst 3, 1) := by decide +kernel
theorem dX11_rule_43 : decode cX11_rule 43 = .ok (.if_icmp .ne 13, 3) := by decide +kernel
theorem dX11_rule_46 : decode cX11_rule 46 = .ok (.aload_n 0, 1) := by decide +kernel
theorem dX11_rule_47 : decode cX11_rule 47 = .ok (.getfield 7, 3) := by decide +kernel
theorem dX11_rule_50 : decode cX11_rule 50 = .ok (.bipush 45, 2) := by decide +kernel
theorem dX11_rule_52 : decode cX11_rule 52 = .ok (.iaload, 1) := by decide +kernel
theorem dX11_rule_53 : decode cX11_rule 53 = .ok (.goto 19, 3) := by decide +kernel
theorem dX11_rule_56 : decode cX11_rule 56 = .ok (.iload_n 1, 1) := by decide +kernel
theorem dX11_rule_57 : decode cX11_rule 57 = .ok (.iconst 4, 1) := by decide +kernel
theorem dX11_rule_58 : decode cX11_rule 58 = .ok (.if_icmp .ne 13, 3) := by decide +kernel
theorem dX11_rule_61 : decode cX11_rule 61 = .ok (.aload_n 0, 1) := by decide +kernel
theorem dX11_rule_62 : decode cX11_rule 62 = .ok (.getfield 7, 3) := by decide +kernel
theorem dX11_rule_65 : decode cX11_rule 65 = .ok (.bipush 46, 2) := by decide +kernel
theorem dX11_rule_67 : decode cX11_rule 67 = .ok (.iaload, 1) := by decide +kernel
theorem dX11_rule_68 : decode cX11_rule 68 = .ok (.goto 4, 3) := by decide +kernel
theorem dX11_rule_71 : decode cX11_rule 71 = .ok (.iconst (-1), 1) := by decide +kernel
theorem dX11_rule_72 : decode cX11_rule 72 = .ok (.ireturn, 1) := by decide +kernel
theorem dX11_cell_0 : decode cX11_cell 0 = .ok (.aload_n 0, 1) := by decide +kernel
theorem dX11_cell_1 : decode cX11_cell 1 = .ok (.iload_n 1, 1) := by decide +kernel
theorem dX11_cell_2 : decode cX11_cell 2 = .ok (.invokevirtual 142, 3) := by decide +kernel
theorem dX11_cell_5 : decode cX11_cell 5 = .ok (.ifCond .eq 15, 3) := by decide +kernel
theorem dX11_cell_8 : decode cX11_cell 8 = .ok (.iload_n 2, 1) := by decide +kernel
theorem dX11_cell_9 : decode cX11_cell 9 = .ok (.i2l, 1) := by decide +kernel
theorem dX11_cell_10 : decode cX11_cell 10 = .ok (.lconst 0, 1) := by decide +kernel
theorem dX11_cell_11 : decode cX11_cell 11 = .ok (.ldc2_w 149, 3) := by decide +kernel
theorem dX11_cell_14 : decode cX11_cell 14 = .ok (.invokestatic 57, 3) := by decide +kernel
theorem dX11_cell_17 : decode cX11_cell 17 = .ok (.ifCond .ne 5, 3) := by decide +kernel
theorem dX11_cell_20 : decode cX11_cell 20 = .ok (.iconst (-1), 1) := by decide +kernel
theorem dX11_cell_21 : decode cX11_cell 21 = .ok (.ireturn, 1) := by decide +kernel
theorem dX11_cell_22 : decode cX11_cell 22 = .ok (.iload_n 2, 1) := by decide +kernel
theorem dX11_cell_23 : decode cX11_cell 23 = .ok (.ifCond .ne 17, 3) := by decide +kernel
theorem dX11_cell_26 : decode cX11_cell 26 = .ok (.bipush 12, 2) := by decide +kernel
theorem dX11_cell_28 : decode cX11_cell 28 = .ok (.aload_n 0, 1) := by decide +kernel
theorem dX11_cell_29 : decode cX11_cell 29 = .ok (.getfield 7, 3) := by decide +kernel
theorem dX11_cell_32 : decode cX11_cell 32 = .ok (.iconst 3, 1) := by decide +kernel
theorem dX11_cell_33 : decode cX11_cell 33 = .ok (.iload_n 1, 1) := by decide +kernel
theorem dX11_cell_34 : decode cX11_cell 34 = .ok (.imul, 1) := by decide +kernel
theorem dX11_cell_35 : decode cX11_cell 35 = .ok (.iaload, 1) := by decide +kernel
theorem dX11_cell_36 : decode cX11_cell 36 = .ok (.isub, 1) := by decide +kernel
theorem dX11_cell_37 : decode cX11_cell 37 = .ok (.goto 33, 3) := by decide +kernel
theorem dX11_cell_40 : decode cX11_cell 40 = .ok (.iload_n 2, 1) := by decide +kernel
theorem dX11_cell_41 : decode cX11_cell 41 = .ok (.iconst 1, 1) := by decide +kernel
theorem dX11_cell_42 : decode cX11_cell 42 = .ok (.if_icmp .ne 18, 3) := by decide +kernel
theorem dX11_cell_45 : decode cX11_cell 45 = .ok (.aload_n 0, 1) := by decide +kernel
theorem dX11_cell_46 : decode cX11_cell 46 = .ok (.getfield 7, 3) := by decide +kernel
theorem dX11_cell_49 : decode cX11_cell 49 = .ok (.iconst 3, 1) := by decide +kernel
theorem dX11_cell_50 : decode cX11_cell 50 = .ok (.iload_n 1, 1) := by decide +kernel
theorem dX11_cell_51 : decode cX11_cell 51 = .ok (.imul, 1) := by decide +kernel
theorem dX11_cell_52 : decode cX11_cell 52 = .ok (.iconst 1, 1) := by decide +kernel
theorem dX11_cell_53 : decode cX11_cell 53 = .ok (.iadd, 1) := by decide +kernel
theorem dX11_cell_54 : decode cX11_cell 54 = .ok (.iaload, 1) := by decide +kernel
theorem dX11_cell_55 : decode cX11_cell 55 = .ok (.iconst 3, 1) := by decide +kernel
theorem dX11_cell_56 : decode cX11_cell 56 = .ok (.iadd, 1) := by decide +kernel
theorem dX11_cell_57 : decode cX11_cell 57 = .ok (.goto 13, 3) := by decide +kernel
theorem dX11_cell_60 : decode cX11_cell 60 = .ok (.aload_n 0, 1) := by decide +kernel
theorem dX11_cell_61 : decode cX11_cell 61 = .ok (.getfield 7, 3) := by decide +kernel
theorem dX11_cell_64 : decode cX11_cell 64 = .ok (.iconst 3, 1) := by decide +kernel
theorem dX11_cell_65 : decode cX11_cell 65 = .ok (.iload_n 1, 1) := by decide +kernel
theorem dX11_cell_66 : decode cX11_cell 66 = .ok (.imul, 1) := by decide +kernel
theorem dX11_cell_67 : decode cX11_cell 67 = .ok (.iconst 2, 1) := by decide +kernel
theorem dX11_cell_68 : decode cX11_cell 68 = .ok (.iadd, 1) := by decide +kernel
theorem dX11_cell_69 : decode cX11_cell 69 = .ok (.iaload, 1) := by decide +kernel
theorem dX11_cell_70 : decode cX11_cell 70 = .ok (.ireturn, 1) := by decide +kernel
theorem dX11_side_0 : decode cX11_side 0 = .ok (.iload_n 1, 1) := by decide +kernel
theorem dX11_side_1 : decode cX11_side 1 = .ok (.invokestatic 151, 3) := by decide +kernel
theorem dX11_side_4 : decode cX11_side 4 = .ok (.ifCond .eq 25, 3) := by decide +kernel
theorem dX11_side_7 : decode cX11_side 7 = .ok (.iload_n 2, 1) := by decide +kernel
theorem dX11_side_8 : decode cX11_side 8 = .ok (.i2l, 1) := by decide +kernel
theorem dX11_side_9 : decode cX11_side 9 = .ok (.lconst 0, 1) := by decide +kernel
theorem dX11_side_10 : decode cX11_side 10 = .ok (.ldc2_w 154, 3) := by decide +kernel
theorem dX11_side_13 : decode cX11_side 13 = .ok (.invokestatic 57, 3) := by decide +kernel
theorem dX11_side_16 : decode cX11_side 16 = .ok (.ifCond .eq 13, 3) := by decide +kernel
theorem dX11_side_19 : decode cX11_side 19 = .ok (.aload_n 0, 1) := by decide +kernel
theorem dX11_side_20 : decode cX11_side 20 = .ok (.iconst 0, 1) := by decide +kernel
theorem dX11_side_21 : decode cX11_side 21 = .ok (.iload_n 1, 1) := by decide +kernel
theorem dX11_side_22 : decode cX11_side 22 = .ok (.iload_n 2, 1) := by decide +kernel
theorem dX11_side_23 : decode cX11_side 23 = .ok (.invokevirtual 156, 3) := by decide +kernel
theorem dX11_side_26 : decode cX11_side 26 = .ok (.goto 4, 3) := by decide +kernel
theorem dX11_side_29 : decode cX11_side 29 = .ok (.iconst (-1), 1) := by decide +kernel
theorem dX11_side_30 : decode cX11_side 30 = .ok (.ireturn, 1) := by decide +kernel
theorem dX11_sets_0 : decode cX11_sets 0 = .ok (.aload_n 0, 1) := by decide +kernel
theorem dX11_sets_1 : decode cX11_sets 1 = .ok (.getfield 7, 3) := by decide +kernel
theorem dX11_sets_4 : decode cX11_sets 4 = .ok (.iload_n 1, 1) := by decide +kernel
theorem dX11_sets_5 : decode cX11_sets 5 = .ok (.iaload, 1) := by decide +kernel
theorem dX11_sets_6 : decode cX11_sets 6 = .ok (.istore_n 3, 1) := by decide +kernel
theorem dX11_sets_7 : decode cX11_sets 7 = .ok (.aload_n 0, 1) := by decide +kernel
theorem dX11_sets_8 : decode cX11_sets 8 = .ok (.getfield 7, 3) := by decide +kernel
theorem dX11_sets_11 : decode cX11_sets 11 = .ok (.iload_n 1, 1) := by decide +kernel
theorem dX11_sets_12 : decode cX11_sets 12 = .ok (.iload_n 2, 1) := by decide +kernel
theorem dX11_sets_13 : decode cX11_sets 13 = .ok (.iastore, 1) := by decide +kernel
theorem dX11_sets_14 : decode cX11_sets 14 = .ok (.iload_n 3, 1) := by decide +kernel
theorem dX11_sets_15 : decode cX11_sets 15 = .ok (.ireturn, 1) := by decide +kernel
theorem dX11_room_0 : decode cX11_room 0 = .ok (.aload_n 0, 1) := by decide +kernel
theorem dX11_room_1 : decode cX11_room 1 = .ok (.iload_n 1, 1) := by decide +kernel
theorem dX11_room_2 : decode cX11_room 2 = .ok (.invokevirtual 142, 3) := by decide +kernel
theorem dX11_room_5 : decode cX11_room 5 = .ok (.ifCond .eq 32, 3) := by decide +kernel
theorem dX11_room_8 : decode cX11_room 8 = .ok (.iload_n 2, 1) := by decide +kernel
theorem dX11_room_9 : decode cX11_room 9 = .ok (.i2l, 1) := by decide +kernel
theorem dX11_room_10 : decode cX11_room 10 = .ok (.lconst 1, 1) := by decide +kernel
theorem dX11_room_11 : decode cX11_room 11 = .ok (.ldc2_w 159, 3) := by decide +kernel
theorem dX11_room_14 : decode cX11_room 14 = .ok (.invokestatic 57, 3) := by decide +kernel
theorem dX11_room_17 : decode cX11_room 17 = .ok (.ifCond .eq 20, 3) := by decide +kernel
theorem dX11_room_20 : decode cX11_room 20 = .ok (.bipush 12, 2) := by decide +kernel
theorem dX11_room_22 : decode cX11_room 22 = .ok (.aload_n 0, 1) := by decide +kernel
theorem dX11_room_23 : decode cX11_room 23 = .ok (.iconst 3, 1) := by decide +kernel
theorem dX11_room_24 : decode cX11_room 24 = .ok (.iload_n 1, 1) := by decide +kernel
theorem dX11_room_25 : decode cX11_room 25 = .ok (.imul, 1) := by decide +kernel
theorem dX11_room_26 : decode cX11_room 26 = .ok (.bipush 12, 2) := by decide +kernel
theorem dX11_room_28 : decode cX11_room 28 = .ok (.iload_n 2, 1) := by decide +kernel
theorem dX11_room_29 : decode cX11_room 29 = .ok (.isub, 1) := by decide +kernel
theorem dX11_room_30 : decode cX11_room 30 = .ok (.invokevirtual 161, 3) := by decide +kernel
theorem dX11_room_33 : decode cX11_room 33 = .ok (.isub, 1) := by decide +kernel
theorem dX11_room_34 : decode cX11_room 34 = .ok (.goto 4, 3) := by decide +kernel
theorem dX11_room_37 : decode cX11_room 37 = .ok (.iconst (-1), 1) := by decide +kernel
theorem dX11_room_38 : decode cX11_room 38 = .ok (.ireturn, 1) := by decide +kernel
theorem dX11_slope_0 : decode cX11_slope 0 = .ok (.aload_n 0, 1) := by decide +kernel
theorem dX11_slope_1 : decode cX11_slope 1 = .ok (.iload_n 1, 1) := by decide +kernel
theorem dX11_slope_2 : decode cX11_slope 2 = .ok (.invokevirtual 142, 3) := by decide +kernel
theorem dX11_slope_5 : decode cX11_slope 5 = .ok (.ifCond .eq 32, 3) := by decide +kernel
theorem dX11_slope_8 : decode cX11_slope 8 = .ok (.iload_n 2, 1) := by decide +kernel
theorem dX11_slope_9 : decode cX11_slope 9 = .ok (.i2l, 1) := by decide +kernel
theorem dX11_slope_10 : decode cX11_slope 10 = .ok (.lconst 0, 1) := by decide +kernel
theorem dX11_slope_11 : decode cX11_slope 11 = .ok (.ldc2_w 164, 3) := by decide +kernel
theorem dX11_slope_14 : decode cX11_slope 14 = .ok (.invokestatic 57, 3) := by decide +kernel
theorem dX11_slope_17 : decode cX11_slope 17 = .ok (.ifCond .eq 20, 3) := by decide +kernel
theorem dX11_slope_20 : decode cX11_slope 20 = .ok (.iconst 3, 1) := by decide +kernel
theorem dX11_slope_21 : decode cX11_slope 21 = .ok (.aload_n 0, 1) := by decide +kernel
theorem dX11_slope_22 : decode cX11_slope 22 = .ok (.iconst 3, 1) := by decide +kernel
theorem dX11_slope_23 : decode cX11_slope 23 = .ok (.iload_n 1, 1) := by decide +kernel
theorem dX11_slope_24 : decode cX11_slope 24 = .ok (.imul, 1) := by decide +kernel
theorem dX11_slope_25 : decode cX11_slope 25 = .ok (.iconst 1, 1) := by decide +kernel
theorem dX11_slope_26 : decode cX11_slope 26 = .ok (.iadd, 1) := by decide +kernel
theorem dX11_slope_27 : decode cX11_slope 27 = .ok (.iload_n 2, 1) := by decide +kernel
theorem dX11_slope_28 : decode cX11_slope 28 = .ok (.iconst 3, 1) := by decide +kernel
theorem dX11_slope_29 : decode cX11_slope 29 = .ok (.isub, 1) := by decide +kernel
theorem dX11_slope_30 : decode cX11_slope 30 = .ok (.invokevirtual 161, 3) := by decide +kernel
theorem dX11_slope_33 : decode cX11_slope 33 = .ok (.iadd, 1) := by decide +kernel
theorem dX11_slope_34 : decode cX11_slope 34 = .ok (.goto 4, 3) := by decide +kernel
theorem dX11_slope_37 : decode cX11_slope 37 = .ok (.iconst (-1), 1) := by decide +kernel
theorem dX11_slope_38 : decode cX11_slope 38 = .ok (.ireturn, 1) := by decide +kernel
theorem dX11_hedge_0 : decode cX11_hedge 0 = .ok (.aload_n 0, 1) := by decide +kernel
theorem dX11_hedge_1 : decode cX11_hedge 1 = .ok (.iload_n 1, 1) := by decide +kernel
theorem dX11_hedge_2 : decode cX11_hedge 2 = .ok (.invokevirtual 142, 3) := by decide +kernel
theorem dX11_hedge_5 : decode cX11_hedge 5 = .ok (.ifCond .eq 28, 3) := by decide +kernel
theorem dX11_hedge_8 : decode cX11_hedge 8 = .ok (.iload_n 2, 1) := by decide +kernel
theorem dX11_hedge_9 : decode cX11_hedge 9 = .ok (.i2l, 1) := by decide +kernel
theorem dX11_hedge_10 : decode cX11_hedge 10 = .ok (.lconst 0, 1) := by decide +kernel
theorem dX11_hedge_11 : decode cX11_hedge 11 = .ok (.ldc2_w 166, 3) := by decide +kernel
theorem dX11_hedge_14 : decode cX11_hedge 14 = .ok (.invokestatic 57, 3) := by decide +kernel
theorem dX11_hedge_17 : decode cX11_hedge 17 = .ok (.ifCond .eq 16, 3) := by decide +kernel
theorem dX11_hedge_20 : decode cX11_hedge 20 = .ok (.aload_n 0, 1) := by decide +kernel
theorem dX11_hedge_21 : decode cX11_hedge 21 = .ok (.iconst 3, 1) := by decide +kernel
theorem dX11_hedge_22 : decode cX11_hedge 22 = .ok (.iload_n 1, 1) := by decide +kernel
theorem dX11_hedge_23 : decode cX11_hedge 23 = .ok (.imul, 1) := by decide +kernel
theorem dX11_hedge_24 : decode cX11_hedge 24 = .ok (.iconst 2, 1) := by decide +kernel
theorem dX11_hedge_25 : decode cX11_hedge 25 = .ok (.iadd, 1) := by decide +kernel
theorem dX11_hedge_26 : decode cX11_hedge 26 = .ok (.iload_n 2, 1) := by decide +kernel
theorem dX11_hedge_27 : decode cX11_hedge 27 = .ok (.invokevirtual 161, 3) := by decide +kernel
theorem dX11_hedge_30 : decode cX11_hedge 30 = .ok (.goto 4, 3) := by decide +kernel
theorem dX11_hedge_33 : decode cX11_hedge 33 = .ok (.iconst (-1), 1) := by decide +kernel
theorem dX11_hedge_34 : decode cX11_hedge 34 = .ok (.ireturn, 1) := by decide +kernel
theorem dX11_fool_0 : decode cX11_fool 0 = .ok (.iload_n 1, 1) := by decide +kernel
theorem dX11_fool_1 : decode cX11_fool 1 = .ok (.invokestatic 151, 3) := by decide +kernel
theorem dX11_fool_4 : decode cX11_fool 4 = .ok (.ifCond .eq 32, 3) := by decide +kernel
theorem dX11_fool_7 : decode cX11_fool 7 = .ok (.iload_n 2, 1) := by decide +kernel
theorem dX11_fool_8 : decode cX11_fool 8 = .ok (.i2l, 1) := by decide +kernel
theorem dX11_fool_9 : decode cX11_fool 9 = .ok (.lconst 0, 1) := by decide +kernel
theorem dX11_fool_10 : decode cX11_fool 10 = .ok (.ldc2_w 168, 3) := by decide +kernel
theorem dX11_fool_13 : decode cX11_fool 13 = .ok (.invokestatic 57, 3) := by decide +kernel
theorem dX11_fool_16 : decode cX11_fool 16 = .ok (.ifCond .eq 20, 3) := by decide +kernel
theorem dX11_fool_19 : decode cX11_fool 19 = .ok (.aload_n 0, 1) := by decide +kernel
theorem dX11_fool_20 : decode cX11_fool 20 = .ok (.bipush 28, 2) := by decide +kernel
theorem dX11_fool_22 : decode cX11_fool 22 = .ok (.bipush 8, 2) := by decide +kernel
theorem dX11_fool_24 : decode cX11_fool 24 = .ok (.iload_n 1, 1) := by decide +kernel
theorem dX11_fool_25 : decode cX11_fool 25 = .ok (.imul, 1) := by decide +kernel
theorem dX11_fool_26 : decode cX11_fool 26 = .ok (.iadd, 1) := by decide +kernel
theorem dX11_fool_27 : decode cX11_fool 27 = .ok (.iconst 5, 1) := by decide +kernel
theorem dX11_fool_28 : decode cX11_fool 28 = .ok (.iadd, 1) := by decide +kernel
theorem dX11_fool_29 : decode cX11_fool 29 = .ok (.iload_n 2, 1) := by decide +kernel
theorem dX11_fool_30 : decode cX11_fool 30 = .ok (.invokevirtual 161, 3) := by decide +kernel
theorem dX11_fool_33 : decode cX11_fool 33 = .ok (.goto 4, 3) := by decide +kernel
theorem dX11_fool_36 : decode cX11_fool 36 = .ok (.iconst (-1), 1) := by decide +kernel
theorem dX11_fool_37 : decode cX11_fool 37 = .ok (.ireturn, 1) := by decide +kernel
theorem dX11_resting_0 : decode cX11_resting 0 = .ok (.aload_n 0, 1) := by decide +kernel
theorem dX11_resting_1 : decode cX11_resting 1 = .ok (.iconst 0, 1) := by decide +kernel
theorem dX11_resting_2 : decode cX11_resting 2 = .ok (.iload_n 1, 1) := by decide +kernel
theorem dX11_resting_3 : decode cX11_resting 3 = .ok (.iconst 1, 1) := by decide +kernel
theorem dX11_resting_4 : decode cX11_resting 4 = .ok (.invokevirtual 156, 3) := by decide +kernel
theorem dX11_resting_7 : decode cX11_resting 7 = .ok (.aload_n 0, 1) := by decide +kernel
theorem dX11_resting_8 : decode cX11_resting 8 = .ok (.iconst 0, 1) := by decide +kernel
theorem dX11_resting_9 : decode cX11_resting 9 = .ok (.iload_n 1, 1) := by decide +kernel
theorem dX11_resting_10 : decode cX11_resting 10 = .ok (.iconst 2, 1) := by decide +kernel
theorem dX11_resting_11 : decode cX11_resting 11 = .ok (.invokevirtual 156, 3) := by decide +kernel
theorem dX11_resting_14 : decode cX11_resting 14 = .ok (.iadd, 1) := by decide +kernel
theorem dX11_resting_15 : decode cX11_resting 15 = .ok (.aload_n 0, 1) := by decide +kernel
theorem dX11_resting_16 : decode cX11_resting 16 = .ok (.iconst 0, 1) := by decide +kernel
theorem dX11_resting_17 : decode cX11_resting 17 = .ok (.iload_n 1, 1) := by decide +kernel
theorem dX11_resting_18 : decode cX11_resting 18 = .ok (.iconst 3, 1) := by decide +kernel
theorem dX11_resting_19 : decode cX11_resting 19 = .ok (.invokevirtual 156, 3) := by decide +kernel
theorem dX11_resting_22 : decode cX11_resting 22 = .ok (.iadd, 1) := by decide +kernel
theorem dX11_resting_23 : decode cX11_resting 23 = .ok (.aload_n 0, 1) := by decide +kernel
theorem dX11_resting_24 : decode cX11_resting 24 = .ok (.iconst 0, 1) := by decide +kernel
theorem dX11_resting_25 : decode cX11_resting 25 = .ok (.iload_n 1, 1) := by decide +kernel
theorem dX11_resting_26 : decode cX11_resting 26 = .ok (.iconst 4, 1) := by decide +kernel
theorem dX11_resting_27 : decode cX11_resting 27 = .ok (.invokevirtual 156, 3) := by decide +kernel
theorem dX11_resting_30 : decode cX11_resting 30 = .ok (.iadd, 1) := by decide +kernel
theorem dX11_resting_31 : decode cX11_resting 31 = .ok (.ireturn, 1) := by decide +kernel
theorem dX11_men_0 : decode cX11_men 0 = .ok (.iload_n 1, 1) := by decide +kernel
theorem dX11_men_1 : decode cX11_men 1 = .ok (.invokestatic 151, 3) := by decide +kernel
theorem dX11_men_4 : decode cX11_men 4 = .ok (.ifCond .eq 47, 3) := by decide +kernel
theorem dX11_men_7 : decode cX11_men 7 = .ok (.iload_n 2, 1) := by decide +kernel
theorem dX11_men_8 : decode cX11_men 8 = .ok (.i2l, 1) := by decide +kernel
theorem dX11_men_9 : decode cX11_men 9 = .ok (.lconst 0, 1) := by decide +kernel
theorem dX11_men_10 : decode cX11_men 10 = .ok (.bipush 12, 2) := by decide +kernel
theorem dX11_men_12 : decode cX11_men 12 = .ok (.aload_n 0, 1) := by decide +kernel
theorem dX11_men_13 : decode cX11_men 13 = .ok (.iload_n 1, 1) := by decide +kernel
theorem dX11_men_14 : decode cX11_men 14 = .ok (.invokestatic 151, 3) := by decide +kernel
theorem dX11_men_17 : decode cX11_men 17 = .ok (.ifCond .eq 7, 3) := by decide +kernel
theorem dX11_men_20 : decode cX11_men 20 = .ok (.iload_n 1, 1) := by decide +kernel
theorem dX11_men_21 : decode cX11_men 21 = .ok (.goto 4, 3) := by decide +kernel
theorem dX11_men_24 : decode cX11_men 24 = .ok (.iconst 0, 1) := by decide +kernel
theorem dX11_men_25 : decode cX11_men 25 = .ok (.invokevirtual 170, 3) := by decide +kernel
theorem dX11_men_28 : decode cX11_men 28 = .ok (.isub, 1) := by decide +kernel
theorem dX11_men_29 : decode cX11_men 29 = .ok (.i2l, 1) := by decide +kernel
theorem dX11_men_30 : decode cX11_men 30 = .ok (.invokestatic 57, 3) := by decide +kernel
theorem dX11_men_33 : decode cX11_men 33 = .ok (.ifCond .eq 18, 3) := by decide +kernel
theorem dX11_men_36 : decode cX11_men 36 = .ok (.aload_n 0, 1) := by decide +kernel
theorem dX11_men_37 : decode cX11_men 37 = .ok (.bipush 28, 2) := by decide +kernel
theorem dX11_men_39 : decode cX11_men 39 = .ok (.bipush 8, 2) := by decide +kernel
theorem dX11_men_41 : decode cX11_men 41 = .ok (.iload_n 1, 1) := by decide +kernel
theorem dX11_men_42 : decode cX11_men 42 = .ok (.imul, 1) := by decide +kernel
theorem dX11_men_43 : decode cX11_men 43 = .ok (.iadd, 1) := by decide +kernel
theorem dX11_men_44 : decode cX11_men 44 = .ok (.iload_n 2, 1) := by decide +kernel
theorem dX11_men_45 : decode cX11_men 45 = .ok (.invokevirtual 161, 3) := by decide +kernel
theorem dX11_men_48 : decode cX11_men 48 = .ok (.goto 4, 3) := by decide +kernel
theorem dX11_men_51 : decode cX11_men 51 = .ok (.iconst (-1), 1) := by decide +kernel
theorem dX11_men_52 : decode cX11_men 52 = .ok (.ireturn, 1) := by decide +kernel
theorem dX11_captain_0 : decode cX11_captain 0 = .ok (.iload_n 1, 1) := by decide +kernel
theorem dX11_captain_1 : decode cX11_captain 1 = .ok (.invokestatic 151, 3) := by decide +kernel
theorem dX11_captain_4 : decode cX11_captain 4 = .ok (.ifCond .eq 27, 3) := by decide +kernel
theorem dX11_captain_7 : decode cX11_captain 7 = .ok (.iload_n 2, 1) := by decide +kernel
theorem dX11_captain_8 : decode cX11_captain 8 = .ok (.i2l, 1) := by decide +kernel
theorem dX11_captain_9 : decode cX11_captain 9 = .ok (.lconst 0, 1) := by decide +kernel
theorem dX11_captain_10 : decode cX11_captain 10 = .ok (.ldc2_w 173, 3) := by decide +kernel
theorem dX11_captain_13 : decode cX11_captain 13 = .ok (.invokestatic 57, 3) := by decide +kernel
theorem dX11_captain_16 : decode cX11_captain 16 = .ok (.ifCond .eq 15, 3) := by decide +kernel
theorem dX11_captain_19 : decode cX11_captain 19 = .ok (.iload_n 3, 1) := by decide +kernel
theorem dX11_captain_20 : decode cX11_captain 20 = .ok (.i2l, 1) := by decide +kernel
theorem dX11_captain_21 : decode cX11_captain 21 = .ok (.lconst 0, 1) := by decide +kernel
theorem dX11_captain_22 : decode cX11_captain 22 = .ok (.ldc2_w 159, 3) := by decide +kernel
theorem dX11_captain_25 : decode cX11_captain 25 = .ok (.invokestatic 57, 3) := by decide +kernel
theorem dX11_captain_28 : decode cX11_captain 28 = .ok (.ifCond .ne 5, 3) := by decide +kernel
theorem dX11_captain_31 : decode cX11_captain 31 = .ok (.iconst (-1), 1) := by decide +kernel
theorem dX11_captain_32 : decode cX11_captain 32 = .ok (.ireturn, 1) := by decide +kernel
theorem dX11_captain_33 : decode cX11_captain 33 = .ok (.aload_n 0, 1) := by decide +kernel
theorem dX11_captain_34 : decode cX11_captain 34 = .ok (.bipush 28, 2) := by decide +kernel
theorem dX11_captain_36 : decode cX11_captain 36 = .ok (.bipush 8, 2) := by decide +kernel
theorem dX11_captain_38 : decode cX11_captain 38 = .ok (.iload_n 1, 1) := by decide +kernel
theorem dX11_captain_39 : decode cX11_captain 39 = .ok (.imul, 1) := by decide +kernel
theorem dX11_captain_40 : decode cX11_captain 40 = .ok (.iadd, 1) := by decide +kernel
theorem dX11_captain_41 : decode cX11_captain 41 = .ok (.bipush 7, 2) := by decide +kernel
theorem dX11_captain_43 : decode cX11_captain 43 = .ok (.iadd, 1) := by decide +kernel
theorem dX11_captain_44 : decode cX11_captain 44 = .ok (.iload_n 3, 1) := by decide +kernel
theorem dX11_captain_45 : decode cX11_captain 45 = .ok (.invokevirtual 161, 3) := by decide +kernel
theorem dX11_captain_48 : decode cX11_captain 48 = .ok (.pop, 1) := by decide +kernel
theorem dX11_captain_49 : decode cX11_captain 49 = .ok (.aload_n 0, 1) := by decide +kernel
theorem dX11_captain_50 : decode cX11_captain 50 = .ok (.bipush 28, 2) := by decide +kernel
theorem dX11_captain_52 : decode cX11_captain 52 = .ok (.bipush 8, 2) := by decide +kernel
theorem dX11_captain_54 : decode cX11_captain 54 = .ok (.iload_n 1, 1) := by decide +kernel
theorem dX11_captain_55 : decode cX11_captain 55 = .ok (.imul, 1) := by decide +kernel
theorem dX11_captain_56 : decode cX11_captain 56 = .ok (.iadd, 1) := by decide +kernel
theorem dX11_captain_57 : decode cX11_captain 57 = .ok (.bipush 6, 2) := by decide +kernel
theorem dX11_captain_59 : decode cX11_captain 59 = .ok (.iadd, 1) := by decide +kernel
theorem dX11_captain_60 : decode cX11_captain 60 = .ok (.iload_n 2, 1) := by decide +kernel
theorem dX11_captain_61 : decode cX11_captain 61 = .ok (.invokevirtual 161, 3) := by decide +kernel
theorem dX11_captain_64 : decode cX11_captain 64 = .ok (.ireturn, 1) := by decide +kernel
theorem dX11_rest_0 : decode cX11_rest 0 = .ok (.iload_n 1, 1) := by decide +kernel
theorem dX11_rest_1 : decode cX11_rest 1 = .ok (.i2l, 1) := by decide +kernel
theorem dX11_rest_2 : decode cX11_rest 2 = .ok (.lconst 1, 1) := by decide +kernel
theorem dX11_rest_3 : decode cX11_rest 3 = .ok (.ldc2_w 173, 3) := by decide +kernel
theorem dX11_rest_6 : decode cX11_rest 6 = .ok (.invokestatic 57, 3) := by decide +kernel
theorem dX11_rest_9 : decode cX11_rest 9 = .ok (.ifCond .eq 17, 3) := by decide +kernel
theorem dX11_rest_12 : decode cX11_rest 12 = .ok (.iconst 2, 1) := by decide +kernel
theorem dX11_rest_13 : decode cX11_rest 13 = .ok (.aload_n 0, 1) := by decide +kernel
theorem dX11_rest_14 : decode cX11_rest 14 = .ok (.bipush 44, 2) := by decide +kernel
theorem dX11_rest_16 : decode cX11_rest 16 = .ok (.iload_n 1, 1) := by decide +kernel
theorem dX11_rest_17 : decode cX11_rest 17 = .ok (.iconst 2, 1) := by decide +kernel
theorem dX11_rest_18 : decode cX11_rest 18 = .ok (.isub, 1) := by decide +kernel
theorem dX11_rest_19 : decode cX11_rest 19 = .ok (.invokevirtual 161, 3) := by decide +kernel
theorem dX11_rest_22 : decode cX11_rest 22 = .ok (.iadd, 1) := by decide +kernel
theorem dX11_rest_23 : decode cX11_rest 23 = .ok (.goto 4, 3) := by decide +kernel
theorem dX11_rest_26 : decode cX11_rest 26 = .ok (.iconst (-1), 1) := by decide +kernel
theorem dX11_rest_27 : decode cX11_rest 27 = .ok (.ireturn, 1) := by decide +kernel
theorem dX11_breaks_0 : decode cX11_breaks 0 = .ok (.iload_n 1, 1) := by decide +kernel
theorem dX11_breaks_1 : decode cX11_breaks 1 = .ok (.i2l, 1) := by decide +kernel
theorem dX11_breaks_2 : decode cX11_breaks 2 = .ok (.lconst 0, 1) := by decide +kernel
theorem dX11_breaks_3 : decode cX11_breaks 3 = .ok (.ldc2_w 154, 3) := by decide +kernel
theorem dX11_breaks_6 : decode cX11_breaks 6 = .ok (.invokestatic 57, 3) := by decide +kernel
theorem dX11_breaks_9 : decode cX11_breaks 9 = .ok (.ifCond .eq 13, 3) := by decide +kernel
theorem dX11_breaks_12 : decode cX11_breaks 12 = .ok (.aload_n 0, 1) := by decide +kernel
theorem dX11_breaks_13 : decode cX11_breaks 13 = .ok (.bipush 45, 2) := by decide +kernel
theorem dX11_breaks_15 : decode cX11_breaks 15 = .ok (.iload_n 1, 1) := by decide +kernel
theorem dX11_breaks_16 : decode cX11_breaks 16 = .ok (.invokevirtual 161, 3) := by decide +kernel
theorem dX11_breaks_19 : decode cX11_breaks 19 = .ok (.goto 4, 3) := by decide +kernel
theorem dX11_breaks_22 : decode cX11_breaks 22 = .ok (.iconst (-1), 1) := by decide +kernel
theorem dX11_breaks_23 : decode cX11_breaks 23 = .ok (.ireturn, 1) := by decide +kernel
theorem dX11_put_0 : decode cX11_put 0 = .ok (.aload_n 0, 1) := by decide +kernel
theorem dX11_put_1 : decode cX11_put 1 = .ok (.iload_n 1, 1) := by decide +kernel
theorem dX11_put_2 : decode cX11_put 2 = .ok (.invokevirtual 142, 3) := by decide +kernel
theorem dX11_put_5 : decode cX11_put 5 = .ok (.ifCond .eq 17, 3) := by decide +kernel
theorem dX11_put_8 : decode cX11_put 8 = .ok (.iconst 2, 1) := by decide +kernel
theorem dX11_put_9 : decode cX11_put 9 = .ok (.aload_n 0, 1) := by decide +kernel
theorem dX11_put_10 : decode cX11_put 10 = .ok (.bipush 27, 2) := by decide +kernel
theorem dX11_put_12 : decode cX11_put 12 = .ok (.iload_n 1, 1) := by decide +kernel
theorem dX11_put_13 : decode cX11_put 13 = .ok (.iconst 2, 1) := by decide +kernel
theorem dX11_put_14 : decode cX11_put 14 = .ok (.isub, 1) := by decide +kernel
theorem dX11_put_15 : decode cX11_put 15 = .ok (.invokevirtual 161, 3) := by decide +kernel
theorem dX11_put_18 : decode cX11_put 18 = .ok (.iadd, 1) := by decide +kernel
theorem dX11_put_19 : decode cX11_put 19 = .ok (.goto 4, 3) := by decide +kernel
theorem dX11_put_22 : decode cX11_put 22 = .ok (.iconst (-1), 1) := by decide +kernel
theorem dX11_put_23 : decode cX11_put 23 = .ok (.ireturn, 1) := by decide +kernel
theorem dX11_sentBy_0 : decode cX11_sentBy 0 = .ok (.aload_n 0, 1) := by decide +kernel
theorem dX11_sentBy_1 : decode cX11_sentBy 1 = .ok (.iload_n 1, 1) := by decide +kernel
theorem dX11_sentBy_2 : decode cX11_sentBy 2 = .ok (.iload_n 2, 1) := by decide +kernel
theorem dX11_sentBy_3 : decode cX11_sentBy 3 = .ok (.iconst 0, 1) := by decide +kernel
theorem dX11_sentBy_4 : decode cX11_sentBy 4 = .ok (.invokevirtual 156, 3) := by decide +kernel
theorem dX11_sentBy_7 : decode cX11_sentBy 7 = .ok (.istore_n 3, 1) := by decide +kernel
theorem dX11_sentBy_8 : decode cX11_sentBy 8 = .ok (.aload_n 0, 1) := by decide +kernel
theorem dX11_sentBy_9 : decode cX11_sentBy 9 = .ok (.iload_n 1, 1) := by decide +kernel
theorem dX11_sentBy_10 : decode cX11_sentBy 10 = .ok (.iload_n 2, 1) := by decide +kernel
theorem dX11_sentBy_11 : decode cX11_sentBy 11 = .ok (.bipush 7, 2) := by decide +kernel
theorem dX11_sentBy_13 : decode cX11_sentBy 13 = .ok (.invokevirtual 156, 3) := by decide +kernel
theorem dX11_sentBy_16 : decode cX11_sentBy 16 = .ok (.istore 4, 2) := by decide +kernel
theorem dX11_sentBy_18 : decode cX11_sentBy 18 = .ok (.aload_n 0, 1) := by decide +kernel
theorem dX11_sentBy_19 : decode cX11_sentBy 19 = .ok (.iload_n 1, 1) := by decide +kernel
theorem dX11_sentBy_20 : decode cX11_sentBy 20 = .ok (.iload_n 2, 1) := by decide +kernel
theorem dX11_sentBy_21 : decode cX11_sentBy 21 = .ok (.bipush 6, 2) := by decide +kernel
theorem dX11_sentBy_23 : decode cX11_sentBy 23 = .ok (.invokevirtual 156, 3) := by decide +kernel
theorem dX11_sentBy_26 : decode cX11_sentBy 26 = .ok (.istore 5, 2) := by decide +kernel
theorem dX11_sentBy_28 : decode cX11_sentBy 28 = .ok (.iload 5, 2) := by decide +kernel
theorem dX11_sentBy_30 : decode cX11_sentBy 30 = .ok (.iconst 1, 1) := by decide +kernel
theorem dX11_sentBy_31 : decode cX11_sentBy 31 = .ok (.if_icmp .ne 7, 3) := by decide +kernel
theorem dX11_sentBy_34 : decode cX11_sentBy 34 = .ok (.iload_n 3, 1) := by decide +kernel
theorem dX11_sentBy_35 : decode cX11_sentBy 35 = .ok (.iconst 2, 1) := by decide +kernel
theorem dX11_sentBy_36 : decode cX11_sentBy 36 = .ok (.idiv, 1) := by decide +kernel
theorem dX11_sentBy_37 : decode cX11_sentBy 37 = .ok (.ireturn, 1) := by decide +kernel
theorem dX11_sentBy_38 : decode cX11_sentBy 38 = .ok (.iload 5, 2) := by decide +kernel
theorem dX11_sentBy_40 : decode cX11_sentBy 40 = .ok (.iconst 2, 1) := by decide +kernel
theorem dX11_sentBy_41 : decode cX11_sentBy 41 = .ok (.if_icmp .ne 16, 3) := by decide +kernel
theorem dX11_sentBy_44 : decode cX11_sentBy 44 = .ok (.iload 4, 2) := by decide +kernel
theorem dX11_sentBy_46 : decode cX11_sentBy 46 = .ok (.iload_n 3, 1) := by decide +kernel
theorem dX11_sentBy_47 : decode cX11_sentBy 47 = .ok (.if_icmp .ge 8, 3) := by decide +kernel
theorem dX11_sentBy_50 : decode cX11_sentBy 50 = .ok (.iload 4, 2) := by decide +kernel
