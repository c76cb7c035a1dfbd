theorem dX14_init_0 : decode cX14_init 0 = .ok (.aload_n 0, 1) := by decide +kernel
theorem dX14_init_1 : decode cX14_init 1 = .ok (.invokespecial 1, 3) := by decide +kernel
theorem dX14_init_4 : decode cX14_init 4 = .ok (.aload_n 0, 1) := by decide +kernel
theorem dX14_init_5 : decode cX14_init 5 = .ok (.sipush 800, 3) := by decide +kernel
theorem dX14_init_8 : decode cX14_init 8 = .ok (.newarray .int, 2) := by decide +kernel
theorem dX14_init_10 : decode cX14_init 10 = .ok (.putfield 7, 3) := by decide +kernel
theorem dX14_init_13 : decode cX14_init 13 = .ok (.aload_n 0, 1) := by decide +kernel
theorem dX14_init_14 : decode cX14_init 14 = .ok (.bipush 108, 2) := by decide +kernel
theorem dX14_init_16 : decode cX14_init 16 = .ok (.newarray .int, 2) := by decide +kernel
theorem dX14_init_18 : decode cX14_init 18 = .ok (.dup, 1) := by decide +kernel
theorem dX14_init_19 : decode cX14_init 19 = .ok (.iconst 0, 1) := by decide +kernel
theorem dX14_init_20 : decode cX14_init 20 = .ok (.bipush 112, 2) := by decide +kernel
theorem dX14_init_22 : decode cX14_init 22 = .ok (.iastore, 1) := by decide +kernel
theorem dX14_init_23 : decode cX14_init 23 = .ok (.dup, 1) := by decide +kernel
theorem dX14_init_24 : decode cX14_init 24 = .ok (.iconst 1, 1) := by decide +kernel
theorem dX14_init_25 : decode cX14_init 25 = .ok (.bipush 111, 2) := by decide +kernel
theorem dX14_init_27 : decode cX14_init 27 = .ok (.iastore, 1) := by decide +kernel
theorem dX14_init_28 : decode cX14_init 28 = .ok (.dup, 1) := by decide +kernel
theorem dX14_init_29 : decode cX14_init 29 = .ok (.iconst 2, 1) := by decide +kernel
theorem dX14_init_30 : decode cX14_init 30 = .ok (.bipush 110, 2) := by decide +kernel
theorem dX14_init_32 : decode cX14_init 32 = .ok (.iastore, 1) := by decide +kernel
theorem dX14_init_33 : decode cX14_init 33 = .ok (.dup, 1) := by decide +kernel
theorem dX14_init_34 : decode cX14_init 34 = .ok (.iconst 3, 1) := by decide +kernel
theorem dX14_init_35 : decode cX14_init 35 = .ok (.bipush 100, 2) := by decide +kernel
theorem dX14_init_37 : decode cX14_init 37 = .ok (.iastore, 1) := by decide +kernel
theorem dX14_init_38 : decode cX14_init 38 = .ok (.dup, 1) := by decide +kernel
theorem dX14_init_39 : decode cX14_init 39 = .ok (.iconst 4, 1) := by decide +kernel
theorem dX14_init_40 : decode cX14_init 40 = .ok (.bipush 32, 2) := by decide +kernel
theorem dX14_init_42 : decode cX14_init 42 = .ok (.iastore, 1) := by decide +kernel
theorem dX14_init_43 : decode cX14_init 43 = .ok (.dup, 1) := by decide +kernel
theorem dX14_init_44 : decode cX14_init 44 = .ok (.iconst 5, 1) := by decide +kernel
theorem dX14_init_45 : decode cX14_init 45 = .ok (.bipush 108, 2) := by decide +kernel
theorem dX14_init_47 : decode cX14_init 47 = .ok (.iastore, 1) := by decide +kernel
theorem dX14_init_48 : decode cX14_init 48 = .ok (.dup, 1) := by decide +kernel
theorem dX14_init_49 : decode cX14_init 49 = .ok (.bipush 6, 2) := by decide +kernel
theorem dX14_init_51 : decode cX14_init 51 = .ok (.bipush 97, 2) := by decide +kernel
theorem dX14_init_53 : decode cX14_init 53 = .ok (.iastore, 1) := by decide +kernel
theorem dX14_init_54 : decode cX14_init 54 = .ok (.dup, 1) := by decide +kernel
theorem dX14_init_55 : decode cX14_init 55 = .ok (.bipush 7, 2) := by decide +kernel
theorem dX14_init_57 : decode cX14_init 57 = .ok (.bipush 110, 2) := by decide +kernel
theorem dX14_init_59 : decode cX14_init 59 = .ok (.iastore, 1) := by decide +kernel
theorem dX14_init_60 : decode cX14_init 60 = .ok (.dup, 1) := by decide +kernel
theorem dX14_init_61 : decode cX14_init 61 = .ok (.bipush 8, 2) := by decide +kernel
theorem dX14_init_63 : decode cX14_init 63 = .ok (.bipush 100, 2) := by decide +kernel
theorem dX14_init_65 : decode cX14_init 65 = .ok (.iastore, 1) := by decide +kernel
theorem dX14_init_66 : decode cX14_init 66 = .ok (.dup, 1) := by decide +kernel
theorem dX14_init_67 : decode cX14_init 67 = .ok (.bipush 9, 2) := by decide +kernel
theorem dX14_init_69 : decode cX14_init 69 = .ok (.bipush 32, 2) := by decide +kernel
theorem dX14_init_71 : decode cX14_init 71 = .ok (.iastore, 1) := by decide +kernel
theorem dX14_init_72 : decode cX14_init 72 = .ok (.dup, 1) := by decide +kernel
theorem dX14_init_73 : decode cX14_init 73 = .ok (.bipush 10, 2) := by decide +kernel
theorem dX14_init_75 : decode cX14_init 75 = .ok (.bipush 114, 2) := by decide +kernel
theorem dX14_init_77 : decode cX14_init 77 = .ok (.iastore, 1) := by decide +kernel
theorem dX14_init_78 : decode cX14_init 78 = .ok (.dup, 1) := by decide +kernel
theorem dX14_init_79 : decode cX14_init 79 = .ok (.bipush 11, 2) := by decide +kernel
theorem dX14_init_81 : decode cX14_init 81 = .ok (.bipush 101, 2) := by decide +kernel
theorem dX14_init_83 : decode cX14_init 83 = .ok (.iastore, 1) := by decide +kernel
theorem dX14_init_84 : decode cX14_init 84 = .ok (.dup, 1) := by decide +kernel
theorem dX14_init_85 : decode cX14_init 85 = .ok (.bipush 12, 2) := by decide +kernel
theorem dX14_init_87 : decode cX14_init 87 = .ok (.bipush 101, 2) := by decide +kernel
theorem dX14_init_89 : decode cX14_init 89 = .ok (.iastore, 1) := by decide +kernel
theorem dX14_init_90 : decode cX14_init 90 = .ok (.dup, 1) := by decide +kernel
theorem dX14_init_91 : decode cX14_init 91 = .ok (.bipush 13, 2) := by decide +kernel
theorem dX14_init_93 : decode cX14_init 93 = .ok (.bipush 100, 2) := by decide +kernel
theorem dX14_init_95 : decode cX14_init 95 = .ok (.iastore, 1) := by decide +kernel
theorem dX14_init_96 : decode cX14_init 96 = .ok (.dup, 1) := by decide +kernel
theorem dX14_init_97 : decode cX14_init 97 = .ok (.bipush 14, 2) := by decide +kernel
theorem dX14_init_99 : decode cX14_init 99 = .ok (.bipush 32, 2) := by decide +kernel
theorem dX14_init_101 : decode cX14_init 101 = .ok (.iastore, 1) := by decide +kernel
theorem dX14_init_102 : decode cX14_init 102 = .ok (.dup, 1) := by decide +kernel
theorem dX14_init_103 : decode cX14_init 103 = .ok (.bipush 15, 2) := by decide +kernel
theorem dX14_init_105 : decode cX14_init 105 = .ok (.bipush 115, 2) := by decide +kernel
theorem dX14_init_107 : decode cX14_init 107 = .ok (.iastore, 1) := by decide +kernel
theorem dX14_init_108 : decode cX14_init 108 = .ok (.dup, 1) := by decide +kernel
theorem dX14_init_109 : decode cX14_init 109 = .ok (.bipush 16, 2) := by decide +kernel
theorem dX14_init_111 : decode cX14_init 111 = .ok (.bipush 104, 2) := by decide +kernel
theorem dX14_init_113 : decode cX14_init 113 = .ok (.iastore, 1) := by decide +kernel
theorem dX14_init_114 : decode cX14_init 114 = .ok (.dup, 1) := by decide +kernel
theorem dX14_init_115 : decode cX14_init 115 = .ok (.bipush 17, 2) := by decide +kernel
theorem dX14_init_117 : decode cX14_init 117 = .ok (.bipush 111, 2) := by decide +kernel
theorem dX14_init_119 : decode cX14_init 119 = .ok (.iastore, 1) := by decide +kernel
theorem dX14_init_120 : decode cX14_init 120 = .ok (.dup, 1) := by decide +kernel
theorem dX14_init_121 : decode cX14_init 121 = .ok (.bipush 18, 2) := by decide +kernel
theorem dX14_init_123 : decode cX14_init 123 = .ok (.bipush 114, 2) := by decide +kernel
theorem dX14_init_125 : decode cX14_init 125 = .ok (.iastore, 1) := by decide +kernel
theorem dX14_init_126 : decode cX14_init 126 = .ok (.dup, 1) := by decide +kernel
theorem dX14_init_127 : decode cX14_init 127 = .ok (.bipush 19, 2) := by decide +kernel
theorem dX14_init_129 : decode cX14_init 129 = .ok (.bipush 101, 2) := by decide +kernel
theorem dX14_init_131 : decode cX14_init 131 = .ok (.iastore, 1) := by decide +kernel
theorem dX14_init_132 : decode cX14_init 132 = .ok (.dup, 1) := by decide +kernel
theorem dX14_init_133 : decode cX14_init 133 = .ok (.bipush 20, 2) := by decide +kernel
theorem dX14_init_135 : decode cX14_init 135 = .ok (.bipush 32, 2) := by decide +kernel
theorem dX14_init_137 : decode cX14_init 137 = .ok (.iastore, 1) := by decide +kernel
theorem dX14_init_138 : decode cX14_init 138 = .ok (.dup, 1) := by decide +kernel
theorem dX14_init_139 : decode cX14_init 139 = .ok (.bipush 21, 2) := by decide +kernel
theorem dX14_init_141 : decode cX14_init 141 = .ok (.bipush 107, 2) := by decide +kernel
theorem dX14_init_143 : decode cX14_init 143 = .ok (.iastore, 1) := by decide +kernel
theorem dX14_init_144 : decode cX14_init 144 = .ok (.dup, 1) := by decide +kernel
theorem dX14_init_145 : decode cX14_init 145 = .ok (.bipush 22, 2) := by decide +kernel
theorem dX14_init_147 : decode cX14_init 147 = .ok (.bipush 105, 2) := by decide +kernel
theorem dX14_init_149 : decode cX14_init 149 = .ok (.iastore, 1) := by decide +kernel
theorem dX14_init_150 : decode cX14_init 150 = .ok (.dup, 1) := by decide +kernel
theorem dX14_init_151 : decode cX14_init 151 = .ok (.bipush 23, 2) := by decide +kernel
theorem dX14_init_153 : decode cX14_init 153 = .ok (.bipush 110, 2) := by decide +kernel
theorem dX14_init_155 : decode cX14_init 155 = .ok (.iastore, 1) := by decide +kernel
theorem dX14_init_156 : decode cX14_init 156 = .ok (.dup, 1) := by decide +kernel
theorem dX14_init_157 : decode cX14_init 157 = .ok (.bipush 24, 2) := by decide +kernel
theorem dX14_init_159 : decode cX14_init 159 = .ok (.bipush 100, 2) := by decide +kernel
theorem dX14_init_161 : decode cX14_init 161 = .ok (.iastore, 1) := by decide +kernel
theorem dX14_init_162 : decode cX14_init 162 = .ok (.dup, 1) := by decide +kernel
theorem dX14_init_163 : decode cX14_init 163 = .ok (.bipush 25, 2) := by decide +kernel
theorem dX14_init_165 : decode cX14_init 165 = .ok (.bipush 32, 2) := by decide +kernel
theorem dX14_init_167 : decode cX14_init 167 = .ok (.iastore, 1) := by decide +kernel
theorem dX14_init_168 : decode cX14_init 168 = .ok (.dup, 1) := by decide +kernel
theorem dX14_init_169 : decode cX14_init 169 = .ok (.bipush 26, 2) := by decide +kernel
theorem dX14_init_171 : decode cX14_init 171 = .ok (.bipush 99, 2) := by decide +kernel
theorem dX14_init_173 : decode cX14_init 173 = .ok (.iastore, 1) := by decide +kernel
theorem dX14_init_174 : decode cX14_init 174 = .ok (.dup, 1) := by decide +kernel
theorem dX14_init_175 : decode cX14_init 175 = .ok (.bipush 27, 2) := by decide +kernel
theorem dX14_init_177 : decode cX14_init 177 = .ok (.bipush 111, 2) := by decide +kernel
theorem dX14_init_179 : decode cX14_init 179 = .ok (.iastore, 1) := by decide +kernel
theorem dX14_init_180 : decode cX14_init 180 = .ok (.dup, 1) := by decide +kernel
theorem dX14_init_181 : decode cX14_init 181 = .ok (.bipush 28, 2) := by decide +kernel
theorem dX14_init_183 : decode cX14_init 183 = .ok (.bipush 114, 2) := by decide +kernel
theorem dX14_init_185 : decode cX14_init 185 = .ok (.iastore, 1) := by decide +kernel
theorem dX14_init_186 : decode cX14_init 186 = .ok (.dup, 1) := by decide +kernel
theorem dX14_init_187 : decode cX14_init 187 = .ok (.bipush 29, 2) := by decide +kernel
theorem dX14_init_189 : decode cX14_init 189 = .ok (.bipush 107, 2) := by decide +kernel
theorem dX14_init_191 : decode cX14_init 191 = .ok (.iastore, 1) := by decide +kernel
theorem dX14_init_192 : decode cX14_init 192 = .ok (.dup, 1) := by decide +kernel
theorem dX14_init_193 : decode cX14_init 193 = .ok (.bipush 30, 2) := by decide +kernel
theorem dX14_init_195 : decode cX14_init 195 = .ok (.bipush 32, 2) := by decide +kernel
theorem dX14_init_197 : decode cX14_init 197 = .ok (.iastore, 1) := by decide +kernel
theorem dX14_init_198 : decode cX14_init 198 = .ok (.dup, 1) := by decide +kernel
theorem dX14_init_199 : decode cX14_init 199 = .ok (.bipush 31, 2) := by decide +kernel
theorem dX14_init_201 : decode cX14_init 201 = .ok (.bipush 115, 2) := by decide +kernel
theorem dX14_init_203 : decode cX14_init 203 = .ok (.iastore, 1) := by decide +kernel
theorem dX14_init_204 : decode cX14_init 204 = .ok (.dup, 1) := by decide +kernel
theorem dX14_init_205 : decode cX14_init 205 = .ok (.bipush 32, 2) := by decide +kernel
theorem dX14_init_207 : decode cX14_init 207 = .ok (.bipush 107, 2) := by decide +kernel
theorem dX14_init_209 : decode cX14_init 209 = .ok (.iastore, 1) := by decide +kernel
theorem dX14_init_210 : decode cX14_init 210 = .ok (.dup, 1) := by decide +kernel
theorem dX14_init_211 : decode cX14_init 211 = .ok (.bipush 33, 2) := by decide +kernel
theorem dX14_init_213 : decode cX14_init 213 = .ok (.bipush 97, 2) := by decide +kernel
theorem dX14_init_215 : decode cX14_init 215 = .ok (.iastore, 1) := by decide +kernel
theorem dX14_init_216 : decode cX14_init 216 = .ok (.dup, 1) := by decide +kernel
theorem dX14_init_217 : decode cX14_init 217 = .ok (.bipush 34, 2) := by decide +kernel
theorem dX14_init_219 : decode cX14_init 219 = .ok (.bipush 116, 2) := by decide +kernel
theorem dX14_init_221 : decode cX14_init 221 = .ok (.iastore, 1) := by decide +kernel
theorem dX14_init_222 : decode cX14_init 222 = .ok (.dup, 1) := by decide +kernel
theorem dX14_init_223 : decode cX14_init 223 = .ok (.bipush 35, 2) := by decide +kernel
theorem dX14_init_225 : decode cX14_init 225 = .ok (.bipush 101, 2) := by decide +kernel
theorem dX14_init_227 : decode cX14_init 227 = .ok (.iastore, 1) := by decide +kernel
theorem dX14_init_228 : decode cX14_init 228 = .ok (.dup, 1) := by decide +kernel
theorem dX14_init_229 : decode cX14_init 229 = .ok (.bipush 36, 2) := by decide +kernel
theorem dX14_init_231 : decode cX14_init 231 = .ok (.bipush 114, 2) := by decide +kernel
theorem dX14_init_233 : decode cX14_init 233 = .ok (.iastore, 1) := by decide +kernel
theorem dX14_init_234 : decode cX14_init 234 = .ok (.dup, 1) := by decide +kernel
theorem dX14_init_235 : decode cX14_init 235 = .ok (.bipush 37, 2) := by decide +kernel
theorem dX14_init_237 : decode cX14_init 237 = .ok (.bipush 32, 2) := by decide +kernel
theorem dX14_init_239 : decode cX14_init 239 = .ok (.iastore, 1) := by decide +kernel
theorem dX14_init_240 : decode cX14_init 240 = .ok (.dup, 1) := by decide +kernel
theorem dX14_init_241 : decode cX14_init 241 = .ok (.bipush 38, 2) := by decide +kernel
theorem dX14_init_243 : decode cX14_init 243 = .ok (.bipush 100, 2) := by decide +kernel
theorem dX14_init_245 : decode cX14_init 245 = .ok (.iastore, 1) := by decide +kernel
theorem dX14_init_246 : decode cX14_init 246 = .ok (.dup, 1) := by decide +kernel
theorem dX14_init_247 : decode cX14_init 247 = .ok (.bipush 39, 2) := by decide +kernel
theorem dX14_init_249 : decode cX14_init 249 = .ok (.bipush 114, 2) := by decide +kernel
theorem dX14_init_251 : decode cX14_init 251 = .ok (.iastore, 1) := by decide +kernel
theorem dX14_init_252 : decode cX14_init 252 = .ok (.dup, 1) := by decide +kernel
theorem dX14_init_253 : decode cX14_init 253 = .ok (.bipush 40, 2) := by decide +kernel
theorem dX14_init_255 : decode cX14_init 255 = .ok (.bipush 111, 2) := by decide +kernel
theorem dX14_init_257 : decode cX14_init 257 = .ok (.iastore, 1) := by decide +kernel
theorem dX14_init_258 : decode cX14_init 258 = .ok (.dup, 1) := by decide +kernel
theorem dX14_init_259 : decode cX14_init 259 = .ok (.bipush 41, 2) := by decide +kernel
theorem dX14_init_261 : decode cX14_init 261 = .ok (.bipush 112, 2) := by decide +kernel
theorem dX14_init_263 : decode cX14_init 263 = .ok (.iastore, 1) := by decide +kernel
theorem dX14_init_264 : decode cX14_init 264 = .ok (.dup, 1) := by decide +kernel
theorem dX14_init_265 : decode cX14_init 265 = .ok (.bipush 42, 2) := by decide +kernel
theorem dX14_init_267 : decode cX14_init 267 = .ok (.bipush 32, 2) := by decide +kernel
theorem dX14_init_269 : decode cX14_init 269 = .ok (.iastore, 1) := by decide +kernel
theorem dX14_init_270 : decode cX14_init 270 = .ok (.dup, 1) := by decide +kernel
theorem dX14_init_271 : decode cX14_init 271 = .ok (.bipush 43, 2) := by decide +kernel
theorem dX14_init_273 : decode cX14_init 273 = .ok (.bipush 108, 2) := by decide +kernel
theorem dX14_init_275 : decode cX14_init 275 = .ok (.iastore, 1) := by decide +kernel
theorem dX14_init_276 : decode cX14_init 276 = .ok (.dup, 1) := by decide +kernel
theorem dX14_init_277 : decode cX14_init 277 = .ok (.bipush 44, 2) := by decide +kernel
theorem dX14_init_279 : decode cX14_init 279 = .ok (.bipush 111, 2) := by decide +kernel
theorem dX14_init_281 : decode cX14_init 281 = .ok (.iastore, 1) := by decide +kernel
theorem dX14_init_282 : decode cX14_init 282 = .ok (.dup, 1) := by decide +kernel
theorem dX14_init_283 : decode cX14_init 283 = .ok (.bipush 45, 2) := by decide +kernel
theorem dX14_init_285 : decode cX14_init 285 = .ok (.bipush 115, 2) := by decide +kernel
theorem dX14_init_287 : decode cX14_init 287 = .ok (.iastore, 1) := by decide +kernel
theorem dX14_init_288 : decode cX14_init 288 = .ok (.dup, 1) := by decide +kernel
theorem dX14_init_289 : decode cX14_init 289 = .ok (.bipush 46, 2) := by decide +kernel
theorem dX14_init_291 : decode cX14_init 291 = .ok (.bipush 115, 2) := by decide +kernel
theorem dX14_init_293 : decode cX14_init 293 = .ok (.iastore, 1) := by decide +kernel
theorem dX14_init_294 : decode cX14_init 294 = .ok (.dup, 1) := by decide +kernel
theorem dX14_init_295 : decode cX14_init 295 = .ok (.bipush 47, 2) := by decide +kernel
theorem dX14_init_297 : decode cX14_init 297 = .ok (.bipush 32, 2) := by decide +kernel
theorem dX14_init_299 : decode cX14_init 299 = .ok (.iastore, 1) := by decide +kernel
theorem dX14_init_300 : decode cX14_init 300 = .ok (.dup, 1) := by decide +kernel
theorem dX14_init_301 : decode cX14_init 301 = .ok (.bipush 48, 2) := by decide +kernel
theorem dX14_init_303 : decode cX14_init 303 = .ok (.bipush 116, 2) := by decide +kernel
theorem dX14_init_305 : decode cX14_init 305 = .ok (.iastore, 1) := by decide +kernel
theorem dX14_init_306 : decode cX14_init 306 = .ok (.dup, 1) := by decide +kernel
theorem dX14_init_307 : decode cX14_init 307 = .ok (.bipush 49, 2) := by decide +kernel
theorem dX14_init_309 : decode cX14_init 309 = .ok (.bipush 104, 2) := by decide +kernel
theorem dX14_init_311 : decode cX14_init 311 = .ok (.iastore, 1) := by decide +kernel
theorem dX14_init_312 : decode cX14_init 312 = .ok (.dup, 1) := by decide +kernel
theorem dX14_init_313 : decode cX14_init 313 = .ok (.bipush 50, 2) := by decide +kernel
theorem dX14_init_315 : decode cX14_init 315 = .ok (.bipush 105, 2) := by decide +kernel
theorem dX14_init_317 : decode cX14_init 317 = .ok (.iastore, 1) := by decide +kernel
theorem dX14_init_318 : decode cX14_init 318 = .ok (.dup, 1) := by decide +kernel
theorem dX14_init_319 : decode cX14_init 319 = .ok (.bipush 51, 2) := by decide +kernel
theorem dX14_init_321 : decode cX14_init 321 = .ok (.bipush 99, 2) := by decide +kernel
theorem dX14_init_323 : decode cX14_init 323 = .ok (.iastore, 1) := by decide +kernel
theorem dX14_init_324 : decode cX14_init 324 = .ok (.dup, 1) := by decide +kernel
theorem dX14_init_325 : decode cX14_init 325 = .ok (.bipush 52, 2) := by decide +kernel
theorem dX14_init_327 : decode cX14_init 327 = .ok (.bipush 107, 2) := by decide +kernel
theorem dX14_init_329 : decode cX14_init 329 = .ok (.iastore, 1) := by decide +kernel
theorem dX14_init_330 : decode cX14_init 330 = .ok (.dup, 1) := by decide +kernel
theorem dX14_init_331 : decode cX14_init 331 = .ok (.bipush 53, 2) := by decide +kernel
theorem dX14_init_333 : decode cX14_init 333 = .ok (.bipush 32, 2) := by decide +kernel
theorem dX14_init_335 : decode cX14_init 335 = .ok (.iastore, 1) := by decide +kernel
theorem dX14_init_336 : decode cX14_init 336 = .ok (.dup, 1) := by decide +kernel
theorem dX14_init_337 : decode cX14_init 337 = .ok (.bipush 54, 2) := by decide +kernel
theorem dX14_init_339 : decode cX14_init 339 = .ok (.bipush 115, 2) := by decide +kernel
theorem dX14_init_341 : decode cX14_init 341 = .ok (.iastore, 1) := by decide +kernel
theorem dX14_init_342 : decode cX14_init 342 = .ok (.dup, 1) := by decide +kernel
theorem dX14_init_343 : decode cX14_init 343 = .ok (.bipush 55, 2) := by decide +kernel
theorem dX14_init_345 : decode cX14_init 345 = .ok (.bipush 101, 2) := by decide +kernel
theorem dX14_init_347 : decode cX14_init 347 = .ok (.iastore, 1) := by decide +kernel
theorem dX14_init_348 : decode cX14_init 348 = .ok (.dup, 1) := by decide +kernel
theorem dX14_init_349 : decode cX14_init 349 = .ok (.bipush 56, 2) := by decide +kernel
theorem dX14_init_351 : decode cX14_init 351 = .ok (.bipush 110, 2) := by decide +kernel
theorem dX14_init_353 : decode cX14_init 353 = .ok (.iastore, 1) := by decide +kernel
theorem dX14_init_354 : decode cX14_init 354 = .ok (.dup, 1) := by decide +kernel
theorem dX14_init_355 : decode cX14_init 355 = .ok (.bipush 57, 2) := by decide +kernel
theorem dX14_init_357 : decode cX14_init 357 = .ok (.bipush 116, 2) := by decide +kernel
theorem dX14_init_359 : decode cX14_init 359 = .ok (.iastore, 1) := by decide +kernel
theorem dX14_init_360 : decode cX14_init 360 = .ok (.dup, 1) := by decide +kernel
theorem dX14_init_361 : decode cX14_init 361 = .ok (.bipush 58, 2) := by decide +kernel
theorem dX14_init_363 : decode cX14_init 363 = .ok (.bipush 32, 2) := by decide +kernel
theorem dX14_init_365 : decode cX14_init 365 = .ok (.iastore, 1) := by decide +kernel
theorem dX14_init_366 : decode cX14_init 366 = .ok (.dup, 1) := by decide +kernel
theorem dX14_init_367 : decode cX14_init 367 = .ok (.bipush 59, 2) := by decide +kernel
theorem dX14_init_369 : decode cX14_init 369 = .ok (.bipush 108, 2) := by decide +kernel
theorem dX14_init_371 : decode cX14_init 371 = .ok (.iastore, 1) := by decide +kernel
theorem dX14_init_372 : decode cX14_init 372 = .ok (.dup, 1) := by decide +kernel
theorem dX14_init_373 : decode cX14_init 373 = .ok (.bipush 60, 2) := by decide +kernel
theorem dX14_init_375 : decode cX14_init 375 = .ok (.bipush 97, 2) := by decide +kernel
theorem dX14_init_377 : decode cX14_init 377 = .ok (.iastore, 1) := by decide +kernel
theorem dX14_init_378 : decode cX14_init 378 = .ok (.dup, 1) := by decide +kernel
theorem dX14_init_379 : decode cX14_init 379 = .ok (.bipush 61, 2) := by decide +kernel
theorem dX14_init_381 : decode cX14_init 381 = .ok (.bipush 119, 2) := by decide +kernel
theorem dX14_init_383 : decode cX14_init 383 = .ok (.iastore, 1) := by decide +kernel
theorem dX14_init_384 : decode cX14_init 384 = .ok (.dup, 1) := by decide +kernel
theorem dX14_init_385 : decode cX14_init 385 = .ok (.bipush 62, 2) := by decide +kernel
theorem dX14_init_387 : decode cX14_init 387 = .ok (.bipush 32, 2) := by decide +kernel
theorem dX14_init_389 : decode cX14_init 389 = .ok (.iastore, 1) := by decide +kernel
theorem dX14_init_390 : decode cX14_init 390 = .ok (.dup, 1) := by decide +kernel
theorem dX14_init_391 : decode cX14_init 391 = .ok (.bipush 63, 2) := by decide +kernel
theorem dX14_init_393 : decode cX14_init 393 = .ok (.bipush 109, 2) := by decide +kernel
theorem dX14_init_395 : decode cX14_init 395 = .ok (.iastore, 1) := by decide +kernel
theorem dX14_init_396 : decode cX14_init 396 = .ok (.dup, 1) := by decide +kernel
theorem dX14_init_397 : decode cX14_init 397 = .ok (.bipush 64, 2) := by decide +kernel
theorem dX14_init_399 : decode cX14_init 399 = .ok (.bipush 97, 2) := by decide +kernel
theorem dX14_init_401 : decode cX14_init 401 = .ok (.iastore, 1) := by decide +kernel
theorem dX14_init_402 : decode cX14_init 402 = .ok (.dup, 1) := by decide +kernel
theorem dX14_init_403 : decode cX14_init 403 = .ok (.bipush 65, 2) := by decide +kernel
theorem dX14_init_405 : decode cX14_init 405 = .ok (.bipush 121, 2) := by decide +kernel
theorem dX14_init_407 : decode cX14_init 407 = .ok (.iastore, 1) := by decide +kernel
theorem dX14_init_408 : decode cX14_init 408 = .ok (.dup, 1) := by decide +kernel
theorem dX14_init_409 : decode cX14_init 409 = .ok (.bipush 66, 2) := by decide +kernel
theorem dX14_init_411 : decode cX14_init 411 = .ok (.bipush 32, 2) := by decide +kernel
theorem dX14_init_413 : decode cX14_init 413 = .ok (.iastore, 1) := by decide +kernel
theorem dX14_init_414 : decode cX14_init 414 = .ok (.dup, 1) := by decide +kernel
theorem dX14_init_415 : decode cX14_init 415 = .ok (.bipush 67, 2) := by decide +kernel
theorem dX14_init_417 : decode cX14_init 417 = .ok (.bipush 111, 2) := by decide +kernel
theorem dX14_init_419 : decode cX14_init 419 = .ok (.iastore, 1) := by decide +kernel
theorem dX14_init_420 : decode cX14_init 420 = .ok (.dup, 1) := by decide +kernel
theorem dX14_init_421 : decode cX14_init 421 = .ok (.bipush 68, 2) := by decide +kernel
theorem dX14_init_423 : decode cX14_init 423 = .ok (.bipush 100, 2) := by decide +kernel
theorem dX14_init_425 : decode cX14_init 425 = .ok (.iastore, 1) := by decide +kernel
theorem dX14_init_426 : decode cX14_init 426 = .ok (.dup, 1) := by decide +kernel
theorem dX14_init_427 : decode cX14_init 427 = .ok (.bipush 69, 2) := by decide +kernel
theorem dX14_init_429 : decode cX14_init 429 = .ok (.bipush 100, 2) := by decide +kernel
theorem dX14_init_431 : decode cX14_init 431 = .ok (.iastore, 1) := by decide +kernel
theorem dX14_init_432 : decode cX14_init 432 = .ok (.dup, 1) := by decide +kernel
theorem dX14_init_433 : decode cX14_init 433 = .ok (.bipush 70, 2) := by decide +kernel
theorem dX14_init_435 : decode cX14_init 435 = .ok (.bipush 115, 2) := by decide +kernel
theorem dX14_init_437 : decode cX14_init 437 = .ok (.iastore, 1) := by decide +kernel
theorem dX14_init_438 : decode cX14_init 438 = .ok (.dup, 1) := by decide +kernel
theorem dX14_init_439 : decode cX14_init 439 = .ok (.bipush 71, 2) := by decide +kernel
theorem dX14_init_441 : decode cX14_init 441 = .ok (.bipush 32, 2) := by decide +kernel
theorem dX14_init_443 : decode cX14_init 443 = .ok (.iastore, 1) := by decide +kernel
theorem dX14_init_444 : decode cX14_init 444 = .ok (.dup, 1) := by decide +kernel
theorem dX14_init_445 : decode cX14_init 445 = .ok (.bipush 72, 2) := by decide +kernel
theorem dX14_init_447 : decode cX14_init 447 = .ok (.bipush 97, 2) := by decide +kernel
theorem dX14_init_449 : decode cX14_init 449 = .ok (.iastore, 1) := by decide +kernel
theorem dX14_init_450 : decode cX14_init 450 = .ok (.dup, 1) := by decide +kernel
theorem dX14_init_451 : decode cX14_init 451 = .ok (.bipush 73, 2) := by decide +kernel
theorem dX14_init_453 : decode cX14_init 453 = .ok (.bipush 110, 2) := by decide +kernel
theorem dX14_init_455 : decode cX14_init 455 = .ok (.iastore, 1) := by decide +kernel
theorem dX14_init_456 : decode cX14_init 456 = .ok (.dup, 1) := by decide +kernel
theorem dX14_init_457 : decode cX14_init 457 = .ok (.bipush 74, 2) := by decide +kernel
theorem dX14_init_459 : decode cX14_init 459 = .ok (.bipush 100, 2) := by decide +kernel
theorem dX14_init_461 : decode cX14_init 461 = .ok (.iastore, 1) := by decide +kernel
theorem dX14_init_462 : decode cX14_init 462 = .ok (.dup, 1) := by decide +kernel
theorem dX14_init_463 : decode cX14_init 463 = .ok (.bipush 75, 2) := by decide +kernel
theorem dX14_init_465 : decode cX14_init 465 = .ok (.bipush 32, 2) := by decide +kernel
theorem dX14_init_467 : decode cX14_init 467 = .ok (.iastore, 1) := by decide +kernel
theorem dX14_init_468 : decode cX14_init 468 = .ok (.dup, 1) := by decide +kernel
theorem dX14_init_469 : decode cX14_init 469 = .ok (.bipush 76, 2) := by decide +kernel
theorem dX14_init_471 : decode cX14_init 471 = .ok (.bipush 111, 2) := by decide +kernel
theorem dX14_init_473 : decode cX14_init 473 = .ok (.iastore, 1) := by decide +kernel
theorem dX14_init_474 : decode cX14_init 474 = .ok (.dup, 1) := by decide +kernel
theorem dX14_init_475 : decode cX14_init 475 = .ok (.bipush 77, 2) := by decide +kernel
theorem dX14_init_477 : decode cX14_init 477 = .ok (.bipush 114, 2) := by decide +kernel
theorem dX14_init_479 : decode cX14_init 479 = .ok (.iastore, 1) := by decide +kernel
theorem dX14_init_480 : decode cX14_init 480 = .ok (.dup, 1) := by decide +kernel
theorem dX14_init_481 : decode cX14_init 481 = .ok (.bipush 78, 2) := by decide +kernel
theorem dX14_init_483 : decode cX14_init 483 = .ok (.bipush 32, 2) := by decide +kernel
theorem dX14_init_485 : decode cX14_init 485 = .ok (.iastore, 1) := by decide +kernel
theorem dX14_init_486 : decode cX14_init 486 = .ok (.dup, 1) := by decide +kernel
theorem dX14_init_487 : decode cX14_init 487 = .ok (.bipush 79, 2) := by decide +kernel
theorem dX14_init_489 : decode cX14_init 489 = .ok (.bipush 110, 2) := by decide +kernel
theorem dX14_init_491 : decode cX14_init 491 = .ok (.iastore, 1) := by decide +kernel
theorem dX14_init_492 : decode cX14_init 492 = .ok (.dup, 1) := by decide +kernel
theorem dX14_init_493 : decode cX14_init 493 = .ok (.bipush 80, 2) := by decide +kernel
theorem dX14_init_495 : decode cX14_init 495 = .ok (.bipush 111, 2) := by decide +kernel
theorem dX14_init_497 : decode cX14_init 497 = .ok (.iastore, 1) := by decide +kernel
theorem dX14_init_498 : decode cX14_init 498 = .ok (.dup, 1) := by decide +kernel
theorem dX14_init_499 : decode cX14_init 499 = .ok (.bipush 81, 2) := by decide +kernel
theorem dX14_init_501 : decode cX14_init 501 = .ok (.bipush 116, 2) := by decide +kernel
theorem dX14_init_503 : decode cX14_init 503 = .ok (.iastore, 1) := by decide +kernel
theorem dX14_init_504 : decode cX14_init 504 = .ok (.dup, 1) := by decide +kernel
theorem dX14_init_505 : decode cX14_init 505 = .ok (.bipush 82, 2) := by decide +kernel
theorem dX14_init_507 : decode cX14_init 507 = .ok (.bipush 32, 2) := by decide +kernel
theorem dX14_init_509 : decode cX14_init 509 = .ok (.iastore, 1) := by decide +kernel
theorem dX14_init_510 : decode cX14_init 510 = .ok (.dup, 1) := by decide +kernel
theorem dX14_init_511 : decode cX14_init 511 = .ok (.bipush 83, 2) := by decide +kernel
theorem dX14_init_513 : decode cX14_init 513 = .ok (.bipush 114, 2) := by decide +kernel
theorem dX14_init_515 : decode cX14_init 515 = .ok (.iastore, 1) := by decide +kernel
theorem dX14_init_516 : decode cX14_init 516 = .ok (.dup, 1) := by decide +kernel
theorem dX14_init_517 : decode cX14_init 517 = .ok (.bipush 84, 2) := by decide +kernel
theorem dX14_init_519 : decode cX14_init 519 = .ok (.bipush 105, 2) := by decide +kernel
theorem dX14_init_521 : decode cX14_init 521 = .ok (.iastore, 1) := by decide +kernel
theorem dX14_init_522 : decode cX14_init 522 = .ok (.dup, 1) := by decide +kernel
theorem dX14_init_523 : decode cX14_init 523 = .ok (.bipush 85, 2) := by decide +kernel
theorem dX14_init_525 : decode cX14_init 525 = .ok (.bipush 115, 2) := by decide +kernel
theorem dX14_init_527 : decode cX14_init 527 = .ok (.iastore, 1) := by decide +kernel
theorem dX14_init_528 : decode cX14_init 528 = .ok (.dup, 1) := by decide +kernel
theorem dX14_init_529 : decode cX14_init 529 = .ok (.bipush 86, 2) := by decide +kernel
theorem dX14_init_531 : decode cX14_init 531 = .ok (.bipush 101, 2) := by decide +kernel
theorem dX14_init_533 : decode cX14_init 533 = .ok (.iastore, 1) := by decide +kernel
theorem dX14_init_534 : decode cX14_init 534 = .ok (.dup, 1) := by decide +kernel
theorem dX14_init_535 : decode cX14_init 535 = .ok (.bipush 87, 2) := by decide +kernel
theorem dX14_init_537 : decode cX14_init 537 = .ok (.bipush 32, 2) := by decide +kernel
theorem dX14_init_539 : decode cX14_init 539 = .ok (.iastore, 1) := by decide +kernel
theorem dX14_init_540 : decode cX14_init 540 = .ok (.dup, 1) := by decide +kernel
theorem dX14_init_541 : decode cX14_init 541 = .ok (.bipush 88, 2) := by decide +kernel
theorem dX14_init_543 : decode cX14_init 543 = .ok (.bipush 104, 2) := by decide +kernel
theorem dX14_init_545 : decode cX14_init 545 = .ok (.iastore, 1) := by decide +kernel
theorem dX14_init_546 : decode cX14_init 546 = .ok (.dup, 1) := by decide +kernel
theorem dX14_init_547 : decode cX14_init 547 = .ok (.bipush 89, 2) := by decide +kernel
theorem dX14_init_549 : decode cX14_init 549 = .ok (.bipush 101, 2) := by decide +kernel
theorem dX14_init_551 : decode cX14_init 551 = .ok (.iastore, 1) := by decide +kernel
theorem dX14_init_552 : decode cX14_init 552 = .ok (.dup, 1) := by decide +kernel
theorem dX14_init_553 : decode cX14_init 553 = .ok (.bipush 90, 2) := by decide +kernel
theorem dX14_init_555 : decode cX14_init 555 = .ok (.bipush 114, 2) := by decide +kernel
theorem dX14_init_557 : decode cX14_init 557 = .ok (.iastore, 1) := by decide +kernel
theorem dX14_init_558 : decode cX14_init 558 = .ok (.dup, 1) := by decide +kernel
theorem dX14_init_559 : decode cX14_init 559 = .ok (.bipush 91, 2) := by decide +kernel
theorem dX14_init_561 : decode cX14_init 561 = .ok (.bipush 101, 2) := by decide +kernel
theorem dX14_init_563 : decode cX14_init 563 = .ok (.iastore, 1) := by decide +kernel
theorem dX14_init_564 : decode cX14_init 564 = .ok (.dup, 1) := by decide +kernel
theorem dX14_init_565 : decode cX14_init 565 = .ok (.bipush 92, 2) := by decide +kernel
theorem dX14_init_567 : decode cX14_init 567 = .ok (.bipush 32, 2) := by decide +kernel
theorem dX14_init_569 : decode cX14_init 569 = .ok (.iastore, 1) := by decide +kernel
theorem dX14_init_570 : decode cX14_init 570 = .ok (.dup, 1) := by decide +kernel
theorem dX14_init_571 : decode cX14_init 571 = .ok (.bipush 93, 2) := by decide +kernel
theorem dX14_init_573 : decode cX14_init 573 = .ok (.bipush 114, 2) := by decide +kernel
theorem dX14_init_575 : decode cX14_init 575 = .ok (.iastore, 1) := by decide +kernel
theorem dX14_init_576 : decode cX14_init 576 = .ok (.dup, 1) := by decide +kernel
theorem dX14_init_577 : decode cX14_init 577 = .ok (.bipush 94, 2) := by decide +kernel
theorem dX14_init_579 : decode cX14_init 579 = .ok (.bipush 101, 2) := by decide +kernel
theorem dX14_init_581 : decode cX14_init 581 = .ok (.iastore, 1) := by decide +kernel
theorem dX14_init_582 : decode cX14_init 582 = .ok (.dup, 1) := by decide +kernel
theorem dX14_init_583 : decode cX14_init 583 = .ok (.bipush 95, 2) := by decide +kernel
theorem dX14_init_585 : decode cX14_init 585 = .ok (.bipush 101, 2) := by decide +kernel
theorem dX14_init_587 : decode cX14_init 587 = .ok (.iastore, 1) := by decide +kernel
theorem dX14_init_588 : decode cX14_init 588 = .ok (.dup, 1) := by decide +kernel
theorem dX14_init_589 : decode cX14_init 589 = .ok (.bipush 96, 2) := by decide +kernel
theorem dX14_init_591 : decode cX14_init 591 = .ok (.bipush 100, 2) := by decide +kernel
theorem dX14_init_593 : decode cX14_init 593 = .ok (.iastore, 1) := by decide +kernel
theorem dX14_init_594 : decode cX14_init 594 = .ok (.dup, 1) := by decide +kernel
theorem dX14_init_595 : decode cX14_init 595 = .ok (.bipush 97, 2) := by decide +kernel
theorem dX14_init_597 : decode cX14_init 597 = .ok (.bipush 115, 2) := by decide +kernel
theorem dX14_init_599 : decode cX14_init 599 = .ok (.iastore, 1) := by decide +kernel
theorem dX14_init_600 : decode cX14_init 600 = .ok (.dup, 1) := by decide +kernel
theorem dX14_init_601 : decode cX14_init 601 = .ok (.bipush 98, 2) := by decide +kernel
theorem dX14_init_603 : decode cX14_init 603 = .ok (.bipush 32, 2) := by decide +kernel
theorem dX14_init_605 : decode cX14_init 605 = .ok (.iastore, 1) := by decide +kernel
theorem dX14_init_606 : decode cX14_init 606 = .ok (.dup, 1) := by decide +kernel
theorem dX14_init_607 : decode cX14_init 607 = .ok (.bipush 99, 2) := by decide +kernel
theorem dX14_init_609 : decode cX14_init 609 = .ok (.bipush 119, 2) := by decide +kernel
theorem dX14_init_611 : decode cX14_init 611 = .ok (.iastore, 1) := by decide +kernel
theorem dX14_init_612 : decode cX14_init 612 = .ok (.dup, 1) := by decide +kernel
theorem dX14_init_613 : decode cX14_init 613 = .ok (.bipush 100, 2) := by decide +kernel
theorem dX14_init_615 : decode cX14_init 615 = .ok (.bipush 97, 2) := by decide +kernel
theorem dX14_init_617 : decode cX14_init 617 = .ok (.iastore, 1) := by decide +kernel
theorem dX14_init_618 : decode cX14_init 618 = .ok (.dup, 1) := by decide +kernel
theorem dX14_init_619 : decode cX14_init 619 = .ok (.bipush 101, 2) := by decide +kernel
theorem dX14_init_621 : decode cX14_init 621 = .ok (.bipush 121, 2) := by decide +kernel
theorem dX14_init_623 : decode cX14_init 623 = .ok (.iastore, 1) := by decide +kernel
theorem dX14_init_624 : decode cX14_init 624 = .ok (.dup, 1) := by decide +kernel
theorem dX14_init_625 : decode cX14_init 625 = .ok (.bipush 102, 2) := by decide +kernel
theorem dX14_init_627 : decode cX14_init 627 = .ok (.bipush 32, 2) := by decide +kernel
theorem dX14_init_629 : decode cX14_init 629 = .ok (.iastore, 1) := by decide +kernel
theorem dX14_init_630 : decode cX14_init 630 = .ok (.dup, 1) := by decide +kernel
theorem dX14_init_631 : decode cX14_init 631 = .ok (.bipush 103, 2) := by decide +kernel
theorem dX14_init_633 : decode cX14_init 633 = .ok (.bipush 115, 2) := by decide +kernel
theorem dX14_init_635 : decode cX14_init 635 = .ok (.iastore, 1) := by decide +kernel
theorem dX14_init_636 : decode cX14_init 636 = .ok (.dup, 1) := by decide +kernel
theorem dX14_init_637 : decode cX14_init 637 = .ok (.bipush 104, 2) := by decide +kernel
theorem dX14_init_639 : decode cX14_init 639 = .ok (.bipush 116, 2) := by decide +kernel
theorem dX14_init_641 : decode cX14_init 641 = .ok (.iastore, 1) := by decide +kernel
theorem dX14_init_642 : decode cX14_init 642 = .ok (.dup, 1) := by decide +kernel
theorem dX14_init_643 : decode cX14_init 643 = .ok (.bipush 105, 2) := by decide +kernel
theorem dX14_init_645 : decode cX14_init 645 = .ok (.bipush 101, 2) := by decide +kernel
theorem dX14_init_647 : decode cX14_init 647 = .ok (.iastore, 1) := by decide +kernel
theorem dX14_init_648 : decode cX14_init 648 = .ok (.dup, 1) := by decide +kernel
theorem dX14_init_649 : decode cX14_init 649 = .ok (.bipush 106, 2) := by decide +kernel
theorem dX14_init_651 : decode cX14_init 651 = .ok (.bipush 112, 2) := by decide +kernel
theorem dX14_init_653 : decode cX14_init 653 = .ok (.iastore, 1) := by decide +kernel
theorem dX14_init_654 : decode cX14_init 654 = .ok (.dup, 1) := by decide +kernel
theorem dX14_init_655 : decode cX14_init 655 = .ok (.bipush 107, 2) := by decide +kernel
theorem dX14_init_657 : decode cX14_init 657 = .ok (.bipush 32, 2) := by decide +kernel
theorem dX14_init_659 : decode cX14_init 659 = .ok (.iastore, 1) := by decide +kernel
theorem dX14_init_660 : decode cX14_init 660 = .ok (.putfield 13, 3) := by decide +kernel
theorem dX14_init_663 : decode cX14_init 663 = .ok (.aload_n 0, 1) := by decide +kernel
theorem dX14_init_664 : decode cX14_init 664 = .ok (.iconst (-1), 1) := by decide +kernel
theorem dX14_init_665 : decode cX14_init 665 = .ok (.putfield 16, 3) := by decide +kernel
theorem dX14_init_668 : decode cX14_init 668 = .ok (.aload_n 0, 1) := by decide +kernel
theorem dX14_init_669 : decode cX14_init 669 = .ok (.iconst 3, 1) := by decide +kernel
theorem dX14_init_670 : decode cX14_init 670 = .ok (.newarray .int, 2) := by decide +kernel
theorem dX14_init_672 : decode cX14_init 672 = .ok (.putfield 20, 3) := by decide +kernel
theorem dX14_init_675 : decode cX14_init 675 = .ok (.aload_n 0, 1) := by decide +kernel
theorem dX14_init_676 : decode cX14_init 676 = .ok (.iconst 3, 1) := by decide +kernel
theorem dX14_init_677 : decode cX14_init 677 = .ok (.newarray .boolean, 2) := by decide +kernel
theorem dX14_init_679 : decode cX14_init 679 = .ok (.putfield 23, 3) := by decide +kernel
theorem dX14_init_682 : decode cX14_init 682 = .ok (.aload_n 0, 1) := by decide +kernel
theorem dX14_init_683 : decode cX14_init 683 = .ok (.bipush 96, 2) := by decide +kernel
theorem dX14_init_685 : decode cX14_init 685 = .ok (.newarray .int, 2) := by decide +kernel
theorem dX14_init_687 : decode cX14_init 687 = .ok (.putfield 27, 3) := by decide +kernel
theorem dX14_init_690 : decode cX14_init 690 = .ok (.aload_n 0, 1) := by decide +kernel
theorem dX14_init_691 : decode cX14_init 691 = .ok (.bipush 96, 2) := by decide +kernel
theorem dX14_init_693 : decode cX14_init 693 = .ok (.newarray .boolean, 2) := by decide +kernel
theorem dX14_init_695 : decode cX14_init 695 = .ok (.putfield 30, 3) := by decide +kernel
theorem dX14_init_698 : decode cX14_init 698 = .ok (.aload_n 0, 1) := by decide +kernel
theorem dX14_init_699 : decode cX14_init 699 = .ok (.bipush 48, 2) := by decide +kernel
theorem dX14_init_701 : decode cX14_init 701 = .ok (.newarray .boolean, 2) := by decide +kernel
theorem dX14_init_703 : decode cX14_init 703 = .ok (.putfield 33, 3) := by decide +kernel
theorem dX14_init_706 : decode cX14_init 706 = .ok (.aload_n 0, 1) := by decide +kernel
theorem dX14_init_707 : decode cX14_init 707 = .ok (.bipush 6, 2) := by decide +kernel
theorem dX14_init_709 : decode cX14_init 709 = .ok (.newarray .int, 2) := by decide +kernel
theorem dX14_init_711 : decode cX14_init 711 = .ok (.putfield 36, 3) := by decide +kernel
theorem dX14_init_714 : decode cX14_init 714 = .ok (.aload_n 0, 1) := by decide +kernel
theorem dX14_init_715 : decode cX14_init 715 = .ok (.bipush 8, 2) := by decide +kernel
theorem dX14_init_717 : decode cX14_init 717 = .ok (.newarray .int, 2) := by decide +kernel
theorem dX14_init_719 : decode cX14_init 719 = .ok (.putfield 39, 3) := by decide +kernel
theorem dX14_init_722 : decode cX14_init 722 = .ok (.aload_n 0, 1) := by decide +kernel
theorem dX14_init_723 : decode cX14_init 723 = .ok (.bipush 8, 2) := by decide +kernel
theorem dX14_init_725 : decode cX14_init 725 = .ok (.newarray .int, 2) := by decide +kernel
theorem dX14_init_727 : decode cX14_init 727 = .ok (.putfield 42, 3) := by decide +kernel
theorem dX14_init_730 : decode cX14_init 730 = .ok (.aload_n 0, 1) := by decide +kernel
theorem dX14_init_731 : decode cX14_init 731 = .ok (.bipush 8, 2) := by decide +kernel
theorem dX14_init_733 : decode cX14_init 733 = .ok (.newarray .int, 2) := by decide +kernel
theorem dX14_init_735 : decode cX14_init 735 = .ok (.putfield 45, 3) := by decide +kernel
theorem dX14_init_738 : decode cX14_init 738 = .ok (.aload_n 0, 1) := by decide +kernel
theorem dX14_init_739 : decode cX14_init 739 = .ok (.bipush 48, 2) := by decide +kernel
theorem dX14_init_741 : decode cX14_init 741 = .ok (.newarray .int, 2) := by decide +kernel
theorem dX14_init_743 : decode cX14_init 743 = .ok (.putfield 48, 3) := by decide +kernel
theorem dX14_init_746 : decode cX14_init 746 = .ok (.aload_n 0, 1) := by decide +kernel
theorem dX14_init_747 : decode cX14_init 747 = .ok (.bipush 12, 2) := by decide +kernel
theorem dX14_init_749 : decode cX14_init 749 = .ok (.newarray .int, 2) := by decide +kernel
theorem dX14_init_751 : decode cX14_init 751 = .ok (.putfield 51, 3) := by decide +kernel
theorem dX14_init_754 : decode cX14_init 754 = .ok (.aload_n 0, 1) := by decide +kernel
theorem dX14_init_755 : decode cX14_init 755 = .ok (.bipush 12, 2) := by decide +kernel
theorem dX14_init_757 : decode cX14_init 757 = .ok (.newarray .int, 2) := by decide +kernel
theorem dX14_init_759 : decode cX14_init 759 = .ok (.putfield 54, 3) := by decide +kernel
theorem dX14_init_762 : decode cX14_init 762 = .ok (.aload_n 0, 1) := by decide +kernel
theorem dX14_init_763 : decode cX14_init 763 = .ok (.bipush 6, 2) := by decide +kernel
theorem dX14_init_765 : decode cX14_init 765 = .ok (.newarray .int, 2) := by decide +kernel
theorem dX14_init_767 : decode cX14_init 767 = .ok (.putfield 57, 3) := by decide +kernel
theorem dX14_init_770 : decode cX14_init 770 = .ok (.aload_n 0, 1) := by decide +kernel
theorem dX14_init_771 : decode cX14_init 771 = .ok (.bipush 6, 2) := by decide +kernel
theorem dX14_init_773 : decode cX14_init 773 = .ok (.newarray .int, 2) := by decide +kernel
theorem dX14_init_775 : decode cX14_init 775 = .ok (.putfield 60, 3) := by decide +kernel
theorem dX14_init_778 : decode cX14_init 778 = .ok (.aload_n 0, 1) := by decide +kernel
theorem dX14_init_779 : decode cX14_init 779 = .ok (.bipush 32, 2) := by decide +kernel
theorem dX14_init_781 : decode cX14_init 781 = .ok (.newarray .int, 2) := by decide +kernel
theorem dX14_init_783 : decode cX14_init 783 = .ok (.putfield 63, 3) := by decide +kernel
theorem dX14_init_786 : decode cX14_init 786 = .ok (.aload_n 0, 1) := by decide +kernel
theorem dX14_init_787 : decode cX14_init 787 = .ok (.bipush 32, 2) := by decide +kernel
theorem dX14_init_789 : decode cX14_init 789 = .ok (.newarray .int, 2) := by decide +kernel
theorem dX14_init_791 : decode cX14_init 791 = .ok (.putfield 66, 3) := by decide +kernel
theorem dX14_init_794 : decode cX14_init 794 = .ok (.aload_n 0, 1) := by decide +kernel
theorem dX14_init_795 : decode cX14_init 795 = .ok (.bipush 32, 2) := by decide +kernel
theorem dX14_init_797 : decode cX14_init 797 = .ok (.newarray .int, 2) := by decide +kernel
theorem dX14_init_799 : decode cX14_init 799 = .ok (.putfield 69, 3) := by decide +kernel
theorem dX14_init_802 : decode cX14_init 802 = .ok (.aload_n 0, 1) := by decide +kernel
theorem dX14_init_803 : decode cX14_init 803 = .ok (.bipush 6, 2) := by decide +kernel
theorem dX14_init_805 : decode cX14_init 805 = .ok (.newarray .int, 2) := by decide +kernel
theorem dX14_init_807 : decode cX14_init 807 = .ok (.putfield 72, 3) := by decide +kernel
theorem dX14_init_810 : decode cX14_init 810 = .ok (.aload_n 0, 1) := by decide +kernel
theorem dX14_init_811 : decode cX14_init 811 = .ok (.bipush 6, 2) := by decide +kernel
theorem dX14_init_813 : decode cX14_init 813 = .ok (.newarray .int, 2) := by decide +kernel
theorem dX14_init_815 : decode cX14_init 815 = .ok (.putfield 75, 3) := by decide +kernel
theorem dX14_init_818 : decode cX14_init 818 = .ok (.aload_n 0, 1) := by decide +kernel
theorem dX14_init_819 : decode cX14_init 819 = .ok (.bipush 18, 2) := by decide +kernel
theorem dX14_init_821 : decode cX14_init 821 = .ok (.newarray .int, 2) := by decide +kernel
theorem dX14_init_823 : decode cX14_init 823 = .ok (.putfield 78, 3) := by decide +kernel
theorem dX14_init_826 : decode cX14_init 826 = .ok (.aload_n 0, 1) := by decide +kernel
theorem dX14_init_827 : decode cX14_init 827 = .ok (.sipush 128, 3) := by decide +kernel
theorem dX14_init_830 : decode cX14_init 830 = .ok (.newarray .int, 2) := by decide +kernel
theorem dX14_init_832 : decode cX14_init 832 = .ok (.putfield 81, 3) := by decide +kernel
theorem dX14_init_835 : decode cX14_init 835 = .ok (.aload_n 0, 1) := by decide +kernel
theorem dX14_init_836 : decode cX14_init 836 = .ok (.sipush 128, 3) := by decide +kernel
theorem dX14_init_839 : decode cX14_init 839 = .ok (.newarray .int, 2) := by decide +kernel
theorem dX14_init_841 : decode cX14_init 841 = .ok (.putfield 84, 3) := by decide +kernel
theorem dX14_init_844 : decode cX14_init 844 = .ok (.aload_n 0, 1) := by decide +kernel
theorem dX14_init_845 : decode cX14_init 845 = .ok (.sipush 128, 3) := by decide +kernel
theorem dX14_init_848 : decode cX14_init 848 = .ok (.newarray .int, 2) := by decide +kernel
theorem dX14_init_850 : decode cX14_init 850 = .ok (.putfield 87, 3) := by decide +kernel
theorem dX14_init_853 : decode cX14_init 853 = .ok (.aload_n 0, 1) := by decide +kernel
theorem dX14_init_854 : decode cX14_init 854 = .ok (.bipush 96, 2) := by decide +kernel
theorem dX14_init_856 : decode cX14_init 856 = .ok (.newarray .int, 2) := by decide +kernel
theorem dX14_init_858 : decode cX14_init 858 = .ok (.putfield 90, 3) := by decide +kernel
theorem dX14_init_861 : decode cX14_init 861 = .ok (.aload_n 0, 1) := by decide +kernel
theorem dX14_init_862 : decode cX14_init 862 = .ok (.bipush 96, 2) := by decide +kernel
theorem dX14_init_864 : decode cX14_init 864 = .ok (.newarray .int, 2) := by decide +kernel
theorem dX14_init_866 : decode cX14_init 866 = .ok (.putfield 93, 3) := by decide +kernel
theorem dX14_init_869 : decode cX14_init 869 = .ok (.aload_n 0, 1) := by decide +kernel
theorem dX14_init_870 : decode cX14_init 870 = .ok (.iconst 5, 1) := by decide +kernel
theorem dX14_init_871 : decode cX14_init 871 = .ok (.newarray .long, 2) := by decide +kernel
theorem dX14_init_873 : decode cX14_init 873 = .ok (.putfield 96, 3) := by decide +kernel
theorem dX14_init_876 : decode cX14_init 876 = .ok (.aload_n 0, 1) := by decide +kernel
theorem dX14_init_877 : decode cX14_init 877 = .ok (.bipush 64, 2) := by decide +kernel
theorem dX14_init_879 : decode cX14_init 879 = .ok (.newarray .long, 2) := by decide +kernel
theorem dX14_init_881 : decode cX14_init 881 = .ok (.putfield 100, 3) := by decide +kernel
theorem dX14_init_884 : decode cX14_init 884 = .ok (.aload_n 0, 1) := by decide +kernel
theorem dX14_init_885 : decode cX14_init 885 = .ok (.sipush 2304, 3) := by decide +kernel
theorem dX14_init_888 : decode cX14_init 888 = .ok (.newarray .int, 2) := by decide +kernel
theorem dX14_init_890 : decode cX14_init 890 = .ok (.putfield 103, 3) := by decide +kernel
theorem dX14_init_893 : decode cX14_init 893 = .ok (.aload_n 0, 1) := by decide +kernel
theorem dX14_init_894 : decode cX14_init 894 = .ok (.sipush 2304, 3) := by decide +kernel
theorem dX14_init_897 : decode cX14_init 897 = .ok (.newarray .int, 2) := by decide +kernel
theorem dX14_init_899 : decode cX14_init 899 = .ok (.putfield 106, 3) := by decide +kernel
theorem dX14_init_902 : decode cX14_init 902 = .ok (.aload_n 0, 1) := by decide +kernel
theorem dX14_init_903 : decode cX14_init 903 = .ok (.iconst 3, 1) := by decide +kernel
theorem dX14_init_904 : decode cX14_init 904 = .ok (.newarray .int, 2) := by decide +kernel
theorem dX14_init_906 : decode cX14_init 906 = .ok (.putfield 109, 3) := by decide +kernel
theorem dX14_init_909 : decode cX14_init 909 = .ok (.aload_n 0, 1) := by decide +kernel
theorem dX14_init_910 : decode cX14_init 910 = .ok (.iconst (-1), 1) := by decide +kernel
theorem dX14_init_911 : decode cX14_init 911 = .ok (.putfield 112, 3) := by decide +kernel
theorem dX14_init_914 : decode cX14_init 914 = .ok (.aload_n 0, 1) := by decide +kernel
theorem dX14_init_915 : decode cX14_init 915 = .ok (.bipush 20, 2) := by decide +kernel
theorem dX14_init_917 : decode cX14_init 917 = .ok (.newarray .int, 2) := by decide +kernel
theorem dX14_init_919 : decode cX14_init 919 = .ok (.putfield 115, 3) := by decide +kernel
theorem dX14_init_922 : decode cX14_init 922 = .ok (.aload_n 0, 1) := by decide +kernel
theorem dX14_init_923 : decode cX14_init 923 = .ok (.iconst (-1), 1) := by decide +kernel
theorem dX14_init_924 : decode cX14_init 924 = .ok (.putfield 118, 3) := by decide +kernel
theorem dX14_init_927 : decode cX14_init 927 = .ok (.aload_n 0, 1) := by decide +kernel
theorem dX14_init_928 : decode cX14_init 928 = .ok (.bipush 96, 2) := by decide +kernel
theorem dX14_init_930 : decode cX14_init 930 = .ok (.newarray .int, 2) := by decide +kernel
theorem dX14_init_932 : decode cX14_init 932 = .ok (.putfield 121, 3) := by decide +kernel
theorem dX14_init_935 : decode cX14_init 935 = .ok (.aload_n 0, 1) := by decide +kernel
theorem dX14_init_936 : decode cX14_init 936 = .ok (.bipush 32, 2) := by decide +kernel
theorem dX14_init_938 : decode cX14_init 938 = .ok (.newarray .boolean, 2) := by decide +kernel
theorem dX14_init_940 : decode cX14_init 940 = .ok (.putfield 124, 3) := by decide +kernel
theorem dX14_init_943 : decode cX14_init 943 = .ok (.aload_n 0, 1) := by decide +kernel
theorem dX14_init_944 : decode cX14_init 944 = .ok (.sipush 4464, 3) := by decide +kernel
theorem dX14_init_947 : decode cX14_init 947 = .ok (.newarray .int, 2) := by decide +kernel
theorem dX14_init_949 : decode cX14_init 949 = .ok (.putfield 127, 3) := by decide +kernel
theorem dX14_init_952 : decode cX14_init 952 = .ok (.aload_n 0, 1) := by decide +kernel
theorem dX14_init_953 : decode cX14_init 953 = .ok (.bipush 24, 2) := by decide +kernel
theorem dX14_init_955 : decode cX14_init 955 = .ok (.newarray .int, 2) := by decide +kernel
theorem dX14_init_957 : decode cX14_init 957 = .ok (.putfield 130, 3) := by decide +kernel
theorem dX14_init_960 : decode cX14_init 960 = .ok (.aload_n 0, 1) := by decide +kernel
theorem dX14_init_961 : decode cX14_init 961 = .ok (.bipush 24, 2) := by decide +kernel
theorem dX14_init_963 : decode cX14_init 963 = .ok (.newarray .int, 2) := by decide +kernel
theorem dX14_init_965 : decode cX14_init 965 = .ok (.putfield 133, 3) := by decide +kernel
theorem dX14_init_968 : decode cX14_init 968 = .ok (.aload_n 0, 1) := by decide +kernel
theorem dX14_init_969 : decode cX14_init 969 = .ok (.bipush 48, 2) := by decide +kernel
theorem dX14_init_971 : decode cX14_init 971 = .ok (.newarray .int, 2) := by decide +kernel
theorem dX14_init_973 : decode cX14_init 973 = .ok (.putfield 136, 3) := by decide +kernel
theorem dX14_init_976 : decode cX14_init 976 = .ok (.aload_n 0, 1) := by decide +kernel
theorem dX14_init_977 : decode cX14_init 977 = .ok (.bipush 48, 2) := by decide +kernel
theorem dX14_init_979 : decode cX14_init 979 = .ok (.newarray .int, 2) := by decide +kernel
theorem dX14_init_981 : decode cX14_init 981 = .ok (.putfield 139, 3) := by decide +kernel
theorem dX14_init_984 : decode cX14_init 984 = .ok (.aload_n 0, 1) := by decide +kernel
theorem dX14_init_985 : decode cX14_init 985 = .ok (.invokevirtual 142, 3) := by decide +kernel
theorem dX14_init_988 : decode cX14_init 988 = .ok (.aload_n 0, 1) := by decide +kernel
theorem dX14_init_989 : decode cX14_init 989 = .ok (.invokevirtual 145, 3) := by decide +kernel
theorem dX14_init_992 : decode cX14_init 992 = .ok (.return_, 1) := by decide +kernel
