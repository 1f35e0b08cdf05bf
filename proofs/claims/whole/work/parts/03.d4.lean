theorem dX9_init_0 : decode cX9_init 0 = .ok (.aload_n 0, 1) := by decide +kernel
theorem dX9_init_1 : decode cX9_init 1 = .ok (.invokespecial 1, 3) := by decide +kernel
theorem dX9_init_4 : decode cX9_init 4 = .ok (.aload_n 0, 1) := by decide +kernel
theorem dX9_init_5 : decode cX9_init 5 = .ok (.sipush 700, 3) := by decide +kernel
theorem dX9_init_8 : decode cX9_init 8 = .ok (.newarray .int, 2) := by decide +kernel
theorem dX9_init_10 : decode cX9_init 10 = .ok (.putfield 7, 3) := by decide +kernel
theorem dX9_init_13 : decode cX9_init 13 = .ok (.aload_n 0, 1) := by decide +kernel
theorem dX9_init_14 : decode cX9_init 14 = .ok (.bipush 106, 2) := by decide +kernel
theorem dX9_init_16 : decode cX9_init 16 = .ok (.newarray .int, 2) := by decide +kernel
theorem dX9_init_18 : decode cX9_init 18 = .ok (.dup, 1) := by decide +kernel
theorem dX9_init_19 : decode cX9_init 19 = .ok (.iconst 0, 1) := by decide +kernel
theorem dX9_init_20 : decode cX9_init 20 = .ok (.bipush 103, 2) := by decide +kernel
theorem dX9_init_22 : decode cX9_init 22 = .ok (.iastore, 1) := by decide +kernel
theorem dX9_init_23 : decode cX9_init 23 = .ok (.dup, 1) := by decide +kernel
theorem dX9_init_24 : decode cX9_init 24 = .ok (.iconst 1, 1) := by decide +kernel
theorem dX9_init_25 : decode cX9_init 25 = .ok (.bipush 117, 2) := by decide +kernel
theorem dX9_init_27 : decode cX9_init 27 = .ok (.iastore, 1) := by decide +kernel
theorem dX9_init_28 : decode cX9_init 28 = .ok (.dup, 1) := by decide +kernel
theorem dX9_init_29 : decode cX9_init 29 = .ok (.iconst 2, 1) := by decide +kernel
theorem dX9_init_30 : decode cX9_init 30 = .ok (.bipush 101, 2) := by decide +kernel
theorem dX9_init_32 : decode cX9_init 32 = .ok (.iastore, 1) := by decide +kernel
theorem dX9_init_33 : decode cX9_init 33 = .ok (.dup, 1) := by decide +kernel
theorem dX9_init_34 : decode cX9_init 34 = .ok (.iconst 3, 1) := by decide +kernel
theorem dX9_init_35 : decode cX9_init 35 = .ok (.bipush 115, 2) := by decide +kernel
theorem dX9_init_37 : decode cX9_init 37 = .ok (.iastore, 1) := by decide +kernel
theorem dX9_init_38 : decode cX9_init 38 = .ok (.dup, 1) := by decide +kernel
theorem dX9_init_39 : decode cX9_init 39 = .ok (.iconst 4, 1) := by decide +kernel
theorem dX9_init_40 : decode cX9_init 40 = .ok (.bipush 116, 2) := by decide +kernel
theorem dX9_init_42 : decode cX9_init 42 = .ok (.iastore, 1) := by decide +kernel
theorem dX9_init_43 : decode cX9_init 43 = .ok (.dup, 1) := by decide +kernel
theorem dX9_init_44 : decode cX9_init 44 = .ok (.iconst 5, 1) := by decide +kernel
theorem dX9_init_45 : decode cX9_init 45 = .ok (.bipush 32, 2) := by decide +kernel
theorem dX9_init_47 : decode cX9_init 47 = .ok (.iastore, 1) := by decide +kernel
theorem dX9_init_48 : decode cX9_init 48 = .ok (.dup, 1) := by decide +kernel
theorem dX9_init_49 : decode cX9_init 49 = .ok (.bipush 6, 2) := by decide +kernel
theorem dX9_init_51 : decode cX9_init 51 = .ok (.bipush 102, 2) := by decide +kernel
theorem dX9_init_53 : decode cX9_init 53 = .ok (.iastore, 1) := by decide +kernel
theorem dX9_init_54 : decode cX9_init 54 = .ok (.dup, 1) := by decide +kernel
theorem dX9_init_55 : decode cX9_init 55 = .ok (.bipush 7, 2) := by decide +kernel
theorem dX9_init_57 : decode cX9_init 57 = .ok (.bipush 114, 2) := by decide +kernel
theorem dX9_init_59 : decode cX9_init 59 = .ok (.iastore, 1) := by decide +kernel
theorem dX9_init_60 : decode cX9_init 60 = .ok (.dup, 1) := by decide +kernel
theorem dX9_init_61 : decode cX9_init 61 = .ok (.bipush 8, 2) := by decide +kernel
theorem dX9_init_63 : decode cX9_init 63 = .ok (.bipush 117, 2) := by decide +kernel
theorem dX9_init_65 : decode cX9_init 65 = .ok (.iastore, 1) := by decide +kernel
theorem dX9_init_66 : decode cX9_init 66 = .ok (.dup, 1) := by decide +kernel
theorem dX9_init_67 : decode cX9_init 67 = .ok (.bipush 9, 2) := by decide +kernel
theorem dX9_init_69 : decode cX9_init 69 = .ok (.bipush 105, 2) := by decide +kernel
theorem dX9_init_71 : decode cX9_init 71 = .ok (.iastore, 1) := by decide +kernel
theorem dX9_init_72 : decode cX9_init 72 = .ok (.dup, 1) := by decide +kernel
theorem dX9_init_73 : decode cX9_init 73 = .ok (.bipush 10, 2) := by decide +kernel
theorem dX9_init_75 : decode cX9_init 75 = .ok (.bipush 116, 2) := by decide +kernel
theorem dX9_init_77 : decode cX9_init 77 = .ok (.iastore, 1) := by decide +kernel
theorem dX9_init_78 : decode cX9_init 78 = .ok (.dup, 1) := by decide +kernel
theorem dX9_init_79 : decode cX9_init 79 = .ok (.bipush 11, 2) := by decide +kernel
theorem dX9_init_81 : decode cX9_init 81 = .ok (.bipush 32, 2) := by decide +kernel
theorem dX9_init_83 : decode cX9_init 83 = .ok (.iastore, 1) := by decide +kernel
theorem dX9_init_84 : decode cX9_init 84 = .ok (.dup, 1) := by decide +kernel
theorem dX9_init_85 : decode cX9_init 85 = .ok (.bipush 12, 2) := by decide +kernel
theorem dX9_init_87 : decode cX9_init 87 = .ok (.bipush 98, 2) := by decide +kernel
theorem dX9_init_89 : decode cX9_init 89 = .ok (.iastore, 1) := by decide +kernel
theorem dX9_init_90 : decode cX9_init 90 = .ok (.dup, 1) := by decide +kernel
theorem dX9_init_91 : decode cX9_init 91 = .ok (.bipush 13, 2) := by decide +kernel
theorem dX9_init_93 : decode cX9_init 93 = .ok (.bipush 105, 2) := by decide +kernel
theorem dX9_init_95 : decode cX9_init 95 = .ok (.iastore, 1) := by decide +kernel
theorem dX9_init_96 : decode cX9_init 96 = .ok (.dup, 1) := by decide +kernel
theorem dX9_init_97 : decode cX9_init 97 = .ok (.bipush 14, 2) := by decide +kernel
theorem dX9_init_99 : decode cX9_init 99 = .ok (.bipush 116, 2) := by decide +kernel
theorem dX9_init_101 : decode cX9_init 101 = .ok (.iastore, 1) := by decide +kernel
theorem dX9_init_102 : decode cX9_init 102 = .ok (.dup, 1) := by decide +kernel
theorem dX9_init_103 : decode cX9_init 103 = .ok (.bipush 15, 2) := by decide +kernel
theorem dX9_init_105 : decode cX9_init 105 = .ok (.bipush 101, 2) := by decide +kernel
theorem dX9_init_107 : decode cX9_init 107 = .ok (.iastore, 1) := by decide +kernel
theorem dX9_init_108 : decode cX9_init 108 = .ok (.dup, 1) := by decide +kernel
theorem dX9_init_109 : decode cX9_init 109 = .ok (.bipush 16, 2) := by decide +kernel
theorem dX9_init_111 : decode cX9_init 111 = .ok (.bipush 32, 2) := by decide +kernel
theorem dX9_init_113 : decode cX9_init 113 = .ok (.iastore, 1) := by decide +kernel
theorem dX9_init_114 : decode cX9_init 114 = .ok (.dup, 1) := by decide +kernel
theorem dX9_init_115 : decode cX9_init 115 = .ok (.bipush 17, 2) := by decide +kernel
theorem dX9_init_117 : decode cX9_init 117 = .ok (.bipush 110, 2) := by decide +kernel
theorem dX9_init_119 : decode cX9_init 119 = .ok (.iastore, 1) := by decide +kernel
theorem dX9_init_120 : decode cX9_init 120 = .ok (.dup, 1) := by decide +kernel
theorem dX9_init_121 : decode cX9_init 121 = .ok (.bipush 18, 2) := by decide +kernel
theorem dX9_init_123 : decode cX9_init 123 = .ok (.bipush 101, 2) := by decide +kernel
theorem dX9_init_125 : decode cX9_init 125 = .ok (.iastore, 1) := by decide +kernel
theorem dX9_init_126 : decode cX9_init 126 = .ok (.dup, 1) := by decide +kernel
theorem dX9_init_127 : decode cX9_init 127 = .ok (.bipush 19, 2) := by decide +kernel
theorem dX9_init_129 : decode cX9_init 129 = .ok (.bipush 97, 2) := by decide +kernel
theorem dX9_init_131 : decode cX9_init 131 = .ok (.iastore, 1) := by decide +kernel
theorem dX9_init_132 : decode cX9_init 132 = .ok (.dup, 1) := by decide +kernel
theorem dX9_init_133 : decode cX9_init 133 = .ok (.bipush 20, 2) := by decide +kernel
theorem dX9_init_135 : decode cX9_init 135 = .ok (.bipush 114, 2) := by decide +kernel
theorem dX9_init_137 : decode cX9_init 137 = .ok (.iastore, 1) := by decide +kernel
theorem dX9_init_138 : decode cX9_init 138 = .ok (.dup, 1) := by decide +kernel
theorem dX9_init_139 : decode cX9_init 139 = .ok (.bipush 21, 2) := by decide +kernel
theorem dX9_init_141 : decode cX9_init 141 = .ok (.bipush 32, 2) := by decide +kernel
theorem dX9_init_143 : decode cX9_init 143 = .ok (.iastore, 1) := by decide +kernel
theorem dX9_init_144 : decode cX9_init 144 = .ok (.dup, 1) := by decide +kernel
theorem dX9_init_145 : decode cX9_init 145 = .ok (.bipush 22, 2) := by decide +kernel
theorem dX9_init_147 : decode cX9_init 147 = .ok (.bipush 99, 2) := by decide +kernel
theorem dX9_init_149 : decode cX9_init 149 = .ok (.iastore, 1) := by decide +kernel
theorem dX9_init_150 : decode cX9_init 150 = .ok (.dup, 1) := by decide +kernel
theorem dX9_init_151 : decode cX9_init 151 = .ok (.bipush 23, 2) := by decide +kernel
theorem dX9_init_153 : decode cX9_init 153 = .ok (.bipush 111, 2) := by decide +kernel
theorem dX9_init_155 : decode cX9_init 155 = .ok (.iastore, 1) := by decide +kernel
theorem dX9_init_156 : decode cX9_init 156 = .ok (.dup, 1) := by decide +kernel
theorem dX9_init_157 : decode cX9_init 157 = .ok (.bipush 24, 2) := by decide +kernel
theorem dX9_init_159 : decode cX9_init 159 = .ok (.bipush 108, 2) := by decide +kernel
theorem dX9_init_161 : decode cX9_init 161 = .ok (.iastore, 1) := by decide +kernel
theorem dX9_init_162 : decode cX9_init 162 = .ok (.dup, 1) := by decide +kernel
theorem dX9_init_163 : decode cX9_init 163 = .ok (.bipush 25, 2) := by decide +kernel
theorem dX9_init_165 : decode cX9_init 165 = .ok (.bipush 100, 2) := by decide +kernel
theorem dX9_init_167 : decode cX9_init 167 = .ok (.iastore, 1) := by decide +kernel
theorem dX9_init_168 : decode cX9_init 168 = .ok (.dup, 1) := by decide +kernel
theorem dX9_init_169 : decode cX9_init 169 = .ok (.bipush 26, 2) := by decide +kernel
theorem dX9_init_171 : decode cX9_init 171 = .ok (.bipush 32, 2) := by decide +kernel
theorem dX9_init_173 : decode cX9_init 173 = .ok (.iastore, 1) := by decide +kernel
theorem dX9_init_174 : decode cX9_init 174 = .ok (.dup, 1) := by decide +kernel
theorem dX9_init_175 : decode cX9_init 175 = .ok (.bipush 27, 2) := by decide +kernel
theorem dX9_init_177 : decode cX9_init 177 = .ok (.bipush 115, 2) := by decide +kernel
theorem dX9_init_179 : decode cX9_init 179 = .ok (.iastore, 1) := by decide +kernel
theorem dX9_init_180 : decode cX9_init 180 = .ok (.dup, 1) := by decide +kernel
theorem dX9_init_181 : decode cX9_init 181 = .ok (.bipush 28, 2) := by decide +kernel
theorem dX9_init_183 : decode cX9_init 183 = .ok (.bipush 101, 2) := by decide +kernel
theorem dX9_init_185 : decode cX9_init 185 = .ok (.iastore, 1) := by decide +kernel
theorem dX9_init_186 : decode cX9_init 186 = .ok (.dup, 1) := by decide +kernel
theorem dX9_init_187 : decode cX9_init 187 = .ok (.bipush 29, 2) := by decide +kernel
theorem dX9_init_189 : decode cX9_init 189 = .ok (.bipush 101, 2) := by decide +kernel
theorem dX9_init_191 : decode cX9_init 191 = .ok (.iastore, 1) := by decide +kernel
theorem dX9_init_192 : decode cX9_init 192 = .ok (.dup, 1) := by decide +kernel
theorem dX9_init_193 : decode cX9_init 193 = .ok (.bipush 30, 2) := by decide +kernel
theorem dX9_init_195 : decode cX9_init 195 = .ok (.bipush 100, 2) := by decide +kernel
theorem dX9_init_197 : decode cX9_init 197 = .ok (.iastore, 1) := by decide +kernel
theorem dX9_init_198 : decode cX9_init 198 = .ok (.dup, 1) := by decide +kernel
theorem dX9_init_199 : decode cX9_init 199 = .ok (.bipush 31, 2) := by decide +kernel
theorem dX9_init_201 : decode cX9_init 201 = .ok (.bipush 32, 2) := by decide +kernel
theorem dX9_init_203 : decode cX9_init 203 = .ok (.iastore, 1) := by decide +kernel
theorem dX9_init_204 : decode cX9_init 204 = .ok (.dup, 1) := by decide +kernel
theorem dX9_init_205 : decode cX9_init 205 = .ok (.bipush 32, 2) := by decide +kernel
theorem dX9_init_207 : decode cX9_init 207 = .ok (.bipush 108, 2) := by decide +kernel
theorem dX9_init_209 : decode cX9_init 209 = .ok (.iastore, 1) := by decide +kernel
theorem dX9_init_210 : decode cX9_init 210 = .ok (.dup, 1) := by decide +kernel
theorem dX9_init_211 : decode cX9_init 211 = .ok (.bipush 33, 2) := by decide +kernel
theorem dX9_init_213 : decode cX9_init 213 = .ok (.bipush 97, 2) := by decide +kernel
theorem dX9_init_215 : decode cX9_init 215 = .ok (.iastore, 1) := by decide +kernel
theorem dX9_init_216 : decode cX9_init 216 = .ok (.dup, 1) := by decide +kernel
theorem dX9_init_217 : decode cX9_init 217 = .ok (.bipush 34, 2) := by decide +kernel
theorem dX9_init_219 : decode cX9_init 219 = .ok (.bipush 119, 2) := by decide +kernel
theorem dX9_init_221 : decode cX9_init 221 = .ok (.iastore, 1) := by decide +kernel
theorem dX9_init_222 : decode cX9_init 222 = .ok (.dup, 1) := by decide +kernel
theorem dX9_init_223 : decode cX9_init 223 = .ok (.bipush 35, 2) := by decide +kernel
theorem dX9_init_225 : decode cX9_init 225 = .ok (.bipush 32, 2) := by decide +kernel
theorem dX9_init_227 : decode cX9_init 227 = .ok (.iastore, 1) := by decide +kernel
theorem dX9_init_228 : decode cX9_init 228 = .ok (.dup, 1) := by decide +kernel
theorem dX9_init_229 : decode cX9_init 229 = .ok (.bipush 36, 2) := by decide +kernel
theorem dX9_init_231 : decode cX9_init 231 = .ok (.bipush 112, 2) := by decide +kernel
theorem dX9_init_233 : decode cX9_init 233 = .ok (.iastore, 1) := by decide +kernel
theorem dX9_init_234 : decode cX9_init 234 = .ok (.dup, 1) := by decide +kernel
theorem dX9_init_235 : decode cX9_init 235 = .ok (.bipush 37, 2) := by decide +kernel
theorem dX9_init_237 : decode cX9_init 237 = .ok (.bipush 114, 2) := by decide +kernel
theorem dX9_init_239 : decode cX9_init 239 = .ok (.iastore, 1) := by decide +kernel
theorem dX9_init_240 : decode cX9_init 240 = .ok (.dup, 1) := by decide +kernel
theorem dX9_init_241 : decode cX9_init 241 = .ok (.bipush 38, 2) := by decide +kernel
theorem dX9_init_243 : decode cX9_init 243 = .ok (.bipush 97, 2) := by decide +kernel
theorem dX9_init_245 : decode cX9_init 245 = .ok (.iastore, 1) := by decide +kernel
theorem dX9_init_246 : decode cX9_init 246 = .ok (.dup, 1) := by decide +kernel
theorem dX9_init_247 : decode cX9_init 247 = .ok (.bipush 39, 2) := by decide +kernel
theorem dX9_init_249 : decode cX9_init 249 = .ok (.bipush 105, 2) := by decide +kernel
theorem dX9_init_251 : decode cX9_init 251 = .ok (.iastore, 1) := by decide +kernel
theorem dX9_init_252 : decode cX9_init 252 = .ok (.dup, 1) := by decide +kernel
theorem dX9_init_253 : decode cX9_init 253 = .ok (.bipush 40, 2) := by decide +kernel
theorem dX9_init_255 : decode cX9_init 255 = .ok (.bipush 115, 2) := by decide +kernel
theorem dX9_init_257 : decode cX9_init 257 = .ok (.iastore, 1) := by decide +kernel
theorem dX9_init_258 : decode cX9_init 258 = .ok (.dup, 1) := by decide +kernel
theorem dX9_init_259 : decode cX9_init 259 = .ok (.bipush 41, 2) := by decide +kernel
theorem dX9_init_261 : decode cX9_init 261 = .ok (.bipush 101, 2) := by decide +kernel
theorem dX9_init_263 : decode cX9_init 263 = .ok (.iastore, 1) := by decide +kernel
theorem dX9_init_264 : decode cX9_init 264 = .ok (.dup, 1) := by decide +kernel
theorem dX9_init_265 : decode cX9_init 265 = .ok (.bipush 42, 2) := by decide +kernel
theorem dX9_init_267 : decode cX9_init 267 = .ok (.bipush 32, 2) := by decide +kernel
theorem dX9_init_269 : decode cX9_init 269 = .ok (.iastore, 1) := by decide +kernel
theorem dX9_init_270 : decode cX9_init 270 = .ok (.dup, 1) := by decide +kernel
theorem dX9_init_271 : decode cX9_init 271 = .ok (.bipush 43, 2) := by decide +kernel
theorem dX9_init_273 : decode cX9_init 273 = .ok (.bipush 100, 2) := by decide +kernel
theorem dX9_init_275 : decode cX9_init 275 = .ok (.iastore, 1) := by decide +kernel
theorem dX9_init_276 : decode cX9_init 276 = .ok (.dup, 1) := by decide +kernel
theorem dX9_init_277 : decode cX9_init 277 = .ok (.bipush 44, 2) := by decide +kernel
theorem dX9_init_279 : decode cX9_init 279 = .ok (.bipush 97, 2) := by decide +kernel
theorem dX9_init_281 : decode cX9_init 281 = .ok (.iastore, 1) := by decide +kernel
theorem dX9_init_282 : decode cX9_init 282 = .ok (.dup, 1) := by decide +kernel
theorem dX9_init_283 : decode cX9_init 283 = .ok (.bipush 45, 2) := by decide +kernel
theorem dX9_init_285 : decode cX9_init 285 = .ok (.bipush 114, 2) := by decide +kernel
theorem dX9_init_287 : decode cX9_init 287 = .ok (.iastore, 1) := by decide +kernel
theorem dX9_init_288 : decode cX9_init 288 = .ok (.dup, 1) := by decide +kernel
theorem dX9_init_289 : decode cX9_init 289 = .ok (.bipush 46, 2) := by decide +kernel
theorem dX9_init_291 : decode cX9_init 291 = .ok (.bipush 101, 2) := by decide +kernel
theorem dX9_init_293 : decode cX9_init 293 = .ok (.iastore, 1) := by decide +kernel
theorem dX9_init_294 : decode cX9_init 294 = .ok (.dup, 1) := by decide +kernel
theorem dX9_init_295 : decode cX9_init 295 = .ok (.bipush 47, 2) := by decide +kernel
theorem dX9_init_297 : decode cX9_init 297 = .ok (.bipush 32, 2) := by decide +kernel
theorem dX9_init_299 : decode cX9_init 299 = .ok (.iastore, 1) := by decide +kernel
theorem dX9_init_300 : decode cX9_init 300 = .ok (.dup, 1) := by decide +kernel
theorem dX9_init_301 : decode cX9_init 301 = .ok (.bipush 48, 2) := by decide +kernel
theorem dX9_init_303 : decode cX9_init 303 = .ok (.bipush 115, 2) := by decide +kernel
theorem dX9_init_305 : decode cX9_init 305 = .ok (.iastore, 1) := by decide +kernel
theorem dX9_init_306 : decode cX9_init 306 = .ok (.dup, 1) := by decide +kernel
theorem dX9_init_307 : decode cX9_init 307 = .ok (.bipush 49, 2) := by decide +kernel
theorem dX9_init_309 : decode cX9_init 309 = .ok (.bipush 104, 2) := by decide +kernel
theorem dX9_init_311 : decode cX9_init 311 = .ok (.iastore, 1) := by decide +kernel
theorem dX9_init_312 : decode cX9_init 312 = .ok (.dup, 1) := by decide +kernel
theorem dX9_init_313 : decode cX9_init 313 = .ok (.bipush 50, 2) := by decide +kernel
theorem dX9_init_315 : decode cX9_init 315 = .ok (.bipush 111, 2) := by decide +kernel
theorem dX9_init_317 : decode cX9_init 317 = .ok (.iastore, 1) := by decide +kernel
theorem dX9_init_318 : decode cX9_init 318 = .ok (.dup, 1) := by decide +kernel
theorem dX9_init_319 : decode cX9_init 319 = .ok (.bipush 51, 2) := by decide +kernel
theorem dX9_init_321 : decode cX9_init 321 = .ok (.bipush 99, 2) := by decide +kernel
theorem dX9_init_323 : decode cX9_init 323 = .ok (.iastore, 1) := by decide +kernel
theorem dX9_init_324 : decode cX9_init 324 = .ok (.dup, 1) := by decide +kernel
theorem dX9_init_325 : decode cX9_init 325 = .ok (.bipush 52, 2) := by decide +kernel
theorem dX9_init_327 : decode cX9_init 327 = .ok (.bipush 107, 2) := by decide +kernel
theorem dX9_init_329 : decode cX9_init 329 = .ok (.iastore, 1) := by decide +kernel
theorem dX9_init_330 : decode cX9_init 330 = .ok (.dup, 1) := by decide +kernel
theorem dX9_init_331 : decode cX9_init 331 = .ok (.bipush 53, 2) := by decide +kernel
theorem dX9_init_333 : decode cX9_init 333 = .ok (.bipush 32, 2) := by decide +kernel
theorem dX9_init_335 : decode cX9_init 335 = .ok (.iastore, 1) := by decide +kernel
theorem dX9_init_336 : decode cX9_init 336 = .ok (.dup, 1) := by decide +kernel
theorem dX9_init_337 : decode cX9_init 337 = .ok (.bipush 54, 2) := by decide +kernel
theorem dX9_init_339 : decode cX9_init 339 = .ok (.bipush 97, 2) := by decide +kernel
theorem dX9_init_341 : decode cX9_init 341 = .ok (.iastore, 1) := by decide +kernel
theorem dX9_init_342 : decode cX9_init 342 = .ok (.dup, 1) := by decide +kernel
theorem dX9_init_343 : decode cX9_init 343 = .ok (.bipush 55, 2) := by decide +kernel
theorem dX9_init_345 : decode cX9_init 345 = .ok (.bipush 110, 2) := by decide +kernel
theorem dX9_init_347 : decode cX9_init 347 = .ok (.iastore, 1) := by decide +kernel
theorem dX9_init_348 : decode cX9_init 348 = .ok (.dup, 1) := by decide +kernel
theorem dX9_init_349 : decode cX9_init 349 = .ok (.bipush 56, 2) := by decide +kernel
theorem dX9_init_351 : decode cX9_init 351 = .ok (.bipush 100, 2) := by decide +kernel
theorem dX9_init_353 : decode cX9_init 353 = .ok (.iastore, 1) := by decide +kernel
theorem dX9_init_354 : decode cX9_init 354 = .ok (.dup, 1) := by decide +kernel
theorem dX9_init_355 : decode cX9_init 355 = .ok (.bipush 57, 2) := by decide +kernel
theorem dX9_init_357 : decode cX9_init 357 = .ok (.bipush 32, 2) := by decide +kernel
theorem dX9_init_359 : decode cX9_init 359 = .ok (.iastore, 1) := by decide +kernel
theorem dX9_init_360 : decode cX9_init 360 = .ok (.dup, 1) := by decide +kernel
theorem dX9_init_361 : decode cX9_init 361 = .ok (.bipush 58, 2) := by decide +kernel
theorem dX9_init_363 : decode cX9_init 363 = .ok (.bipush 111, 2) := by decide +kernel
theorem dX9_init_365 : decode cX9_init 365 = .ok (.iastore, 1) := by decide +kernel
theorem dX9_init_366 : decode cX9_init 366 = .ok (.dup, 1) := by decide +kernel
theorem dX9_init_367 : decode cX9_init 367 = .ok (.bipush 59, 2) := by decide +kernel
theorem dX9_init_369 : decode cX9_init 369 = .ok (.bipush 114, 2) := by decide +kernel
theorem dX9_init_371 : decode cX9_init 371 = .ok (.iastore, 1) := by decide +kernel
theorem dX9_init_372 : decode cX9_init 372 = .ok (.dup, 1) := by decide +kernel
theorem dX9_init_373 : decode cX9_init 373 = .ok (.bipush 60, 2) := by decide +kernel
theorem dX9_init_375 : decode cX9_init 375 = .ok (.bipush 32, 2) := by decide +kernel
theorem dX9_init_377 : decode cX9_init 377 = .ok (.iastore, 1) := by decide +kernel
theorem dX9_init_378 : decode cX9_init 378 = .ok (.dup, 1) := by decide +kernel
theorem dX9_init_379 : decode cX9_init 379 = .ok (.bipush 61, 2) := by decide +kernel
theorem dX9_init_381 : decode cX9_init 381 = .ok (.bipush 110, 2) := by decide +kernel
theorem dX9_init_383 : decode cX9_init 383 = .ok (.iastore, 1) := by decide +kernel
theorem dX9_init_384 : decode cX9_init 384 = .ok (.dup, 1) := by decide +kernel
theorem dX9_init_385 : decode cX9_init 385 = .ok (.bipush 62, 2) := by decide +kernel
theorem dX9_init_387 : decode cX9_init 387 = .ok (.bipush 111, 2) := by decide +kernel
theorem dX9_init_389 : decode cX9_init 389 = .ok (.iastore, 1) := by decide +kernel
theorem dX9_init_390 : decode cX9_init 390 = .ok (.dup, 1) := by decide +kernel
theorem dX9_init_391 : decode cX9_init 391 = .ok (.bipush 63, 2) := by decide +kernel
theorem dX9_init_393 : decode cX9_init 393 = .ok (.bipush 116, 2) := by decide +kernel
theorem dX9_init_395 : decode cX9_init 395 = .ok (.iastore, 1) := by decide +kernel
theorem dX9_init_396 : decode cX9_init 396 = .ok (.dup, 1) := by decide +kernel
theorem dX9_init_397 : decode cX9_init 397 = .ok (.bipush 64, 2) := by decide +kernel
theorem dX9_init_399 : decode cX9_init 399 = .ok (.bipush 32, 2) := by decide +kernel
theorem dX9_init_401 : decode cX9_init 401 = .ok (.iastore, 1) := by decide +kernel
theorem dX9_init_402 : decode cX9_init 402 = .ok (.dup, 1) := by decide +kernel
theorem dX9_init_403 : decode cX9_init 403 = .ok (.bipush 65, 2) := by decide +kernel
theorem dX9_init_405 : decode cX9_init 405 = .ok (.bipush 109, 2) := by decide +kernel
theorem dX9_init_407 : decode cX9_init 407 = .ok (.iastore, 1) := by decide +kernel
theorem dX9_init_408 : decode cX9_init 408 = .ok (.dup, 1) := by decide +kernel
theorem dX9_init_409 : decode cX9_init 409 = .ok (.bipush 66, 2) := by decide +kernel
theorem dX9_init_411 : decode cX9_init 411 = .ok (.bipush 97, 2) := by decide +kernel
theorem dX9_init_413 : decode cX9_init 413 = .ok (.iastore, 1) := by decide +kernel
theorem dX9_init_414 : decode cX9_init 414 = .ok (.dup, 1) := by decide +kernel
theorem dX9_init_415 : decode cX9_init 415 = .ok (.bipush 67, 2) := by decide +kernel
theorem dX9_init_417 : decode cX9_init 417 = .ok (.bipush 110, 2) := by decide +kernel
theorem dX9_init_419 : decode cX9_init 419 = .ok (.iastore, 1) := by decide +kernel
theorem dX9_init_420 : decode cX9_init 420 = .ok (.dup, 1) := by decide +kernel
theorem dX9_init_421 : decode cX9_init 421 = .ok (.bipush 68, 2) := by decide +kernel
theorem dX9_init_423 : decode cX9_init 423 = .ok (.bipush 110, 2) := by decide +kernel
theorem dX9_init_425 : decode cX9_init 425 = .ok (.iastore, 1) := by decide +kernel
theorem dX9_init_426 : decode cX9_init 426 = .ok (.dup, 1) := by decide +kernel
theorem dX9_init_427 : decode cX9_init 427 = .ok (.bipush 69, 2) := by decide +kernel
theorem dX9_init_429 : decode cX9_init 429 = .ok (.bipush 101, 2) := by decide +kernel
theorem dX9_init_431 : decode cX9_init 431 = .ok (.iastore, 1) := by decide +kernel
theorem dX9_init_432 : decode cX9_init 432 = .ok (.dup, 1) := by decide +kernel
theorem dX9_init_433 : decode cX9_init 433 = .ok (.bipush 70, 2) := by decide +kernel
theorem dX9_init_435 : decode cX9_init 435 = .ok (.bipush 114, 2) := by decide +kernel
theorem dX9_init_437 : decode cX9_init 437 = .ok (.iastore, 1) := by decide +kernel
theorem dX9_init_438 : decode cX9_init 438 = .ok (.dup, 1) := by decide +kernel
theorem dX9_init_439 : decode cX9_init 439 = .ok (.bipush 71, 2) := by decide +kernel
theorem dX9_init_441 : decode cX9_init 441 = .ok (.bipush 32, 2) := by decide +kernel
theorem dX9_init_443 : decode cX9_init 443 = .ok (.iastore, 1) := by decide +kernel
theorem dX9_init_444 : decode cX9_init 444 = .ok (.dup, 1) := by decide +kernel
theorem dX9_init_445 : decode cX9_init 445 = .ok (.bipush 72, 2) := by decide +kernel
theorem dX9_init_447 : decode cX9_init 447 = .ok (.bipush 104, 2) := by decide +kernel
theorem dX9_init_449 : decode cX9_init 449 = .ok (.iastore, 1) := by decide +kernel
theorem dX9_init_450 : decode cX9_init 450 = .ok (.dup, 1) := by decide +kernel
theorem dX9_init_451 : decode cX9_init 451 = .ok (.bipush 73, 2) := by decide +kernel
theorem dX9_init_453 : decode cX9_init 453 = .ok (.bipush 117, 2) := by decide +kernel
theorem dX9_init_455 : decode cX9_init 455 = .ok (.iastore, 1) := by decide +kernel
theorem dX9_init_456 : decode cX9_init 456 = .ok (.dup, 1) := by decide +kernel
theorem dX9_init_457 : decode cX9_init 457 = .ok (.bipush 74, 2) := by decide +kernel
theorem dX9_init_459 : decode cX9_init 459 = .ok (.bipush 110, 2) := by decide +kernel
theorem dX9_init_461 : decode cX9_init 461 = .ok (.iastore, 1) := by decide +kernel
theorem dX9_init_462 : decode cX9_init 462 = .ok (.dup, 1) := by decide +kernel
theorem dX9_init_463 : decode cX9_init 463 = .ok (.bipush 75, 2) := by decide +kernel
theorem dX9_init_465 : decode cX9_init 465 = .ok (.bipush 103, 2) := by decide +kernel
theorem dX9_init_467 : decode cX9_init 467 = .ok (.iastore, 1) := by decide +kernel
theorem dX9_init_468 : decode cX9_init 468 = .ok (.dup, 1) := by decide +kernel
theorem dX9_init_469 : decode cX9_init 469 = .ok (.bipush 76, 2) := by decide +kernel
theorem dX9_init_471 : decode cX9_init 471 = .ok (.bipush 101, 2) := by decide +kernel
theorem dX9_init_473 : decode cX9_init 473 = .ok (.iastore, 1) := by decide +kernel
theorem dX9_init_474 : decode cX9_init 474 = .ok (.dup, 1) := by decide +kernel
theorem dX9_init_475 : decode cX9_init 475 = .ok (.bipush 77, 2) := by decide +kernel
theorem dX9_init_477 : decode cX9_init 477 = .ok (.bipush 114, 2) := by decide +kernel
theorem dX9_init_479 : decode cX9_init 479 = .ok (.iastore, 1) := by decide +kernel
theorem dX9_init_480 : decode cX9_init 480 = .ok (.dup, 1) := by decide +kernel
theorem dX9_init_481 : decode cX9_init 481 = .ok (.bipush 78, 2) := by decide +kernel
theorem dX9_init_483 : decode cX9_init 483 = .ok (.bipush 32, 2) := by decide +kernel
theorem dX9_init_485 : decode cX9_init 485 = .ok (.iastore, 1) := by decide +kernel
theorem dX9_init_486 : decode cX9_init 486 = .ok (.dup, 1) := by decide +kernel
theorem dX9_init_487 : decode cX9_init 487 = .ok (.bipush 79, 2) := by decide +kernel
theorem dX9_init_489 : decode cX9_init 489 = .ok (.bipush 119, 2) := by decide +kernel
theorem dX9_init_491 : decode cX9_init 491 = .ok (.iastore, 1) := by decide +kernel
theorem dX9_init_492 : decode cX9_init 492 = .ok (.dup, 1) := by decide +kernel
theorem dX9_init_493 : decode cX9_init 493 = .ok (.bipush 80, 2) := by decide +kernel
theorem dX9_init_495 : decode cX9_init 495 = .ok (.bipush 105, 2) := by decide +kernel
theorem dX9_init_497 : decode cX9_init 497 = .ok (.iastore, 1) := by decide +kernel
theorem dX9_init_498 : decode cX9_init 498 = .ok (.dup, 1) := by decide +kernel
theorem dX9_init_499 : decode cX9_init 499 = .ok (.bipush 81, 2) := by decide +kernel
theorem dX9_init_501 : decode cX9_init 501 = .ok (.bipush 116, 2) := by decide +kernel
theorem dX9_init_503 : decode cX9_init 503 = .ok (.iastore, 1) := by decide +kernel
theorem dX9_init_504 : decode cX9_init 504 = .ok (.dup, 1) := by decide +kernel
theorem dX9_init_505 : decode cX9_init 505 = .ok (.bipush 82, 2) := by decide +kernel
theorem dX9_init_507 : decode cX9_init 507 = .ok (.bipush 32, 2) := by decide +kernel
theorem dX9_init_509 : decode cX9_init 509 = .ok (.iastore, 1) := by decide +kernel
theorem dX9_init_510 : decode cX9_init 510 = .ok (.dup, 1) := by decide +kernel
theorem dX9_init_511 : decode cX9_init 511 = .ok (.bipush 83, 2) := by decide +kernel
theorem dX9_init_513 : decode cX9_init 513 = .ok (.bipush 115, 2) := by decide +kernel
theorem dX9_init_515 : decode cX9_init 515 = .ok (.iastore, 1) := by decide +kernel
theorem dX9_init_516 : decode cX9_init 516 = .ok (.dup, 1) := by decide +kernel
theorem dX9_init_517 : decode cX9_init 517 = .ok (.bipush 84, 2) := by decide +kernel
theorem dX9_init_519 : decode cX9_init 519 = .ok (.bipush 119, 2) := by decide +kernel
theorem dX9_init_521 : decode cX9_init 521 = .ok (.iastore, 1) := by decide +kernel
theorem dX9_init_522 : decode cX9_init 522 = .ok (.dup, 1) := by decide +kernel
theorem dX9_init_523 : decode cX9_init 523 = .ok (.bipush 85, 2) := by decide +kernel
theorem dX9_init_525 : decode cX9_init 525 = .ok (.bipush 101, 2) := by decide +kernel
theorem dX9_init_527 : decode cX9_init 527 = .ok (.iastore, 1) := by decide +kernel
theorem dX9_init_528 : decode cX9_init 528 = .ok (.dup, 1) := by decide +kernel
theorem dX9_init_529 : decode cX9_init 529 = .ok (.bipush 86, 2) := by decide +kernel
theorem dX9_init_531 : decode cX9_init 531 = .ok (.bipush 101, 2) := by decide +kernel
theorem dX9_init_533 : decode cX9_init 533 = .ok (.iastore, 1) := by decide +kernel
theorem dX9_init_534 : decode cX9_init 534 = .ok (.dup, 1) := by decide +kernel
theorem dX9_init_535 : decode cX9_init 535 = .ok (.bipush 87, 2) := by decide +kernel
theorem dX9_init_537 : decode cX9_init 537 = .ok (.bipush 116, 2) := by decide +kernel
theorem dX9_init_539 : decode cX9_init 539 = .ok (.iastore, 1) := by decide +kernel
theorem dX9_init_540 : decode cX9_init 540 = .ok (.dup, 1) := by decide +kernel
theorem dX9_init_541 : decode cX9_init 541 = .ok (.bipush 88, 2) := by decide +kernel
theorem dX9_init_543 : decode cX9_init 543 = .ok (.bipush 32, 2) := by decide +kernel
theorem dX9_init_545 : decode cX9_init 545 = .ok (.iastore, 1) := by decide +kernel
theorem dX9_init_546 : decode cX9_init 546 = .ok (.dup, 1) := by decide +kernel
theorem dX9_init_547 : decode cX9_init 547 = .ok (.bipush 89, 2) := by decide +kernel
theorem dX9_init_549 : decode cX9_init 549 = .ok (.bipush 109, 2) := by decide +kernel
theorem dX9_init_551 : decode cX9_init 551 = .ok (.iastore, 1) := by decide +kernel
theorem dX9_init_552 : decode cX9_init 552 = .ok (.dup, 1) := by decide +kernel
theorem dX9_init_553 : decode cX9_init 553 = .ok (.bipush 90, 2) := by decide +kernel
theorem dX9_init_555 : decode cX9_init 555 = .ok (.bipush 97, 2) := by decide +kernel
theorem dX9_init_557 : decode cX9_init 557 = .ok (.iastore, 1) := by decide +kernel
theorem dX9_init_558 : decode cX9_init 558 = .ok (.dup, 1) := by decide +kernel
theorem dX9_init_559 : decode cX9_init 559 = .ok (.bipush 91, 2) := by decide +kernel
theorem dX9_init_561 : decode cX9_init 561 = .ok (.bipush 114, 2) := by decide +kernel
theorem dX9_init_563 : decode cX9_init 563 = .ok (.iastore, 1) := by decide +kernel
theorem dX9_init_564 : decode cX9_init 564 = .ok (.dup, 1) := by decide +kernel
theorem dX9_init_565 : decode cX9_init 565 = .ok (.bipush 92, 2) := by decide +kernel
theorem dX9_init_567 : decode cX9_init 567 = .ok (.bipush 107, 2) := by decide +kernel
theorem dX9_init_569 : decode cX9_init 569 = .ok (.iastore, 1) := by decide +kernel
theorem dX9_init_570 : decode cX9_init 570 = .ok (.dup, 1) := by decide +kernel
theorem dX9_init_571 : decode cX9_init 571 = .ok (.bipush 93, 2) := by decide +kernel
theorem dX9_init_573 : decode cX9_init 573 = .ok (.bipush 115, 2) := by decide +kernel
theorem dX9_init_575 : decode cX9_init 575 = .ok (.iastore, 1) := by decide +kernel
theorem dX9_init_576 : decode cX9_init 576 = .ok (.dup, 1) := by decide +kernel
theorem dX9_init_577 : decode cX9_init 577 = .ok (.bipush 94, 2) := by decide +kernel
theorem dX9_init_579 : decode cX9_init 579 = .ok (.bipush 32, 2) := by decide +kernel
theorem dX9_init_581 : decode cX9_init 581 = .ok (.iastore, 1) := by decide +kernel
theorem dX9_init_582 : decode cX9_init 582 = .ok (.dup, 1) := by decide +kernel
theorem dX9_init_583 : decode cX9_init 583 = .ok (.bipush 95, 2) := by decide +kernel
theorem dX9_init_585 : decode cX9_init 585 = .ok (.bipush 116, 2) := by decide +kernel
theorem dX9_init_587 : decode cX9_init 587 = .ok (.iastore, 1) := by decide +kernel
theorem dX9_init_588 : decode cX9_init 588 = .ok (.dup, 1) := by decide +kernel
theorem dX9_init_589 : decode cX9_init 589 = .ok (.bipush 96, 2) := by decide +kernel
theorem dX9_init_591 : decode cX9_init 591 = .ok (.bipush 104, 2) := by decide +kernel
theorem dX9_init_593 : decode cX9_init 593 = .ok (.iastore, 1) := by decide +kernel
theorem dX9_init_594 : decode cX9_init 594 = .ok (.dup, 1) := by decide +kernel
theorem dX9_init_595 : decode cX9_init 595 = .ok (.bipush 97, 2) := by decide +kernel
theorem dX9_init_597 : decode cX9_init 597 = .ok (.bipush 101, 2) := by decide +kernel
theorem dX9_init_599 : decode cX9_init 599 = .ok (.iastore, 1) := by decide +kernel
theorem dX9_init_600 : decode cX9_init 600 = .ok (.dup, 1) := by decide +kernel
theorem dX9_init_601 : decode cX9_init 601 = .ok (.bipush 98, 2) := by decide +kernel
theorem dX9_init_603 : decode cX9_init 603 = .ok (.bipush 114, 2) := by decide +kernel
theorem dX9_init_605 : decode cX9_init 605 = .ok (.iastore, 1) := by decide +kernel
theorem dX9_init_606 : decode cX9_init 606 = .ok (.dup, 1) := by decide +kernel
theorem dX9_init_607 : decode cX9_init 607 = .ok (.bipush 99, 2) := by decide +kernel
theorem dX9_init_609 : decode cX9_init 609 = .ok (.bipush 101, 2) := by decide +kernel
theorem dX9_init_611 : decode cX9_init 611 = .ok (.iastore, 1) := by decide +kernel
theorem dX9_init_612 : decode cX9_init 612 = .ok (.dup, 1) := by decide +kernel
theorem dX9_init_613 : decode cX9_init 613 = .ok (.bipush 100, 2) := by decide +kernel
theorem dX9_init_615 : decode cX9_init 615 = .ok (.bipush 32, 2) := by decide +kernel
theorem dX9_init_617 : decode cX9_init 617 = .ok (.iastore, 1) := by decide +kernel
theorem dX9_init_618 : decode cX9_init 618 = .ok (.dup, 1) := by decide +kernel
theorem dX9_init_619 : decode cX9_init 619 = .ok (.bipush 101, 2) := by decide +kernel
theorem dX9_init_621 : decode cX9_init 621 = .ok (.bipush 115, 2) := by decide +kernel
theorem dX9_init_623 : decode cX9_init 623 = .ok (.iastore, 1) := by decide +kernel
theorem dX9_init_624 : decode cX9_init 624 = .ok (.dup, 1) := by decide +kernel
theorem dX9_init_625 : decode cX9_init 625 = .ok (.bipush 102, 2) := by decide +kernel
theorem dX9_init_627 : decode cX9_init 627 = .ok (.bipush 116, 2) := by decide +kernel
theorem dX9_init_629 : decode cX9_init 629 = .ok (.iastore, 1) := by decide +kernel
theorem dX9_init_630 : decode cX9_init 630 = .ok (.dup, 1) := by decide +kernel
theorem dX9_init_631 : decode cX9_init 631 = .ok (.bipush 103, 2) := by decide +kernel
theorem dX9_init_633 : decode cX9_init 633 = .ok (.bipush 101, 2) := by decide +kernel
theorem dX9_init_635 : decode cX9_init 635 = .ok (.iastore, 1) := by decide +kernel
theorem dX9_init_636 : decode cX9_init 636 = .ok (.dup, 1) := by decide +kernel
theorem dX9_init_637 : decode cX9_init 637 = .ok (.bipush 104, 2) := by decide +kernel
theorem dX9_init_639 : decode cX9_init 639 = .ok (.bipush 112, 2) := by decide +kernel
theorem dX9_init_641 : decode cX9_init 641 = .ok (.iastore, 1) := by decide +kernel
theorem dX9_init_642 : decode cX9_init 642 = .ok (.dup, 1) := by decide +kernel
theorem dX9_init_643 : decode cX9_init 643 = .ok (.bipush 105, 2) := by decide +kernel
theorem dX9_init_645 : decode cX9_init 645 = .ok (.bipush 32, 2) := by decide +kernel
theorem dX9_init_647 : decode cX9_init 647 = .ok (.iastore, 1) := by decide +kernel
theorem dX9_init_648 : decode cX9_init 648 = .ok (.putfield 13, 3) := by decide +kernel
theorem dX9_init_651 : decode cX9_init 651 = .ok (.aload_n 0, 1) := by decide +kernel
theorem dX9_init_652 : decode cX9_init 652 = .ok (.iconst (-1), 1) := by decide +kernel
theorem dX9_init_653 : decode cX9_init 653 = .ok (.putfield 16, 3) := by decide +kernel
theorem dX9_init_656 : decode cX9_init 656 = .ok (.aload_n 0, 1) := by decide +kernel
theorem dX9_init_657 : decode cX9_init 657 = .ok (.iconst 3, 1) := by decide +kernel
theorem dX9_init_658 : decode cX9_init 658 = .ok (.newarray .boolean, 2) := by decide +kernel
theorem dX9_init_660 : decode cX9_init 660 = .ok (.putfield 20, 3) := by decide +kernel
theorem dX9_init_663 : decode cX9_init 663 = .ok (.aload_n 0, 1) := by decide +kernel
theorem dX9_init_664 : decode cX9_init 664 = .ok (.bipush 6, 2) := by decide +kernel
theorem dX9_init_666 : decode cX9_init 666 = .ok (.newarray .int, 2) := by decide +kernel
theorem dX9_init_668 : decode cX9_init 668 = .ok (.putfield 24, 3) := by decide +kernel
theorem dX9_init_671 : decode cX9_init 671 = .ok (.aload_n 0, 1) := by decide +kernel
theorem dX9_init_672 : decode cX9_init 672 = .ok (.bipush 12, 2) := by decide +kernel
theorem dX9_init_674 : decode cX9_init 674 = .ok (.newarray .int, 2) := by decide +kernel
theorem dX9_init_676 : decode cX9_init 676 = .ok (.putfield 27, 3) := by decide +kernel
theorem dX9_init_679 : decode cX9_init 679 = .ok (.aload_n 0, 1) := by decide +kernel
theorem dX9_init_680 : decode cX9_init 680 = .ok (.bipush 12, 2) := by decide +kernel
theorem dX9_init_682 : decode cX9_init 682 = .ok (.newarray .int, 2) := by decide +kernel
theorem dX9_init_684 : decode cX9_init 684 = .ok (.putfield 30, 3) := by decide +kernel
theorem dX9_init_687 : decode cX9_init 687 = .ok (.aload_n 0, 1) := by decide +kernel
theorem dX9_init_688 : decode cX9_init 688 = .ok (.bipush 12, 2) := by decide +kernel
theorem dX9_init_690 : decode cX9_init 690 = .ok (.newarray .int, 2) := by decide +kernel
theorem dX9_init_692 : decode cX9_init 692 = .ok (.putfield 33, 3) := by decide +kernel
theorem dX9_init_695 : decode cX9_init 695 = .ok (.aload_n 0, 1) := by decide +kernel
theorem dX9_init_696 : decode cX9_init 696 = .ok (.bipush 12, 2) := by decide +kernel
theorem dX9_init_698 : decode cX9_init 698 = .ok (.newarray .int, 2) := by decide +kernel
theorem dX9_init_700 : decode cX9_init 700 = .ok (.putfield 36, 3) := by decide +kernel
theorem dX9_init_703 : decode cX9_init 703 = .ok (.aload_n 0, 1) := by decide +kernel
theorem dX9_init_704 : decode cX9_init 704 = .ok (.bipush 16, 2) := by decide +kernel
theorem dX9_init_706 : decode cX9_init 706 = .ok (.newarray .int, 2) := by decide +kernel
theorem dX9_init_708 : decode cX9_init 708 = .ok (.putfield 39, 3) := by decide +kernel
theorem dX9_init_711 : decode cX9_init 711 = .ok (.aload_n 0, 1) := by decide +kernel
theorem dX9_init_712 : decode cX9_init 712 = .ok (.bipush 16, 2) := by decide +kernel
theorem dX9_init_714 : decode cX9_init 714 = .ok (.newarray .int, 2) := by decide +kernel
theorem dX9_init_716 : decode cX9_init 716 = .ok (.putfield 42, 3) := by decide +kernel
theorem dX9_init_719 : decode cX9_init 719 = .ok (.aload_n 0, 1) := by decide +kernel
theorem dX9_init_720 : decode cX9_init 720 = .ok (.bipush 16, 2) := by decide +kernel
theorem dX9_init_722 : decode cX9_init 722 = .ok (.newarray .int, 2) := by decide +kernel
theorem dX9_init_724 : decode cX9_init 724 = .ok (.putfield 45, 3) := by decide +kernel
theorem dX9_init_727 : decode cX9_init 727 = .ok (.aload_n 0, 1) := by decide +kernel
theorem dX9_init_728 : decode cX9_init 728 = .ok (.bipush 16, 2) := by decide +kernel
theorem dX9_init_730 : decode cX9_init 730 = .ok (.newarray .int, 2) := by decide +kernel
theorem dX9_init_732 : decode cX9_init 732 = .ok (.putfield 48, 3) := by decide +kernel
theorem dX9_init_735 : decode cX9_init 735 = .ok (.aload_n 0, 1) := by decide +kernel
theorem dX9_init_736 : decode cX9_init 736 = .ok (.bipush 16, 2) := by decide +kernel
theorem dX9_init_738 : decode cX9_init 738 = .ok (.newarray .int, 2) := by decide +kernel
theorem dX9_init_740 : decode cX9_init 740 = .ok (.putfield 51, 3) := by decide +kernel
theorem dX9_init_743 : decode cX9_init 743 = .ok (.aload_n 0, 1) := by decide +kernel
theorem dX9_init_744 : decode cX9_init 744 = .ok (.bipush 6, 2) := by decide +kernel
theorem dX9_init_746 : decode cX9_init 746 = .ok (.newarray .boolean, 2) := by decide +kernel
theorem dX9_init_748 : decode cX9_init 748 = .ok (.putfield 54, 3) := by decide +kernel
theorem dX9_init_751 : decode cX9_init 751 = .ok (.aload_n 0, 1) := by decide +kernel
theorem dX9_init_752 : decode cX9_init 752 = .ok (.bipush 6, 2) := by decide +kernel
theorem dX9_init_754 : decode cX9_init 754 = .ok (.newarray .int, 2) := by decide +kernel
theorem dX9_init_756 : decode cX9_init 756 = .ok (.putfield 57, 3) := by decide +kernel
theorem dX9_init_759 : decode cX9_init 759 = .ok (.aload_n 0, 1) := by decide +kernel
theorem dX9_init_760 : decode cX9_init 760 = .ok (.bipush 6, 2) := by decide +kernel
theorem dX9_init_762 : decode cX9_init 762 = .ok (.newarray .int, 2) := by decide +kernel
theorem dX9_init_764 : decode cX9_init 764 = .ok (.putfield 60, 3) := by decide +kernel
theorem dX9_init_767 : decode cX9_init 767 = .ok (.aload_n 0, 1) := by decide +kernel
theorem dX9_init_768 : decode cX9_init 768 = .ok (.sipush 128, 3) := by decide +kernel
theorem dX9_init_771 : decode cX9_init 771 = .ok (.newarray .int, 2) := by decide +kernel
theorem dX9_init_773 : decode cX9_init 773 = .ok (.putfield 63, 3) := by decide +kernel
theorem dX9_init_776 : decode cX9_init 776 = .ok (.aload_n 0, 1) := by decide +kernel
theorem dX9_init_777 : decode cX9_init 777 = .ok (.iconst 1, 1) := by decide +kernel
theorem dX9_init_778 : decode cX9_init 778 = .ok (.newarray .int, 2) := by decide +kernel
theorem dX9_init_780 : decode cX9_init 780 = .ok (.putfield 66, 3) := by decide +kernel
theorem dX9_init_783 : decode cX9_init 783 = .ok (.aload_n 0, 1) := by decide +kernel
theorem dX9_init_784 : decode cX9_init 784 = .ok (.sipush 128, 3) := by decide +kernel
theorem dX9_init_787 : decode cX9_init 787 = .ok (.newarray .int, 2) := by decide +kernel
theorem dX9_init_789 : decode cX9_init 789 = .ok (.putfield 69, 3) := by decide +kernel
theorem dX9_init_792 : decode cX9_init 792 = .ok (.aload_n 0, 1) := by decide +kernel
theorem dX9_init_793 : decode cX9_init 793 = .ok (.sipush 128, 3) := by decide +kernel
theorem dX9_init_796 : decode cX9_init 796 = .ok (.newarray .int, 2) := by decide +kernel
theorem dX9_init_798 : decode cX9_init 798 = .ok (.putfield 72, 3) := by decide +kernel
theorem dX9_init_801 : decode cX9_init 801 = .ok (.aload_n 0, 1) := by decide +kernel
theorem dX9_init_802 : decode cX9_init 802 = .ok (.bipush 96, 2) := by decide +kernel
theorem dX9_init_804 : decode cX9_init 804 = .ok (.newarray .int, 2) := by decide +kernel
theorem dX9_init_806 : decode cX9_init 806 = .ok (.putfield 75, 3) := by decide +kernel
theorem dX9_init_809 : decode cX9_init 809 = .ok (.aload_n 0, 1) := by decide +kernel
theorem dX9_init_810 : decode cX9_init 810 = .ok (.bipush 96, 2) := by decide +kernel
theorem dX9_init_812 : decode cX9_init 812 = .ok (.newarray .int, 2) := by decide +kernel
theorem dX9_init_814 : decode cX9_init 814 = .ok (.putfield 78, 3) := by decide +kernel
theorem dX9_init_817 : decode cX9_init 817 = .ok (.aload_n 0, 1) := by decide +kernel
theorem dX9_init_818 : decode cX9_init 818 = .ok (.bipush 7, 2) := by decide +kernel
theorem dX9_init_820 : decode cX9_init 820 = .ok (.newarray .long, 2) := by decide +kernel
theorem dX9_init_822 : decode cX9_init 822 = .ok (.putfield 81, 3) := by decide +kernel
theorem dX9_init_825 : decode cX9_init 825 = .ok (.aload_n 0, 1) := by decide +kernel
theorem dX9_init_826 : decode cX9_init 826 = .ok (.bipush 64, 2) := by decide +kernel
theorem dX9_init_828 : decode cX9_init 828 = .ok (.newarray .long, 2) := by decide +kernel
theorem dX9_init_830 : decode cX9_init 830 = .ok (.putfield 85, 3) := by decide +kernel
theorem dX9_init_833 : decode cX9_init 833 = .ok (.aload_n 0, 1) := by decide +kernel
theorem dX9_init_834 : decode cX9_init 834 = .ok (.bipush 12, 2) := by decide +kernel
theorem dX9_init_836 : decode cX9_init 836 = .ok (.newarray .int, 2) := by decide +kernel
theorem dX9_init_838 : decode cX9_init 838 = .ok (.putfield 88, 3) := by decide +kernel
theorem dX9_init_841 : decode cX9_init 841 = .ok (.aload_n 0, 1) := by decide +kernel
theorem dX9_init_842 : decode cX9_init 842 = .ok (.bipush 12, 2) := by decide +kernel
theorem dX9_init_844 : decode cX9_init 844 = .ok (.newarray .int, 2) := by decide +kernel
theorem dX9_init_846 : decode cX9_init 846 = .ok (.putfield 91, 3) := by decide +kernel
theorem dX9_init_849 : decode cX9_init 849 = .ok (.aload_n 0, 1) := by decide +kernel
theorem dX9_init_850 : decode cX9_init 850 = .ok (.bipush 12, 2) := by decide +kernel
theorem dX9_init_852 : decode cX9_init 852 = .ok (.newarray .int, 2) := by decide +kernel
theorem dX9_init_854 : decode cX9_init 854 = .ok (.putfield 94, 3) := by decide +kernel
theorem dX9_init_857 : decode cX9_init 857 = .ok (.aload_n 0, 1) := by decide +kernel
theorem dX9_init_858 : decode cX9_init 858 = .ok (.bipush 12, 2) := by decide +kernel
theorem dX9_init_860 : decode cX9_init 860 = .ok (.newarray .boolean, 2) := by decide +kernel
theorem dX9_init_862 : decode cX9_init 862 = .ok (.putfield 97, 3) := by decide +kernel
theorem dX9_init_865 : decode cX9_init 865 = .ok (.aload_n 0, 1) := by decide +kernel
theorem dX9_init_866 : decode cX9_init 866 = .ok (.bipush 12, 2) := by decide +kernel
theorem dX9_init_868 : decode cX9_init 868 = .ok (.newarray .int, 2) := by decide +kernel
theorem dX9_init_870 : decode cX9_init 870 = .ok (.putfield 100, 3) := by decide +kernel
theorem dX9_init_873 : decode cX9_init 873 = .ok (.aload_n 0, 1) := by decide +kernel
theorem dX9_init_874 : decode cX9_init 874 = .ok (.bipush 16, 2) := by decide +kernel
theorem dX9_init_876 : decode cX9_init 876 = .ok (.newarray .int, 2) := by decide +kernel
theorem dX9_init_878 : decode cX9_init 878 = .ok (.putfield 103, 3) := by decide +kernel
theorem dX9_init_881 : decode cX9_init 881 = .ok (.aload_n 0, 1) := by decide +kernel
theorem dX9_init_882 : decode cX9_init 882 = .ok (.bipush 16, 2) := by decide +kernel
theorem dX9_init_884 : decode cX9_init 884 = .ok (.newarray .boolean, 2) := by decide +kernel
theorem dX9_init_886 : decode cX9_init 886 = .ok (.putfield 106, 3) := by decide +kernel
theorem dX9_init_889 : decode cX9_init 889 = .ok (.aload_n 0, 1) := by decide +kernel
theorem dX9_init_890 : decode cX9_init 890 = .ok (.bipush 16, 2) := by decide +kernel
theorem dX9_init_892 : decode cX9_init 892 = .ok (.newarray .int, 2) := by decide +kernel
theorem dX9_init_894 : decode cX9_init 894 = .ok (.putfield 109, 3) := by decide +kernel
theorem dX9_init_897 : decode cX9_init 897 = .ok (.aload_n 0, 1) := by decide +kernel
theorem dX9_init_898 : decode cX9_init 898 = .ok (.iconst 2, 1) := by decide +kernel
theorem dX9_init_899 : decode cX9_init 899 = .ok (.newarray .int, 2) := by decide +kernel
theorem dX9_init_901 : decode cX9_init 901 = .ok (.putfield 112, 3) := by decide +kernel
theorem dX9_init_904 : decode cX9_init 904 = .ok (.aload_n 0, 1) := by decide +kernel
theorem dX9_init_905 : decode cX9_init 905 = .ok (.bipush 6, 2) := by decide +kernel
theorem dX9_init_907 : decode cX9_init 907 = .ok (.newarray .int, 2) := by decide +kernel
theorem dX9_init_909 : decode cX9_init 909 = .ok (.putfield 115, 3) := by decide +kernel
theorem dX9_init_912 : decode cX9_init 912 = .ok (.aload_n 0, 1) := by decide +kernel
theorem dX9_init_913 : decode cX9_init 913 = .ok (.iconst (-1), 1) := by decide +kernel
theorem dX9_init_914 : decode cX9_init 914 = .ok (.putfield 118, 3) := by decide +kernel
theorem dX9_init_917 : decode cX9_init 917 = .ok (.aload_n 0, 1) := by decide +kernel
theorem dX9_init_918 : decode cX9_init 918 = .ok (.bipush 96, 2) := by decide +kernel
theorem dX9_init_920 : decode cX9_init 920 = .ok (.newarray .int, 2) := by decide +kernel
theorem dX9_init_922 : decode cX9_init 922 = .ok (.putfield 121, 3) := by decide +kernel
theorem dX9_init_925 : decode cX9_init 925 = .ok (.aload_n 0, 1) := by decide +kernel
theorem dX9_init_926 : decode cX9_init 926 = .ok (.bipush 24, 2) := by decide +kernel
theorem dX9_init_928 : decode cX9_init 928 = .ok (.newarray .boolean, 2) := by decide +kernel
theorem dX9_init_930 : decode cX9_init 930 = .ok (.putfield 124, 3) := by decide +kernel
theorem dX9_init_933 : decode cX9_init 933 = .ok (.aload_n 0, 1) := by decide +kernel
theorem dX9_init_934 : decode cX9_init 934 = .ok (.sipush 360, 3) := by decide +kernel
theorem dX9_init_937 : decode cX9_init 937 = .ok (.newarray .int, 2) := by decide +kernel
theorem dX9_init_939 : decode cX9_init 939 = .ok (.putfield 127, 3) := by decide +kernel
theorem dX9_init_942 : decode cX9_init 942 = .ok (.aload_n 0, 1) := by decide +kernel
theorem dX9_init_943 : decode cX9_init 943 = .ok (.bipush 18, 2) := by decide +kernel
theorem dX9_init_945 : decode cX9_init 945 = .ok (.newarray .int, 2) := by decide +kernel
theorem dX9_init_947 : decode cX9_init 947 = .ok (.putfield 130, 3) := by decide +kernel
theorem dX9_init_950 : decode cX9_init 950 = .ok (.aload_n 0, 1) := by decide +kernel
theorem dX9_init_951 : decode cX9_init 951 = .ok (.bipush 37, 2) := by decide +kernel
theorem dX9_init_953 : decode cX9_init 953 = .ok (.newarray .int, 2) := by decide +kernel
theorem dX9_init_955 : decode cX9_init 955 = .ok (.putfield 133, 3) := by decide +kernel
theorem dX9_init_958 : decode cX9_init 958 = .ok (.aload_n 0, 1) := by decide +kernel
theorem dX9_init_959 : decode cX9_init 959 = .ok (.invokevirtual 136, 3) := by decide +kernel
theorem dX9_init_962 : decode cX9_init 962 = .ok (.aload_n 0, 1) := by decide +kernel
theorem dX9_init_963 : decode cX9_init 963 = .ok (.invokevirtual 139, 3) := by decide +kernel
theorem dX9_init_966 : decode cX9_init 966 = .ok (.return_, 1) := by decide +kernel
theorem dX9_thrown_0 : decode cX9_thrown 0 = .ok (.aload_n 0, 1) := by decide +kernel
theorem dX9_thrown_1 : decode cX9_thrown 1 = .ok (.getfield 142, 3) := by decide +kernel
theorem dX9_thrown_4 : decode cX9_thrown 4 = .ok (.ireturn, 1) := by decide +kernel
theorem dX9_feed_0 : decode cX9_feed 0 = .ok (.aload_n 0, 1) := by decide +kernel
theorem dX9_feed_1 : decode cX9_feed 1 = .ok (.iconst 0, 1) := by decide +kernel
theorem dX9_feed_2 : decode cX9_feed 2 = .ok (.putfield 142, 3) := by decide +kernel
theorem dX9_feed_5 : decode cX9_feed 5 = .ok (.aload_n 0, 1) := by decide +kernel
theorem dX9_feed_6 : decode cX9_feed 6 = .ok (.getfield 145, 3) := by decide +kernel
theorem dX9_feed_9 : decode cX9_feed 9 = .ok (.bipush 20, 2) := by decide +kernel
theorem dX9_feed_11 : decode cX9_feed 11 = .ok (.iadd, 1) := by decide +kernel
theorem dX9_feed_12 : decode cX9_feed 12 = .ok (.sipush 700, 3) := by decide +kernel
theorem dX9_feed_15 : decode cX9_feed 15 = .ok (.if_icmp .le 5, 3) := by decide +kernel
theorem dX9_feed_18 : decode cX9_feed 18 = .ok (.iconst (-1), 1) := by decide +kernel
theorem dX9_feed_19 : decode cX9_feed 19 = .ok (.ireturn, 1) := by decide +kernel
theorem dX9_feed_20 : decode cX9_feed 20 = .ok (.iconst 0, 1) := by decide +kernel
theorem dX9_feed_21 : decode cX9_feed 21 = .ok (.istore 6, 2) := by decide +kernel
theorem dX9_feed_23 : decode cX9_feed 23 = .ok (.iload 6, 2) := by decide +kernel
theorem dX9_feed_25 : decode cX9_feed 25 = .ok (.bipush 20, 2) := by decide +kernel
theorem dX9_feed_27 : decode cX9_feed 27 = .ok (.if_icmp .ge 86, 3) := by decide +kernel
theorem dX9_feed_30 : decode cX9_feed 30 = .ok (.iload 6, 2) := by decide +kernel
theorem dX9_feed_32 : decode cX9_feed 32 = .ok (.iconst 4, 1) := by decide +kernel
theorem dX9_feed_33 : decode cX9_feed 33 = .ok (.if_icmp .ge 7, 3) := by decide +kernel
theorem dX9_feed_36 : decode cX9_feed 36 = .ok (.iload_n 1, 1) := by decide +kernel
theorem dX9_feed_37 : decode cX9_feed 37 = .ok (.goto 39, 3) := by decide +kernel
theorem dX9_feed_40 : decode cX9_feed 40 = .ok (.iload 6, 2) := by decide +kernel
theorem dX9_feed_42 : decode cX9_feed 42 = .ok (.bipush 8, 2) := by decide +kernel
theorem dX9_feed_44 : decode cX9_feed 44 = .ok (.if_icmp .ge 7, 3) := by decide +kernel
theorem dX9_feed_47 : decode cX9_feed 47 = .ok (.iload_n 2, 1) := by decide +kernel
theorem dX9_feed_48 : decode cX9_feed 48 = .ok (.goto 28, 3) := by decide +kernel
theorem dX9_feed_51 : decode cX9_feed 51 = .ok (.iload 6, 2) := by decide +kernel
theorem dX9_feed_53 : decode cX9_feed 53 = .ok (.bipush 12, 2) := by decide +kernel
theorem dX9_feed_55 : decode cX9_feed 55 = .ok (.if_icmp .ge 7, 3) := by decide +kernel
theorem dX9_feed_58 : decode cX9_feed 58 = .ok (.iload_n 3, 1) := by decide +kernel
theorem dX9_feed_59 : decode cX9_feed 59 = .ok (.goto 17, 3) := by decide +kernel
theorem dX9_feed_62 : decode cX9_feed 62 = .ok (.iload 6, 2) := by decide +kernel
theorem dX9_feed_64 : decode cX9_feed 64 = .ok (.bipush 16, 2) := by decide +kernel
theorem dX9_feed_66 : decode cX9_feed 66 = .ok (.if_icmp .ge 8, 3) := by decide +kernel
theorem dX9_feed_69 : decode cX9_feed 69 = .ok (.iload 4, 2) := by decide +kernel
theorem dX9_feed_71 : decode cX9_feed 71 = .ok (.goto 5, 3) := by decide +kernel
theorem dX9_feed_74 : decode cX9_feed 74 = .ok (.iload 5, 2) := by decide +kernel
theorem dX9_feed_76 : decode cX9_feed 76 = .ok (.istore 7, 2) := by decide +kernel
theorem dX9_feed_78 : decode cX9_feed 78 = .ok (.aload_n 0, 1) := by decide +kernel
theorem dX9_feed_79 : decode cX9_feed 79 = .ok (.getfield 7, 3) := by decide +kernel
theorem dX9_feed_82 : decode cX9_feed 82 = .ok (.aload_n 0, 1) := by decide +kernel
theorem dX9_feed_83 : decode cX9_feed 83 = .ok (.getfield 145, 3) := by decide +kernel
theorem dX9_feed_86 : decode cX9_feed 86 = .ok (.iload 6, 2) := by decide +kernel
theorem dX9_feed_88 : decode cX9_feed 88 = .ok (.iadd, 1) := by decide +kernel
theorem dX9_feed_89 : decode cX9_feed 89 = .ok (.iload 7, 2) := by decide +kernel
theorem dX9_feed_91 : decode cX9_feed 91 = .ok (.bipush 24, 2) := by decide +kernel
theorem dX9_feed_93 : decode cX9_feed 93 = .ok (.bipush 8, 2) := by decide +kernel
theorem dX9_feed_95 : decode cX9_feed 95 = .ok (.iload 6, 2) := by decide +kernel
theorem dX9_feed_97 : decode cX9_feed 97 = .ok (.iconst 4, 1) := by decide +kernel
theorem dX9_feed_98 : decode cX9_feed 98 = .ok (.irem, 1) := by decide +kernel
theorem dX9_feed_99 : decode cX9_feed 99 = .ok (.imul, 1) := by decide +kernel
theorem dX9_feed_100 : decode cX9_feed 100 = .ok (.isub, 1) := by decide +kernel
theorem dX9_feed_101 : decode cX9_feed 101 = .ok (.ishr, 1) := by decide +kernel
theorem dX9_feed_102 : decode cX9_feed 102 = .ok (.sipush 255, 3) := by decide +kernel
theorem dX9_feed_105 : decode cX9_feed 105 = .ok (.iand, 1) := by decide +kernel
theorem dX9_feed_106 : decode cX9_feed 106 = .ok (.iastore, 1) := by decide +kernel
theorem dX9_feed_107 : decode cX9_feed 107 = .ok (.iinc 6 1, 3) := by decide +kernel
theorem dX9_feed_110 : decode cX9_feed 110 = .ok (.goto (-87), 3) := by decide +kernel
theorem dX9_feed_113 : decode cX9_feed 113 = .ok (.aload_n 0, 1) := by decide +kernel
theorem dX9_feed_114 : decode cX9_feed 114 = .ok (.dup, 1) := by decide +kernel
theorem dX9_feed_115 : decode cX9_feed 115 = .ok (.getfield 145, 3) := by decide +kernel
theorem dX9_feed_118 : decode cX9_feed 118 = .ok (.bipush 20, 2) := by decide +kernel
theorem dX9_feed_120 : decode cX9_feed 120 = .ok (.iadd, 1) := by decide +kernel
theorem dX9_feed_121 : decode cX9_feed 121 = .ok (.putfield 145, 3) := by decide +kernel
theorem dX9_feed_124 : decode cX9_feed 124 = .ok (.aload_n 0, 1) := by decide +kernel
theorem dX9_feed_125 : decode cX9_feed 125 = .ok (.getfield 145, 3) := by decide +kernel
theorem dX9_feed_128 : decode cX9_feed 128 = .ok (.ireturn, 1) := by decide +kernel
theorem dX9_isIn_0 : decode cX9_isIn 0 = .ok (.iload_n 0, 1) := by decide +kernel
theorem dX9_isIn_1 : decode cX9_isIn 1 = .ok (.iload_n 1, 1) := by decide +kernel
theorem dX9_isIn_2 : decode cX9_isIn 2 = .ok (.if_icmp .lt 12, 3) := by decide +kernel
theorem dX9_isIn_5 : decode cX9_isIn 5 = .ok (.iload_n 0, 1) := by decide +kernel
theorem dX9_isIn_6 : decode cX9_isIn 6 = .ok (.iload_n 2, 1) := by decide +kernel
theorem dX9_isIn_7 : decode cX9_isIn 7 = .ok (.if_icmp .gt 7, 3) := by decide +kernel
theorem dX9_isIn_10 : decode cX9_isIn 10 = .ok (.iconst 1, 1) := by decide +kernel
theorem dX9_isIn_11 : decode cX9_isIn 11 = .ok (.goto 4, 3) := by decide +kernel
theorem dX9_isIn_14 : decode cX9_isIn 14 = .ok (.iconst 0, 1) := by decide +kernel
theorem dX9_isIn_15 : decode cX9_isIn 15 = .ok (.ireturn, 1) := by decide +kernel
theorem dX9_isOf_0 : decode cX9_isOf 0 = .ok (.iload_n 0, 1) := by decide +kernel
theorem dX9_isOf_1 : decode cX9_isOf 1 = .ok (.iload_n 1, 1) := by decide +kernel
theorem dX9_isOf_2 : decode cX9_isOf 2 = .ok (.ishr, 1) := by decide +kernel
theorem dX9_isOf_3 : decode cX9_isOf 3 = .ok (.iconst 1, 1) := by decide +kernel
theorem dX9_isOf_4 : decode cX9_isOf 4 = .ok (.iand, 1) := by decide +kernel
theorem dX9_isOf_5 : decode cX9_isOf 5 = .ok (.iconst 1, 1) := by decide +kernel
theorem dX9_isOf_6 : decode cX9_isOf 6 = .ok (.if_icmp .ne 7, 3) := by decide +kernel
theorem dX9_isOf_9 : decode cX9_isOf 9 = .ok (.iconst 1, 1) := by decide +kernel
theorem dX9_isOf_10 : decode cX9_isOf 10 = .ok (.goto 4, 3) := by decide +kernel
theorem dX9_isOf_13 : decode cX9_isOf 13 = .ok (.iconst 0, 1) := by decide +kernel
theorem dX9_isOf_14 : decode cX9_isOf 14 = .ok (.ireturn, 1) := by decide +kernel
theorem dX9_wrong_0 : decode cX9_wrong 0 = .ok (.aload_n 0, 1) := by decide +kernel
theorem dX9_wrong_1 : decode cX9_wrong 1 = .ok (.iload_n 1, 1) := by decide +kernel
theorem dX9_wrong_2 : decode cX9_wrong 2 = .ok (.putfield 148, 3) := by decide +kernel
theorem dX9_wrong_5 : decode cX9_wrong 5 = .ok (.aload_n 0, 1) := by decide +kernel
theorem dX9_wrong_6 : decode cX9_wrong 6 = .ok (.aload_n 0, 1) := by decide +kernel
theorem dX9_wrong_7 : decode cX9_wrong 7 = .ok (.getfield 151, 3) := by decide +kernel
theorem dX9_wrong_10 : decode cX9_wrong 10 = .ok (.putfield 16, 3) := by decide +kernel
theorem dX9_wrong_13 : decode cX9_wrong 13 = .ok (.iconst 0, 1) := by decide +kernel
theorem dX9_wrong_14 : decode cX9_wrong 14 = .ok (.ireturn, 1) := by decide +kernel
theorem dX9_wordAt_0 : decode cX9_wordAt 0 = .ok (.iconst 0, 1) := by decide +kernel
theorem dX9_wordAt_1 : decode cX9_wordAt 1 = .ok (.istore_n 3, 1) := by decide +kernel
theorem dX9_wordAt_2 : decode cX9_wordAt 2 = .ok (.iconst 0, 1) := by decide +kernel
theorem dX9_wordAt_3 : decode cX9_wordAt 3 = .ok (.istore 4, 2) := by decide +kernel
theorem dX9_wordAt_5 : decode cX9_wordAt 5 = .ok (.iload 4, 2) := by decide +kernel
theorem dX9_wordAt_7 : decode cX9_wordAt 7 = .ok (.aload_n 0, 1) := by decide +kernel
theorem dX9_wordAt_8 : decode cX9_wordAt 8 = .ok (.getfield 13, 3) := by decide +kernel
theorem dX9_wordAt_11 : decode cX9_wordAt 11 = .ok (.arraylength, 1) := by decide +kernel
theorem dX9_wordAt_12 : decode cX9_wordAt 12 = .ok (.if_icmp .ge 114, 3) := by decide +kernel
theorem dX9_wordAt_15 : decode cX9_wordAt 15 = .ok (.iconst 0, 1) := by decide +kernel
theorem dX9_wordAt_16 : decode cX9_wordAt 16 = .ok (.istore 5, 2) := by decide +kernel
theorem dX9_wordAt_18 : decode cX9_wordAt 18 = .ok (.aload_n 0, 1) := by decide +kernel
theorem dX9_wordAt_19 : decode cX9_wordAt 19 = .ok (.getfield 13, 3) := by decide +kernel
theorem dX9_wordAt_22 : decode cX9_wordAt 22 = .ok (.iload 4, 2) := by decide +kernel
theorem dX9_wordAt_24 : decode cX9_wordAt 24 = .ok (.iload 5, 2) := by decide +kernel
theorem dX9_wordAt_26 : decode cX9_wordAt 26 = .ok (.iadd, 1) := by decide +kernel
theorem dX9_wordAt_27 : decode cX9_wordAt 27 = .ok (.iaload, 1) := by decide +kernel
theorem dX9_wordAt_28 : decode cX9_wordAt 28 = .ok (.bipush 32, 2) := by decide +kernel
theorem dX9_wordAt_30 : decode cX9_wordAt 30 = .ok (.if_icmp .eq 9, 3) := by decide +kernel
theorem dX9_wordAt_33 : decode cX9_wordAt 33 = .ok (.iinc 5 1, 3) := by decide +kernel
theorem dX9_wordAt_36 : decode cX9_wordAt 36 = .ok (.goto (-18), 3) := by decide +kernel
theorem dX9_wordAt_39 : decode cX9_wordAt 39 = .ok (.iload 5, 2) := by decide +kernel
theorem dX9_wordAt_41 : decode cX9_wordAt 41 = .ok (.iload_n 2, 1) := by decide +kernel
theorem dX9_wordAt_42 : decode cX9_wordAt 42 = .ok (.iload_n 1, 1) := by decide +kernel
theorem dX9_wordAt_43 : decode cX9_wordAt 43 = .ok (.isub, 1) := by decide +kernel
theorem dX9_wordAt_44 : decode cX9_wordAt 44 = .ok (.if_icmp .ne 7, 3) := by decide +kernel
theorem dX9_wordAt_47 : decode cX9_wordAt 47 = .ok (.iconst 1, 1) := by decide +kernel
theorem dX9_wordAt_48 : decode cX9_wordAt 48 = .ok (.goto 4, 3) := by decide +kernel
theorem dX9_wordAt_51 : decode cX9_wordAt 51 = .ok (.iconst 0, 1) := by decide +kernel
theorem dX9_wordAt_52 : decode cX9_wordAt 52 = .ok (.istore 6, 2) := by decide +kernel
theorem dX9_wordAt_54 : decode cX9_wordAt 54 = .ok (.iconst 0, 1) := by decide +kernel
theorem dX9_wordAt_55 : decode cX9_wordAt 55 = .ok (.istore 7, 2) := by decide +kernel
theorem dX9_wordAt_57 : decode cX9_wordAt 57 = .ok (.iload 7, 2) := by decide +kernel
theorem dX9_wordAt_59 : decode cX9_wordAt 59 = .ok (.iload 5, 2) := by decide +kernel
theorem dX9_wordAt_61 : decode cX9_wordAt 61 = .ok (.if_icmp .ge 43, 3) := by decide +kernel
theorem dX9_wordAt_64 : decode cX9_wordAt 64 = .ok (.iload 6, 2) := by decide +kernel
theorem dX9_wordAt_66 : decode cX9_wordAt 66 = .ok (.ifCond .eq 38, 3) := by decide +kernel
theorem dX9_wordAt_69 : decode cX9_wordAt 69 = .ok (.aload_n 0, 1) := by decide +kernel
theorem dX9_wordAt_70 : decode cX9_wordAt 70 = .ok (.getfield 13, 3) := by decide +kernel
theorem dX9_wordAt_73 : decode cX9_wordAt 73 = .ok (.iload 4, 2) := by decide +kernel
theorem dX9_wordAt_75 : decode cX9_wordAt 75 = .ok (.iload 7, 2) := by decide +kernel
theorem dX9_wordAt_77 : decode cX9_wordAt 77 = .ok (.iadd, 1) := by decide +kernel
theorem dX9_wordAt_78 : decode cX9_wordAt 78 = .ok (.iaload, 1) := by decide +kernel
theorem dX9_wordAt_79 : decode cX9_wordAt 79 = .ok (.aload_n 0, 1) := by decide +kernel
theorem dX9_wordAt_80 : decode cX9_wordAt 80 = .ok (.getfield 7, 3) := by decide +kernel
theorem dX9_wordAt_83 : decode cX9_wordAt 83 = .ok (.iload_n 1, 1) := by decide +kernel
theorem dX9_wordAt_84 : decode cX9_wordAt 84 = .ok (.iload 7, 2) := by decide +kernel
theorem dX9_wordAt_86 : decode cX9_wordAt 86 = .ok (.iadd, 1) := by decide +kernel
theorem dX9_wordAt_87 : decode cX9_wordAt 87 = .ok (.iaload, 1) := by decide +kernel
theorem dX9_wordAt_88 : decode cX9_wordAt 88 = .ok (.if_icmp .ne 7, 3) := by decide +kernel
theorem dX9_wordAt_91 : decode cX9_wordAt 91 = .ok (.iconst 1, 1) := by decide +kernel
theorem dX9_wordAt_92 : decode cX9_wordAt 92 = .ok (.goto 4, 3) := by decide +kernel
theorem dX9_wordAt_95 : decode cX9_wordAt 95 = .ok (.iconst 0, 1) := by decide +kernel
theorem dX9_wordAt_96 : decode cX9_wordAt 96 = .ok (.istore 6, 2) := by decide +kernel
theorem dX9_wordAt_98 : decode cX9_wordAt 98 = .ok (.iinc 7 1, 3) := by decide +kernel
theorem dX9_wordAt_101 : decode cX9_wordAt 101 = .ok (.goto (-44), 3) := by decide +kernel
theorem dX9_wordAt_104 : decode cX9_wordAt 104 = .ok (.iload 6, 2) := by decide +kernel
theorem dX9_wordAt_106 : decode cX9_wordAt 106 = .ok (.ifCond .eq 5, 3) := by decide +kernel
theorem dX9_wordAt_109 : decode cX9_wordAt 109 = .ok (.iload_n 3, 1) := by decide +kernel
theorem dX9_wordAt_110 : decode cX9_wordAt 110 = .ok (.ireturn, 1) := by decide +kernel
theorem dX9_wordAt_111 : decode cX9_wordAt 111 = .ok (.iload 4, 2) := by decide +kernel
theorem dX9_wordAt_113 : decode cX9_wordAt 113 = .ok (.iload 5, 2) := by decide +kernel
theorem dX9_wordAt_115 : decode cX9_wordAt 115 = .ok (.iconst 1, 1) := by decide +kernel
theorem dX9_wordAt_116 : decode cX9_wordAt 116 = .ok (.iadd, 1) := by decide +kernel
theorem dX9_wordAt_117 : decode cX9_wordAt 117 = .ok (.iadd, 1) := by decide +kernel
theorem dX9_wordAt_118 : decode cX9_wordAt 118 = .ok (.istore 4, 2) := by decide +kernel
theorem dX9_wordAt_120 : decode cX9_wordAt 120 = .ok (.iinc 3 1, 3) := by decide +kernel
theorem dX9_wordAt_123 : decode cX9_wordAt 123 = .ok (.goto (-118), 3) := by decide +kernel
theorem dX9_wordAt_126 : decode cX9_wordAt 126 = .ok (.iconst (-1), 1) := by decide +kernel
theorem dX9_wordAt_127 : decode cX9_wordAt 127 = .ok (.ireturn, 1) := by decide +kernel
theorem dX9_isSmall_0 : decode cX9_isSmall 0 = .ok (.iload_n 1, 1) := by decide +kernel
theorem dX9_isSmall_1 : decode cX9_isSmall 1 = .ok (.aload_n 0, 1) := by decide +kernel
theorem dX9_isSmall_2 : decode cX9_isSmall 2 = .ok (.getfield 154, 3) := by decide +kernel
theorem dX9_isSmall_5 : decode cX9_isSmall 5 = .ok (.if_icmp .ge 29, 3) := by decide +kernel
theorem dX9_isSmall_8 : decode cX9_isSmall 8 = .ok (.aload_n 0, 1) := by decide +kernel
theorem dX9_isSmall_9 : decode cX9_isSmall 9 = .ok (.getfield 7, 3) := by decide +kernel
theorem dX9_isSmall_12 : decode cX9_isSmall 12 = .ok (.iload_n 1, 1) := by decide +kernel
theorem dX9_isSmall_13 : decode cX9_isSmall 13 = .ok (.iaload, 1) := by decide +kernel
theorem dX9_isSmall_14 : decode cX9_isSmall 14 = .ok (.bipush 97, 2) := by decide +kernel
theorem dX9_isSmall_16 : decode cX9_isSmall 16 = .ok (.if_icmp .lt 18, 3) := by decide +kernel
theorem dX9_isSmall_19 : decode cX9_isSmall 19 = .ok (.aload_n 0, 1) := by decide +kernel
theorem dX9_isSmall_20 : decode cX9_isSmall 20 = .ok (.getfield 7, 3) := by decide +kernel
theorem dX9_isSmall_23 : decode cX9_isSmall 23 = .ok (.iload_n 1, 1) := by decide +kernel
theorem dX9_isSmall_24 : decode cX9_isSmall 24 = .ok (.iaload, 1) := by decide +kernel
theorem dX9_isSmall_25 : decode cX9_isSmall 25 = .ok (.bipush 122, 2) := by decide +kernel
theorem dX9_isSmall_27 : decode cX9_isSmall 27 = .ok (.if_icmp .gt 7, 3) := by decide +kernel
theorem dX9_isSmall_30 : decode cX9_isSmall 30 = .ok (.iconst 1, 1) := by decide +kernel
theorem dX9_isSmall_31 : decode cX9_isSmall 31 = .ok (.goto 4, 3) := by decide +kernel
theorem dX9_isSmall_34 : decode cX9_isSmall 34 = .ok (.iconst 0, 1) := by decide +kernel
theorem dX9_isSmall_35 : decode cX9_isSmall 35 = .ok (.ireturn, 1) := by decide +kernel
theorem dX9_isDigit_0 : decode cX9_isDigit 0 = .ok (.iload_n 1, 1) := by decide +kernel
theorem dX9_isDigit_1 : decode cX9_isDigit 1 = .ok (.aload_n 0, 1) := by decide +kernel
theorem dX9_isDigit_2 : decode cX9_isDigit 2 = .ok (.getfield 154, 3) := by decide +kernel
theorem dX9_isDigit_5 : decode cX9_isDigit 5 = .ok (.if_icmp .ge 29, 3) := by decide +kernel
theorem dX9_isDigit_8 : decode cX9_isDigit 8 = .ok (.aload_n 0, 1) := by decide +kernel
theorem dX9_isDigit_9 : decode cX9_isDigit 9 = .ok (.getfield 7, 3) := by decide +kernel
theorem dX9_isDigit_12 : decode cX9_isDigit 12 = .ok (.iload_n 1, 1) := by decide +kernel
theorem dX9_isDigit_13 : decode cX9_isDigit 13 = .ok (.iaload, 1) := by decide +kernel
theorem dX9_isDigit_14 : decode cX9_isDigit 14 = .ok (.bipush 48, 2) := by decide +kernel
theorem dX9_isDigit_16 : decode cX9_isDigit 16 = .ok (.if_icmp .lt 18, 3) := by decide +kernel
theorem dX9_isDigit_19 : decode cX9_isDigit 19 = .ok (.aload_n 0, 1) := by decide +kernel
theorem dX9_isDigit_20 : decode cX9_isDigit 20 = .ok (.getfield 7, 3) := by decide +kernel
theorem dX9_isDigit_23 : decode cX9_isDigit 23 = .ok (.iload_n 1, 1) := by decide +kernel
theorem dX9_isDigit_24 : decode cX9_isDigit 24 = .ok (.iaload, 1) := by decide +kernel
theorem dX9_isDigit_25 : decode cX9_isDigit 25 = .ok (.bipush 57, 2) := by decide +kernel
theorem dX9_isDigit_27 : decode cX9_isDigit 27 = .ok (.if_icmp .gt 7, 3) := by decide +kernel
theorem dX9_isDigit_30 : decode cX9_isDigit 30 = .ok (.iconst 1, 1) := by decide +kernel
theorem dX9_isDigit_31 : decode cX9_isDigit 31 = .ok (.goto 4, 3) := by decide +kernel
theorem dX9_isDigit_34 : decode cX9_isDigit 34 = .ok (.iconst 0, 1) := by decide +kernel
theorem dX9_isDigit_35 : decode cX9_isDigit 35 = .ok (.ireturn, 1) := by decide +kernel
theorem dX9_token_0 : decode cX9_token 0 = .ok (.aload_n 0, 1) := by decide +kernel
theorem dX9_token_1 : decode cX9_token 1 = .ok (.getfield 157, 3) := by decide +kernel
theorem dX9_token_4 : decode cX9_token 4 = .ok (.aload_n 0, 1) := by decide +kernel
theorem dX9_token_5 : decode cX9_token 5 = .ok (.getfield 154, 3) := by decide +kernel
theorem dX9_token_8 : decode cX9_token 8 = .ok (.if_icmp .ge 44, 3) := by decide +kernel
theorem dX9_token_11 : decode cX9_token 11 = .ok (.aload_n 0, 1) := by decide +kernel
theorem dX9_token_12 : decode cX9_token 12 = .ok (.getfield 7, 3) := by decide +kernel
theorem dX9_token_15 : decode cX9_token 15 = .ok (.aload_n 0, 1) := by decide +kernel
theorem dX9_token_16 : decode cX9_token 16 = .ok (.getfield 157, 3) := by decide +kernel
theorem dX9_token_19 : decode cX9_token 19 = .ok (.iaload, 1) := by decide +kernel
theorem dX9_token_20 : decode cX9_token 20 = .ok (.bipush 10, 2) := by decide +kernel
theorem dX9_token_22 : decode cX9_token 22 = .ok (.if_icmp .eq 17, 3) := by decide +kernel
theorem dX9_token_25 : decode cX9_token 25 = .ok (.aload_n 0, 1) := by decide +kernel
theorem dX9_token_26 : decode cX9_token 26 = .ok (.getfield 7, 3) := by decide +kernel
theorem dX9_token_29 : decode cX9_token 29 = .ok (.aload_n 0, 1) := by decide +kernel
theorem dX9_token_30 : decode cX9_token 30 = .ok (.getfield 157, 3) := by decide +kernel
theorem dX9_token_33 : decode cX9_token 33 = .ok (.iaload, 1) := by decide +kernel
theorem dX9_token_34 : decode cX9_token 34 = .ok (.bipush 32, 2) := by decide +kernel
theorem dX9_token_36 : decode cX9_token 36 = .ok (.if_icmp .ne 16, 3) := by decide +kernel
theorem dX9_token_39 : decode cX9_token 39 = .ok (.aload_n 0, 1) := by decide +kernel
theorem dX9_token_40 : decode cX9_token 40 = .ok (.dup, 1) := by decide +kernel
theorem dX9_token_41 : decode cX9_token 41 = .ok (.getfield 157, 3) := by decide +kernel
theorem dX9_token_44 : decode cX9_token 44 = .ok (.iconst 1, 1) := by decide +kernel
theorem dX9_token_45 : decode cX9_token 45 = .ok (.iadd, 1) := by decide +kernel
theorem dX9_token_46 : decode cX9_token 46 = .ok (.putfield 157, 3) := by decide +kernel
theorem dX9_token_49 : decode cX9_token 49 = .ok (.goto (-49), 3) := by decide +kernel
theorem dX9_token_52 : decode cX9_token 52 = .ok (.aload_n 0, 1) := by decide +kernel
theorem dX9_token_53 : decode cX9_token 53 = .ok (.aload_n 0, 1) := by decide +kernel
theorem dX9_token_54 : decode cX9_token 54 = .ok (.getfield 157, 3) := by decide +kernel
theorem dX9_token_57 : decode cX9_token 57 = .ok (.putfield 151, 3) := by decide +kernel
theorem dX9_token_60 : decode cX9_token 60 = .ok (.aload_n 0, 1) := by decide +kernel
theorem dX9_token_61 : decode cX9_token 61 = .ok (.getfield 157, 3) := by decide +kernel
theorem dX9_token_64 : decode cX9_token 64 = .ok (.aload_n 0, 1) := by decide +kernel
theorem dX9_token_65 : decode cX9_token 65 = .ok (.getfield 154, 3) := by decide +kernel
theorem dX9_token_68 : decode cX9_token 68 = .ok (.if_icmp .ne 11, 3) := by decide +kernel
theorem dX9_token_71 : decode cX9_token 71 = .ok (.aload_n 0, 1) := by decide +kernel
theorem dX9_token_72 : decode cX9_token 72 = .ok (.iconst 0, 1) := by decide +kernel
theorem dX9_token_73 : decode cX9_token 73 = .ok (.putfield 160, 3) := by decide +kernel
theorem dX9_token_76 : decode cX9_token 76 = .ok (.goto 205, 3) := by decide +kernel
theorem dX9_token_79 : decode cX9_token 79 = .ok (.aload_n 0, 1) := by decide +kernel
theorem dX9_token_80 : decode cX9_token 80 = .ok (.aload_n 0, 1) := by decide +kernel
theorem dX9_token_81 : decode cX9_token 81 = .ok (.getfield 157, 3) := by decide +kernel
theorem dX9_token_84 : decode cX9_token 84 = .ok (.invokevirtual 163, 3) := by decide +kernel
theorem dX9_token_87 : decode cX9_token 87 = .ok (.ifCond .eq 105, 3) := by decide +kernel
theorem dX9_token_90 : decode cX9_token 90 = .ok (.aload_n 0, 1) := by decide +kernel
theorem dX9_token_91 : decode cX9_token 91 = .ok (.aload_n 0, 1) := by decide +kernel
theorem dX9_token_92 : decode cX9_token 92 = .ok (.getfield 157, 3) := by decide +kernel
theorem dX9_token_95 : decode cX9_token 95 = .ok (.invokevirtual 163, 3) := by decide +kernel
theorem dX9_token_98 : decode cX9_token 98 = .ok (.ifCond .eq 16, 3) := by decide +kernel
theorem dX9_token_101 : decode cX9_token 101 = .ok (.aload_n 0, 1) := by decide +kernel
theorem dX9_token_102 : decode cX9_token 102 = .ok (.dup, 1) := by decide +kernel
theorem dX9_token_103 : decode cX9_token 103 = .ok (.getfield 157, 3) := by decide +kernel
theorem dX9_token_106 : decode cX9_token 106 = .ok (.iconst 1, 1) := by decide +kernel
theorem dX9_token_107 : decode cX9_token 107 = .ok (.iadd, 1) := by decide +kernel
theorem dX9_token_108 : decode cX9_token 108 = .ok (.putfield 157, 3) := by decide +kernel
theorem dX9_token_111 : decode cX9_token 111 = .ok (.goto (-21), 3) := by decide +kernel
theorem dX9_token_114 : decode cX9_token 114 = .ok (.aload_n 0, 1) := by decide +kernel
theorem dX9_token_115 : decode cX9_token 115 = .ok (.aload_n 0, 1) := by decide +kernel
theorem dX9_token_116 : decode cX9_token 116 = .ok (.aload_n 0, 1) := by decide +kernel
theorem dX9_token_117 : decode cX9_token 117 = .ok (.getfield 151, 3) := by decide +kernel
theorem dX9_token_120 : decode cX9_token 120 = .ok (.aload_n 0, 1) := by decide +kernel
theorem dX9_token_121 : decode cX9_token 121 = .ok (.getfield 157, 3) := by decide +kernel
theorem dX9_token_124 : decode cX9_token 124 = .ok (.invokevirtual 167, 3) := by decide +kernel
theorem dX9_token_127 : decode cX9_token 127 = .ok (.putfield 171, 3) := by decide +kernel
theorem dX9_token_130 : decode cX9_token 130 = .ok (.aload_n 0, 1) := by decide +kernel
theorem dX9_token_131 : decode cX9_token 131 = .ok (.aload_n 0, 1) := by decide +kernel
theorem dX9_token_132 : decode cX9_token 132 = .ok (.getfield 171, 3) := by decide +kernel
theorem dX9_token_135 : decode cX9_token 135 = .ok (.ifCond .lt 7, 3) := by decide +kernel
theorem dX9_token_138 : decode cX9_token 138 = .ok (.iconst 1, 1) := by decide +kernel
theorem dX9_token_139 : decode cX9_token 139 = .ok (.goto 23, 3) := by decide +kernel
theorem dX9_token_142 : decode cX9_token 142 = .ok (.aload_n 0, 1) := by decide +kernel
theorem dX9_token_143 : decode cX9_token 143 = .ok (.getfield 157, 3) := by decide +kernel
theorem dX9_token_146 : decode cX9_token 146 = .ok (.aload_n 0, 1) := by decide +kernel
theorem dX9_token_147 : decode cX9_token 147 = .ok (.getfield 151, 3) := by decide +kernel
theorem dX9_token_150 : decode cX9_token 150 = .ok (.isub, 1) := by decide +kernel
theorem dX9_token_151 : decode cX9_token 151 = .ok (.bipush 6, 2) := by decide +kernel
theorem dX9_token_153 : decode cX9_token 153 = .ok (.if_icmp .le 8, 3) := by decide +kernel
theorem dX9_token_156 : decode cX9_token 156 = .ok (.bipush 6, 2) := by decide +kernel
theorem dX9_token_158 : decode cX9_token 158 = .ok (.goto 4, 3) := by decide +kernel
theorem dX9_token_161 : decode cX9_token 161 = .ok (.iconst 2, 1) := by decide +kernel
theorem dX9_token_162 : decode cX9_token 162 = .ok (.putfield 160, 3) := by decide +kernel
theorem dX9_token_165 : decode cX9_token 165 = .ok (.aload_n 0, 1) := by decide +kernel
theorem dX9_token_166 : decode cX9_token 166 = .ok (.getfield 160, 3) := by decide +kernel
theorem dX9_token_169 : decode cX9_token 169 = .ok (.iconst 2, 1) := by decide +kernel
theorem dX9_token_170 : decode cX9_token 170 = .ok (.if_icmp .ne 111, 3) := by decide +kernel
theorem dX9_token_173 : decode cX9_token 173 = .ok (.aload_n 0, 1) := by decide +kernel
theorem dX9_token_174 : decode cX9_token 174 = .ok (.aload_n 0, 1) := by decide +kernel
theorem dX9_token_175 : decode cX9_token 175 = .ok (.aload_n 0, 1) := by decide +kernel
theorem dX9_token_176 : decode cX9_token 176 = .ok (.getfield 151, 3) := by decide +kernel
theorem dX9_token_179 : decode cX9_token 179 = .ok (.aload_n 0, 1) := by decide +kernel
theorem dX9_token_180 : decode cX9_token 180 = .ok (.getfield 157, 3) := by decide +kernel
theorem dX9_token_183 : decode cX9_token 183 = .ok (.invokevirtual 174, 3) := by decide +kernel
theorem dX9_token_186 : decode cX9_token 186 = .ok (.putfield 171, 3) := by decide +kernel
theorem dX9_token_189 : decode cX9_token 189 = .ok (.goto 92, 3) := by decide +kernel
theorem dX9_token_192 : decode cX9_token 192 = .ok (.aload_n 0, 1) := by decide +kernel
theorem dX9_token_193 : decode cX9_token 193 = .ok (.aload_n 0, 1) := by decide +kernel
theorem dX9_token_194 : decode cX9_token 194 = .ok (.getfield 157, 3) := by decide +kernel
theorem dX9_token_197 : decode cX9_token 197 = .ok (.invokevirtual 177, 3) := by decide +kernel
theorem dX9_token_200 : decode cX9_token 200 = .ok (.ifCond .eq 77, 3) := by decide +kernel
theorem dX9_token_203 : decode cX9_token 203 = .ok (.aload_n 0, 1) := by decide +kernel
theorem dX9_token_204 : decode cX9_token 204 = .ok (.iconst 3, 1) := by decide +kernel
theorem dX9_token_205 : decode cX9_token 205 = .ok (.putfield 160, 3) := by decide +kernel
theorem dX9_token_208 : decode cX9_token 208 = .ok (.aload_n 0, 1) := by decide +kernel
theorem dX9_token_209 : decode cX9_token 209 = .ok (.iconst 0, 1) := by decide +kernel
theorem dX9_token_210 : decode cX9_token 210 = .ok (.putfield 171, 3) := by decide +kernel
theorem dX9_token_213 : decode cX9_token 213 = .ok (.aload_n 0, 1) := by decide +kernel
theorem dX9_token_214 : decode cX9_token 214 = .ok (.aload_n 0, 1) := by decide +kernel
theorem dX9_token_215 : decode cX9_token 215 = .ok (.getfield 157, 3) := by decide +kernel
theorem dX9_token_218 : decode cX9_token 218 = .ok (.invokevirtual 177, 3) := by decide +kernel
theorem dX9_token_221 : decode cX9_token 221 = .ok (.ifCond .eq 60, 3) := by decide +kernel
theorem dX9_token_224 : decode cX9_token 224 = .ok (.aload_n 0, 1) := by decide +kernel
theorem dX9_token_225 : decode cX9_token 225 = .ok (.aload_n 0, 1) := by decide +kernel
theorem dX9_token_226 : decode cX9_token 226 = .ok (.getfield 171, 3) := by decide +kernel
theorem dX9_token_229 : decode cX9_token 229 = .ok (.ldc 180, 2) := by decide +kernel
theorem dX9_token_231 : decode cX9_token 231 = .ok (.if_icmp .le 10, 3) := by decide +kernel
theorem dX9_token_234 : decode cX9_token 234 = .ok (.aload_n 0, 1) := by decide +kernel
theorem dX9_token_235 : decode cX9_token 235 = .ok (.getfield 171, 3) := by decide +kernel
theorem dX9_token_238 : decode cX9_token 238 = .ok (.goto 23, 3) := by decide +kernel
theorem dX9_token_241 : decode cX9_token 241 = .ok (.bipush 10, 2) := by decide +kernel
theorem dX9_token_243 : decode cX9_token 243 = .ok (.aload_n 0, 1) := by decide +kernel
theorem dX9_token_244 : decode cX9_token 244 = .ok (.getfield 171, 3) := by decide +kernel
theorem dX9_token_247 : decode cX9_token 247 = .ok (.imul, 1) := by decide +kernel
theorem dX9_token_248 : decode cX9_token 248 = .ok (.aload_n 0, 1) := by decide +kernel
theorem dX9_token_249 : decode cX9_token 249 = .ok (.getfield 7, 3) := by decide +kernel
theorem dX9_token_252 : decode cX9_token 252 = .ok (.aload_n 0, 1) := by decide +kernel
theorem dX9_token_253 : decode cX9_token 253 = .ok (.getfield 157, 3) := by decide +kernel
theorem dX9_token_256 : decode cX9_token 256 = .ok (.iaload, 1) := by decide +kernel
theorem dX9_token_257 : decode cX9_token 257 = .ok (.iadd, 1) := by decide +kernel
theorem dX9_token_258 : decode cX9_token 258 = .ok (.bipush 48, 2) := by decide +kernel
theorem dX9_token_260 : decode cX9_token 260 = .ok (.isub, 1) := by decide +kernel
theorem dX9_token_261 : decode cX9_token 261 = .ok (.putfield 171, 3) := by decide +kernel
theorem dX9_token_264 : decode cX9_token 264 = .ok (.aload_n 0, 1) := by decide +kernel
theorem dX9_token_265 : decode cX9_token 265 = .ok (.dup, 1) := by decide +kernel
theorem dX9_token_266 : decode cX9_token 266 = .ok (.getfield 157, 3) := by decide +kernel
theorem dX9_token_269 : decode cX9_token 269 = .ok (.iconst 1, 1) := by decide +kernel
theorem dX9_token_270 : decode cX9_token 270 = .ok (.iadd, 1) := by decide +kernel
theorem dX9_token_271 : decode cX9_token 271 = .ok (.putfield 157, 3) := by decide +kernel
theorem dX9_token_274 : decode cX9_token 274 = .ok (.goto (-61), 3) := by decide +kernel
theorem dX9_token_277 : decode cX9_token 277 = .ok (.aload_n 0, 1) := by decide +kernel
theorem dX9_token_278 : decode cX9_token 278 = .ok (.invokevirtual 181, 3) := by decide +kernel
theorem dX9_token_281 : decode cX9_token 281 = .ok (.return_, 1) := by decide +kernel
theorem dX9_signToken_0 : decode cX9_signToken 0 = .ok (.aload_n 0, 1) := by decide +kernel
theorem dX9_signToken_1 : decode cX9_signToken 1 = .ok (.aload_n 0, 1) := by decide +kernel
theorem dX9_signToken_2 : decode cX9_signToken 2 = .ok (.getfield 7, 3) := by decide +kernel
theorem dX9_signToken_5 : decode cX9_signToken 5 = .ok (.aload_n 0, 1) := by decide +kernel
theorem dX9_signToken_6 : decode cX9_signToken 6 = .ok (.getfield 157, 3) := by decide +kernel
theorem dX9_signToken_9 : decode cX9_signToken 9 = .ok (.iaload, 1) := by decide +kernel
theorem dX9_signToken_10 : decode cX9_signToken 10 = .ok (.putfield 171, 3) := by decide +kernel
theorem dX9_signToken_13 : decode cX9_signToken 13 = .ok (.aload_n 0, 1) := by decide +kernel
theorem dX9_signToken_14 : decode cX9_signToken 14 = .ok (.dup, 1) := by decide +kernel
theorem dX9_signToken_15 : decode cX9_signToken 15 = .ok (.getfield 157, 3) := by decide +kernel
theorem dX9_signToken_18 : decode cX9_signToken 18 = .ok (.iconst 1, 1) := by decide +kernel
theorem dX9_signToken_19 : decode cX9_signToken 19 = .ok (.iadd, 1) := by decide +kernel
theorem dX9_signToken_20 : decode cX9_signToken 20 = .ok (.putfield 157, 3) := by decide +kernel
theorem dX9_signToken_23 : decode cX9_signToken 23 = .ok (.aload_n 0, 1) := by decide +kernel
theorem dX9_signToken_24 : decode cX9_signToken 24 = .ok (.getfield 171, 3) := by decide +kernel
theorem dX9_signToken_27 : decode cX9_signToken 27 = .ok (.bipush 60, 2) := by decide +kernel
theorem dX9_signToken_29 : decode cX9_signToken 29 = .ok (.if_icmp .eq 21, 3) := by decide +kernel
theorem dX9_signToken_32 : decode cX9_signToken 32 = .ok (.aload_n 0, 1) := by decide +kernel
theorem dX9_signToken_33 : decode cX9_signToken 33 = .ok (.getfield 171, 3) := by decide +kernel
theorem dX9_signToken_36 : decode cX9_signToken 36 = .ok (.bipush 62, 2) := by decide +kernel
theorem dX9_signToken_38 : decode cX9_signToken 38 = .ok (.if_icmp .eq 12, 3) := by decide +kernel
theorem dX9_signToken_41 : decode cX9_signToken 41 = .ok (.aload_n 0, 1) := by decide +kernel
theorem dX9_signToken_42 : decode cX9_signToken 42 = .ok (.getfield 171, 3) := by decide +kernel
theorem dX9_signToken_45 : decode cX9_signToken 45 = .ok (.bipush 61, 2) := by decide +kernel
theorem dX9_signToken_47 : decode cX9_signToken 47 = .ok (.if_icmp .ne 151, 3) := by decide +kernel
theorem dX9_signToken_50 : decode cX9_signToken 50 = .ok (.aload_n 0, 1) := by decide +kernel
theorem dX9_signToken_51 : decode cX9_signToken 51 = .ok (.getfield 157, 3) := by decide +kernel
theorem dX9_signToken_54 : decode cX9_signToken 54 = .ok (.aload_n 0, 1) := by decide +kernel
theorem dX9_signToken_55 : decode cX9_signToken 55 = .ok (.getfield 154, 3) := by decide +kernel
theorem dX9_signToken_58 : decode cX9_signToken 58 = .ok (.if_icmp .ge 15, 3) := by decide +kernel
theorem dX9_signToken_61 : decode cX9_signToken 61 = .ok (.aload_n 0, 1) := by decide +kernel
theorem dX9_signToken_62 : decode cX9_signToken 62 = .ok (.getfield 7, 3) := by decide +kernel
theorem dX9_signToken_65 : decode cX9_signToken 65 = .ok (.aload_n 0, 1) := by decide +kernel
theorem dX9_signToken_66 : decode cX9_signToken 66 = .ok (.getfield 157, 3) := by decide +kernel
theorem dX9_signToken_69 : decode cX9_signToken 69 = .ok (.iaload, 1) := by decide +kernel
theorem dX9_signToken_70 : decode cX9_signToken 70 = .ok (.goto 4, 3) := by decide +kernel
theorem dX9_signToken_73 : decode cX9_signToken 73 = .ok (.iconst 0, 1) := by decide +kernel
theorem dX9_signToken_74 : decode cX9_signToken 74 = .ok (.istore_n 1, 1) := by decide +kernel
theorem dX9_signToken_75 : decode cX9_signToken 75 = .ok (.aload_n 0, 1) := by decide +kernel
theorem dX9_signToken_76 : decode cX9_signToken 76 = .ok (.getfield 171, 3) := by decide +kernel
theorem dX9_signToken_79 : decode cX9_signToken 79 = .ok (.bipush 61, 2) := by decide +kernel
theorem dX9_signToken_81 : decode cX9_signToken 81 = .ok (.if_icmp .eq 13, 3) := by decide +kernel
theorem dX9_signToken_84 : decode cX9_signToken 84 = .ok (.iload_n 1, 1) := by decide +kernel
theorem dX9_signToken_85 : decode cX9_signToken 85 = .ok (.bipush 61, 2) := by decide +kernel
theorem dX9_signToken_87 : decode cX9_signToken 87 = .ok (.if_icmp .ne 7, 3) := by decide +kernel
theorem dX9_signToken_90 : decode cX9_signToken 90 = .ok (.iconst 1, 1) := by decide +kernel
theorem dX9_signToken_91 : decode cX9_signToken 91 = .ok (.goto 4, 3) := by decide +kernel
theorem dX9_signToken_94 : decode cX9_signToken 94 = .ok (.iconst 0, 1) := by decide +kernel
theorem dX9_signToken_95 : decode cX9_signToken 95 = .ok (.istore_n 2, 1) := by decide +kernel
theorem dX9_signToken_96 : decode cX9_signToken 96 = .ok (.aload_n 0, 1) := by decide +kernel
theorem dX9_signToken_97 : decode cX9_signToken 97 = .ok (.getfield 171, 3) := by decide +kernel
theorem dX9_signToken_100 : decode cX9_signToken 100 = .ok (.bipush 60, 2) := by decide +kernel
theorem dX9_signToken_102 : decode cX9_signToken 102 = .ok (.if_icmp .ne 13, 3) := by decide +kernel
theorem dX9_signToken_105 : decode cX9_signToken 105 = .ok (.iload_n 1, 1) := by decide +kernel
theorem dX9_signToken_106 : decode cX9_signToken 106 = .ok (.bipush 62, 2) := by decide +kernel
theorem dX9_signToken_108 : decode cX9_signToken 108 = .ok (.if_icmp .ne 7, 3) := by decide +kernel
theorem dX9_signToken_111 : decode cX9_signToken 111 = .ok (.iconst 1, 1) := by decide +kernel
theorem dX9_signToken_112 : decode cX9_signToken 112 = .ok (.goto 4, 3) := by decide +kernel
theorem dX9_signToken_115 : decode cX9_signToken 115 = .ok (.iconst 0, 1) := by decide +kernel
theorem dX9_signToken_116 : decode cX9_signToken 116 = .ok (.istore_n 3, 1) := by decide +kernel
theorem dX9_signToken_117 : decode cX9_signToken 117 = .ok (.iload_n 2, 1) := by decide +kernel
theorem dX9_signToken_118 : decode cX9_signToken 118 = .ok (.ifCond .ne 7, 3) := by decide +kernel
theorem dX9_signToken_121 : decode cX9_signToken 121 = .ok (.iload_n 3, 1) := by decide +kernel
theorem dX9_signToken_122 : decode cX9_signToken 122 = .ok (.ifCond .eq 13, 3) := by decide +kernel
theorem dX9_signToken_125 : decode cX9_signToken 125 = .ok (.aload_n 0, 1) := by decide +kernel
theorem dX9_signToken_126 : decode cX9_signToken 126 = .ok (.dup, 1) := by decide +kernel
theorem dX9_signToken_127 : decode cX9_signToken 127 = .ok (.getfield 157, 3) := by decide +kernel
theorem dX9_signToken_130 : decode cX9_signToken 130 = .ok (.iconst 1, 1) := by decide +kernel
theorem dX9_signToken_131 : decode cX9_signToken 131 = .ok (.iadd, 1) := by decide +kernel
theorem dX9_signToken_132 : decode cX9_signToken 132 = .ok (.putfield 157, 3) := by decide +kernel
theorem dX9_signToken_135 : decode cX9_signToken 135 = .ok (.aload_n 0, 1) := by decide +kernel
theorem dX9_signToken_136 : decode cX9_signToken 136 = .ok (.iconst 5, 1) := by decide +kernel
theorem dX9_signToken_137 : decode cX9_signToken 137 = .ok (.putfield 160, 3) := by decide +kernel
theorem dX9_signToken_140 : decode cX9_signToken 140 = .ok (.aload_n 0, 1) := by decide +kernel
theorem dX9_signToken_141 : decode cX9_signToken 141 = .ok (.aload_n 0, 1) := by decide +kernel
theorem dX9_signToken_142 : decode cX9_signToken 142 = .ok (.getfield 171, 3) := by decide +kernel
theorem dX9_signToken_145 : decode cX9_signToken 145 = .ok (.bipush 61, 2) := by decide +kernel
theorem dX9_signToken_147 : decode cX9_signToken 147 = .ok (.if_icmp .ne 7, 3) := by decide +kernel
theorem dX9_signToken_150 : decode cX9_signToken 150 = .ok (.iconst 2, 1) := by decide +kernel
theorem dX9_signToken_151 : decode cX9_signToken 151 = .ok (.goto 41, 3) := by decide +kernel
theorem dX9_signToken_154 : decode cX9_signToken 154 = .ok (.aload_n 0, 1) := by decide +kernel
theorem dX9_signToken_155 : decode cX9_signToken 155 = .ok (.getfield 171, 3) := by decide +kernel
theorem dX9_signToken_158 : decode cX9_signToken 158 = .ok (.bipush 60, 2) := by decide +kernel
theorem dX9_signToken_160 : decode cX9_signToken 160 = .ok (.if_icmp .ne 23, 3) := by decide +kernel
theorem dX9_signToken_163 : decode cX9_signToken 163 = .ok (.iload_n 2, 1) := by decide +kernel
theorem dX9_signToken_164 : decode cX9_signToken 164 = .ok (.ifCond .eq 7, 3) := by decide +kernel
theorem dX9_signToken_167 : decode cX9_signToken 167 = .ok (.iconst 1, 1) := by decide +kernel
theorem dX9_signToken_168 : decode cX9_signToken 168 = .ok (.goto 24, 3) := by decide +kernel
theorem dX9_signToken_171 : decode cX9_signToken 171 = .ok (.iload_n 3, 1) := by decide +kernel
theorem dX9_signToken_172 : decode cX9_signToken 172 = .ok (.ifCond .eq 7, 3) := by decide +kernel
theorem dX9_signToken_175 : decode cX9_signToken 175 = .ok (.iconst 3, 1) := by decide +kernel
theorem dX9_signToken_176 : decode cX9_signToken 176 = .ok (.goto 16, 3) := by decide +kernel
theorem dX9_signToken_179 : decode cX9_signToken 179 = .ok (.iconst 0, 1) := by decide +kernel
theorem dX9_signToken_180 : decode cX9_signToken 180 = .ok (.goto 12, 3) := by decide +kernel
theorem dX9_signToken_183 : decode cX9_signToken 183 = .ok (.iload_n 2, 1) := by decide +kernel
theorem dX9_signToken_184 : decode cX9_signToken 184 = .ok (.ifCond .eq 7, 3) := by decide +kernel
theorem dX9_signToken_187 : decode cX9_signToken 187 = .ok (.iconst 4, 1) := by decide +kernel
theorem dX9_signToken_188 : decode cX9_signToken 188 = .ok (.goto 4, 3) := by decide +kernel
theorem dX9_signToken_191 : decode cX9_signToken 191 = .ok (.iconst 5, 1) := by decide +kernel
theorem dX9_signToken_192 : decode cX9_signToken 192 = .ok (.putfield 171, 3) := by decide +kernel
theorem dX9_signToken_195 : decode cX9_signToken 195 = .ok (.goto 95, 3) := by decide +kernel
theorem dX9_signToken_198 : decode cX9_signToken 198 = .ok (.aload_n 0, 1) := by decide +kernel
theorem dX9_signToken_199 : decode cX9_signToken 199 = .ok (.getfield 171, 3) := by decide +kernel
theorem dX9_signToken_202 : decode cX9_signToken 202 = .ok (.bipush 59, 2) := by decide +kernel
theorem dX9_signToken_204 : decode cX9_signToken 204 = .ok (.if_icmp .eq 66, 3) := by decide +kernel
theorem dX9_signToken_207 : decode cX9_signToken 207 = .ok (.aload_n 0, 1) := by decide +kernel
theorem dX9_signToken_208 : decode cX9_signToken 208 = .ok (.getfield 171, 3) := by decide +kernel
theorem dX9_signToken_211 : decode cX9_signToken 211 = .ok (.bipush 40, 2) := by decide +kernel
theorem dX9_signToken_213 : decode cX9_signToken 213 = .ok (.if_icmp .eq 57, 3) := by decide +kernel
theorem dX9_signToken_216 : decode cX9_signToken 216 = .ok (.aload_n 0, 1) := by decide +kernel
theorem dX9_signToken_217 : decode cX9_signToken 217 = .ok (.getfield 171, 3) := by decide +kernel
theorem dX9_signToken_220 : decode cX9_signToken 220 = .ok (.bipush 41, 2) := by decide +kernel
theorem dX9_signToken_222 : decode cX9_signToken 222 = .ok (.if_icmp .eq 48, 3) := by decide +kernel
theorem dX9_signToken_225 : decode cX9_signToken 225 = .ok (.aload_n 0, 1) := by decide +kernel
theorem dX9_signToken_226 : decode cX9_signToken 226 = .ok (.getfield 171, 3) := by decide +kernel
theorem dX9_signToken_229 : decode cX9_signToken 229 = .ok (.bipush 43, 2) := by decide +kernel
theorem dX9_signToken_231 : decode cX9_signToken 231 = .ok (.if_icmp .eq 39, 3) := by decide +kernel
theorem dX9_signToken_234 : decode cX9_signToken 234 = .ok (.aload_n 0, 1) := by decide +kernel
theorem dX9_signToken_235 : decode cX9_signToken 235 = .ok (.getfield 171, 3) := by decide +kernel
theorem dX9_signToken_238 : decode cX9_signToken 238 = .ok (.bipush 45, 2) := by decide +kernel
theorem dX9_signToken_240 : decode cX9_signToken 240 = .ok (.if_icmp .eq 30, 3) := by decide +kernel
theorem dX9_signToken_243 : decode cX9_signToken 243 = .ok (.aload_n 0, 1) := by decide +kernel
theorem dX9_signToken_244 : decode cX9_signToken 244 = .ok (.getfield 171, 3) := by decide +kernel
theorem dX9_signToken_247 : decode cX9_signToken 247 = .ok (.bipush 42, 2) := by decide +kernel
theorem dX9_signToken_249 : decode cX9_signToken 249 = .ok (.if_icmp .eq 21, 3) := by decide +kernel
theorem dX9_signToken_252 : decode cX9_signToken 252 = .ok (.aload_n 0, 1) := by decide +kernel
theorem dX9_signToken_253 : decode cX9_signToken 253 = .ok (.getfield 171, 3) := by decide +kernel
theorem dX9_signToken_256 : decode cX9_signToken 256 = .ok (.bipush 47, 2) := by decide +kernel
theorem dX9_signToken_258 : decode cX9_signToken 258 = .ok (.if_icmp .eq 12, 3) := by decide +kernel
theorem dX9_signToken_261 : decode cX9_signToken 261 = .ok (.aload_n 0, 1) := by decide +kernel
theorem dX9_signToken_262 : decode cX9_signToken 262 = .ok (.getfield 171, 3) := by decide +kernel
theorem dX9_signToken_265 : decode cX9_signToken 265 = .ok (.bipush 37, 2) := by decide +kernel
theorem dX9_signToken_267 : decode cX9_signToken 267 = .ok (.if_icmp .ne 7, 3) := by decide +kernel
theorem dX9_signToken_270 : decode cX9_signToken 270 = .ok (.iconst 1, 1) := by decide +kernel
theorem dX9_signToken_271 : decode cX9_signToken 271 = .ok (.goto 4, 3) := by decide +kernel
theorem dX9_signToken_274 : decode cX9_signToken 274 = .ok (.iconst 0, 1) := by decide +kernel
theorem dX9_signToken_275 : decode cX9_signToken 275 = .ok (.istore_n 1, 1) := by decide +kernel
theorem dX9_signToken_276 : decode cX9_signToken 276 = .ok (.aload_n 0, 1) := by decide +kernel
theorem dX9_signToken_277 : decode cX9_signToken 277 = .ok (.iload_n 1, 1) := by decide +kernel
theorem dX9_signToken_278 : decode cX9_signToken 278 = .ok (.ifCond .eq 7, 3) := by decide +kernel
theorem dX9_signToken_281 : decode cX9_signToken 281 = .ok (.iconst 4, 1) := by decide +kernel
theorem dX9_signToken_282 : decode cX9_signToken 282 = .ok (.goto 5, 3) := by decide +kernel
theorem dX9_signToken_285 : decode cX9_signToken 285 = .ok (.bipush 6, 2) := by decide +kernel
theorem dX9_signToken_287 : decode cX9_signToken 287 = .ok (.putfield 160, 3) := by decide +kernel
theorem dX9_signToken_290 : decode cX9_signToken 290 = .ok (.return_, 1) := by decide +kernel
theorem dX9_packed_0 : decode cX9_packed 0 = .ok (.iconst 0, 1) := by decide +kernel
theorem dX9_packed_1 : decode cX9_packed 1 = .ok (.istore_n 3, 1) := by decide +kernel
theorem dX9_packed_2 : decode cX9_packed 2 = .ok (.iload_n 1, 1) := by decide +kernel
theorem dX9_packed_3 : decode cX9_packed 3 = .ok (.istore 4, 2) := by decide +kernel
theorem dX9_packed_5 : decode cX9_packed 5 = .ok (.iload 4, 2) := by decide +kernel
theorem dX9_packed_7 : decode cX9_packed 7 = .ok (.iload_n 1, 1) := by decide +kernel
theorem dX9_packed_8 : decode cX9_packed 8 = .ok (.bipush 6, 2) := by decide +kernel
theorem dX9_packed_10 : decode cX9_packed 10 = .ok (.iadd, 1) := by decide +kernel
theorem dX9_packed_11 : decode cX9_packed 11 = .ok (.if_icmp .ge 34, 3) := by decide +kernel
theorem dX9_packed_14 : decode cX9_packed 14 = .ok (.iload_n 3, 1) := by decide +kernel
theorem dX9_packed_15 : decode cX9_packed 15 = .ok (.iconst 5, 1) := by decide +kernel
theorem dX9_packed_16 : decode cX9_packed 16 = .ok (.ishl, 1) := by decide +kernel
theorem dX9_packed_17 : decode cX9_packed 17 = .ok (.iload 4, 2) := by decide +kernel
theorem dX9_packed_19 : decode cX9_packed 19 = .ok (.iload_n 2, 1) := by decide +kernel
theorem dX9_packed_20 : decode cX9_packed 20 = .ok (.if_icmp .ge 16, 3) := by decide +kernel
theorem dX9_packed_23 : decode cX9_packed 23 = .ok (.aload_n 0, 1) := by decide +kernel
theorem dX9_packed_24 : decode cX9_packed 24 = .ok (.getfield 7, 3) := by decide +kernel
theorem dX9_packed_27 : decode cX9_packed 27 = .ok (.iload 4, 2) := by decide +kernel
theorem dX9_packed_29 : decode cX9_packed 29 = .ok (.iaload, 1) := by decide +kernel
theorem dX9_packed_30 : decode cX9_packed 30 = .ok (.bipush 96, 2) := by decide +kernel
theorem dX9_packed_32 : decode cX9_packed 32 = .ok (.isub, 1) := by decide +kernel
theorem dX9_packed_33 : decode cX9_packed 33 = .ok (.goto 4, 3) := by decide +kernel
theorem dX9_packed_36 : decode cX9_packed 36 = .ok (.iconst 0, 1) := by decide +kernel
theorem dX9_packed_37 : decode cX9_packed 37 = .ok (.ior, 1) := by decide +kernel
theorem dX9_packed_38 : decode cX9_packed 38 = .ok (.istore_n 3, 1) := by decide +kernel
theorem dX9_packed_39 : decode cX9_packed 39 = .ok (.iinc 4 1, 3) := by decide +kernel
theorem dX9_packed_42 : decode cX9_packed 42 = .ok (.goto (-37), 3) := by decide +kernel
theorem dX9_packed_45 : decode cX9_packed 45 = .ok (.iload_n 3, 1) := by decide +kernel
theorem dX9_packed_46 : decode cX9_packed 46 = .ok (.ireturn, 1) := by decide +kernel
theorem dX9_isKey_0 : decode cX9_isKey 0 = .ok (.aload_n 0, 1) := by decide +kernel
theorem dX9_isKey_1 : decode cX9_isKey 1 = .ok (.getfield 160, 3) := by decide +kernel
theorem dX9_isKey_4 : decode cX9_isKey 4 = .ok (.iconst 1, 1) := by decide +kernel
theorem dX9_isKey_5 : decode cX9_isKey 5 = .ok (.if_icmp .ne 15, 3) := by decide +kernel
theorem dX9_isKey_8 : decode cX9_isKey 8 = .ok (.aload_n 0, 1) := by decide +kernel
theorem dX9_isKey_9 : decode cX9_isKey 9 = .ok (.getfield 171, 3) := by decide +kernel
theorem dX9_isKey_12 : decode cX9_isKey 12 = .ok (.iload_n 1, 1) := by decide +kernel
theorem dX9_isKey_13 : decode cX9_isKey 13 = .ok (.if_icmp .ne 7, 3) := by decide +kernel
theorem dX9_isKey_16 : decode cX9_isKey 16 = .ok (.iconst 1, 1) := by decide +kernel
theorem dX9_isKey_17 : decode cX9_isKey 17 = .ok (.goto 4, 3) := by decide +kernel
theorem dX9_isKey_20 : decode cX9_isKey 20 = .ok (.iconst 0, 1) := by decide +kernel
theorem dX9_isKey_21 : decode cX9_isKey 21 = .ok (.ireturn, 1) := by decide +kernel
theorem dX9_isSign_0 : decode cX9_isSign 0 = .ok (.aload_n 0, 1) := by decide +kernel
theorem dX9_isSign_1 : decode cX9_isSign 1 = .ok (.getfield 160, 3) := by decide +kernel
theorem dX9_isSign_4 : decode cX9_isSign 4 = .ok (.iconst 4, 1) := by decide +kernel
theorem dX9_isSign_5 : decode cX9_isSign 5 = .ok (.if_icmp .ne 15, 3) := by decide +kernel
theorem dX9_isSign_8 : decode cX9_isSign 8 = .ok (.aload_n 0, 1) := by decide +kernel
theorem dX9_isSign_9 : decode cX9_isSign 9 = .ok (.getfield 171, 3) := by decide +kernel
theorem dX9_isSign_12 : decode cX9_isSign 12 = .ok (.iload_n 1, 1) := by decide +kernel
theorem dX9_isSign_13 : decode cX9_isSign 13 = .ok (.if_icmp .ne 7, 3) := by decide +kernel
theorem dX9_isSign_16 : decode cX9_isSign 16 = .ok (.iconst 1, 1) := by decide +kernel
theorem dX9_isSign_17 : decode cX9_isSign 17 = .ok (.goto 4, 3) := by decide +kernel
theorem dX9_isSign_20 : decode cX9_isSign 20 = .ok (.iconst 0, 1) := by decide +kernel
theorem dX9_isSign_21 : decode cX9_isSign 21 = .ok (.ireturn, 1) := by decide +kernel
theorem dX9_number_0 : decode cX9_number 0 = .ok (.aload_n 0, 1) := by decide +kernel
theorem dX9_number_1 : decode cX9_number 1 = .ok (.getfield 160, 3) := by decide +kernel
theorem dX9_number_4 : decode cX9_number 4 = .ok (.iconst 3, 1) := by decide +kernel
theorem dX9_number_5 : decode cX9_number 5 = .ok (.if_icmp .eq 9, 3) := by decide +kernel
theorem dX9_number_8 : decode cX9_number 8 = .ok (.aload_n 0, 1) := by decide +kernel
theorem dX9_number_9 : decode cX9_number 9 = .ok (.iconst 1, 1) := by decide +kernel
theorem dX9_number_10 : decode cX9_number 10 = .ok (.invokevirtual 184, 3) := by decide +kernel
theorem dX9_number_13 : decode cX9_number 13 = .ok (.ireturn, 1) := by decide +kernel
theorem dX9_number_14 : decode cX9_number 14 = .ok (.aload_n 0, 1) := by decide +kernel
theorem dX9_number_15 : decode cX9_number 15 = .ok (.getfield 171, 3) := by decide +kernel
theorem dX9_number_18 : decode cX9_number 18 = .ok (.iload_n 1, 1) := by decide +kernel
theorem dX9_number_19 : decode cX9_number 19 = .ok (.iload_n 2, 1) := by decide +kernel
theorem dX9_number_20 : decode cX9_number 20 = .ok (.invokestatic 187, 3) := by decide +kernel
theorem dX9_number_23 : decode cX9_number 23 = .ok (.ifCond .ne 9, 3) := by decide +kernel
theorem dX9_number_26 : decode cX9_number 26 = .ok (.aload_n 0, 1) := by decide +kernel
theorem dX9_number_27 : decode cX9_number 27 = .ok (.iconst 2, 1) := by decide +kernel
theorem dX9_number_28 : decode cX9_number 28 = .ok (.invokevirtual 184, 3) := by decide +kernel
theorem dX9_number_31 : decode cX9_number 31 = .ok (.ireturn, 1) := by decide +kernel
theorem dX9_number_32 : decode cX9_number 32 = .ok (.aload_n 0, 1) := by decide +kernel
theorem dX9_number_33 : decode cX9_number 33 = .ok (.aload_n 0, 1) := by decide +kernel
theorem dX9_number_34 : decode cX9_number 34 = .ok (.getfield 171, 3) := by decide +kernel
theorem dX9_number_37 : decode cX9_number 37 = .ok (.putfield 191, 3) := by decide +kernel
theorem dX9_number_40 : decode cX9_number 40 = .ok (.aload_n 0, 1) := by decide +kernel
theorem dX9_number_41 : decode cX9_number 41 = .ok (.invokevirtual 194, 3) := by decide +kernel
theorem dX9_number_44 : decode cX9_number 44 = .ok (.iconst 1, 1) := by decide +kernel
theorem dX9_number_45 : decode cX9_number 45 = .ok (.ireturn, 1) := by decide +kernel
theorem dX9_plain_0 : decode cX9_plain 0 = .ok (.aload_n 0, 1) := by decide +kernel
theorem dX9_plain_1 : decode cX9_plain 1 = .ok (.iconst 0, 1) := by decide +kernel
theorem dX9_plain_2 : decode cX9_plain 2 = .ok (.putfield 204, 3) := by decide +kernel
theorem dX9_plain_5 : decode cX9_plain 5 = .ok (.aload_n 0, 1) := by decide +kernel
theorem dX9_plain_6 : decode cX9_plain 6 = .ok (.iconst 0, 1) := by decide +kernel
theorem dX9_plain_7 : decode cX9_plain 7 = .ok (.putfield 207, 3) := by decide +kernel
theorem dX9_plain_10 : decode cX9_plain 10 = .ok (.aload_n 0, 1) := by decide +kernel
theorem dX9_plain_11 : decode cX9_plain 11 = .ok (.iconst 0, 1) := by decide +kernel
theorem dX9_plain_12 : decode cX9_plain 12 = .ok (.putfield 210, 3) := by decide +kernel
theorem dX9_plain_15 : decode cX9_plain 15 = .ok (.aload_n 0, 1) := by decide +kernel
theorem dX9_plain_16 : decode cX9_plain 16 = .ok (.iconst 0, 1) := by decide +kernel
theorem dX9_plain_17 : decode cX9_plain 17 = .ok (.putfield 213, 3) := by decide +kernel
theorem dX9_plain_20 : decode cX9_plain 20 = .ok (.aload_n 0, 1) := by decide +kernel
theorem dX9_plain_21 : decode cX9_plain 21 = .ok (.iconst 0, 1) := by decide +kernel
theorem dX9_plain_22 : decode cX9_plain 22 = .ok (.putfield 216, 3) := by decide +kernel
theorem dX9_plain_25 : decode cX9_plain 25 = .ok (.iconst 0, 1) := by decide +kernel
theorem dX9_plain_26 : decode cX9_plain 26 = .ok (.istore_n 1, 1) := by decide +kernel
theorem dX9_plain_27 : decode cX9_plain 27 = .ok (.iload_n 1, 1) := by decide +kernel
theorem dX9_plain_28 : decode cX9_plain 28 = .ok (.iconst 3, 1) := by decide +kernel
theorem dX9_plain_29 : decode cX9_plain 29 = .ok (.if_icmp .ge 42, 3) := by decide +kernel
theorem dX9_plain_32 : decode cX9_plain 32 = .ok (.aload_n 0, 1) := by decide +kernel
theorem dX9_plain_33 : decode cX9_plain 33 = .ok (.getfield 20, 3) := by decide +kernel
theorem dX9_plain_36 : decode cX9_plain 36 = .ok (.iload_n 1, 1) := by decide +kernel
theorem dX9_plain_37 : decode cX9_plain 37 = .ok (.iconst 0, 1) := by decide +kernel
theorem dX9_plain_38 : decode cX9_plain 38 = .ok (.bastore, 1) := by decide +kernel
theorem dX9_plain_39 : decode cX9_plain 39 = .ok (.aload_n 0, 1) := by decide +kernel
theorem dX9_plain_40 : decode cX9_plain 40 = .ok (.getfield 54, 3) := by decide +kernel
theorem dX9_plain_43 : decode cX9_plain 43 = .ok (.iconst 3, 1) := by decide +kernel
theorem dX9_plain_44 : decode cX9_plain 44 = .ok (.iload_n 1, 1) := by decide +kernel
theorem dX9_plain_45 : decode cX9_plain 45 = .ok (.iadd, 1) := by decide +kernel
theorem dX9_plain_46 : decode cX9_plain 46 = .ok (.iconst 0, 1) := by decide +kernel
theorem dX9_plain_47 : decode cX9_plain 47 = .ok (.bastore, 1) := by decide +kernel
theorem dX9_plain_48 : decode cX9_plain 48 = .ok (.aload_n 0, 1) := by decide +kernel
theorem dX9_plain_49 : decode cX9_plain 49 = .ok (.getfield 24, 3) := by decide +kernel
theorem dX9_plain_52 : decode cX9_plain 52 = .ok (.iconst 3, 1) := by decide +kernel
theorem dX9_plain_53 : decode cX9_plain 53 = .ok (.iload_n 1, 1) := by decide +kernel
theorem dX9_plain_54 : decode cX9_plain 54 = .ok (.iadd, 1) := by decide +kernel
theorem dX9_plain_55 : decode cX9_plain 55 = .ok (.iload_n 1, 1) := by decide +kernel
theorem dX9_plain_56 : decode cX9_plain 56 = .ok (.ifCond .ne 7, 3) := by decide +kernel
theorem dX9_plain_59 : decode cX9_plain 59 = .ok (.iconst 1, 1) := by decide +kernel
theorem dX9_plain_60 : decode cX9_plain 60 = .ok (.goto 4, 3) := by decide +kernel
theorem dX9_plain_63 : decode cX9_plain 63 = .ok (.iconst 0, 1) := by decide +kernel
theorem dX9_plain_64 : decode cX9_plain 64 = .ok (.iastore, 1) := by decide +kernel
theorem dX9_plain_65 : decode cX9_plain 65 = .ok (.iinc 1 1, 3) := by decide +kernel
theorem dX9_plain_68 : decode cX9_plain 68 = .ok (.goto (-41), 3) := by decide +kernel
theorem dX9_plain_71 : decode cX9_plain 71 = .ok (.return_, 1) := by decide +kernel
theorem dX9_copies_0 : decode cX9_copies 0 = .ok (.iconst 0, 1) := by decide +kernel
theorem dX9_copies_1 : decode cX9_copies 1 = .ok (.istore_n 2, 1) := by decide +kernel
theorem dX9_copies_2 : decode cX9_copies 2 = .ok (.iload_n 2, 1) := by decide +kernel
theorem dX9_copies_3 : decode cX9_copies 3 = .ok (.iload_n 1, 1) := by decide +kernel
theorem dX9_copies_4 : decode cX9_copies 4 = .ok (.if_icmp .ge 17, 3) := by decide +kernel
theorem dX9_copies_7 : decode cX9_copies 7 = .ok (.aload_n 0, 1) := by decide +kernel
theorem dX9_copies_8 : decode cX9_copies 8 = .ok (.iload_n 2, 1) := by decide +kernel
theorem dX9_copies_9 : decode cX9_copies 9 = .ok (.aload_n 0, 1) := by decide +kernel
theorem dX9_copies_10 : decode cX9_copies 10 = .ok (.iload_n 1, 1) := by decide +kernel
theorem dX9_copies_11 : decode cX9_copies 11 = .ok (.iload_n 2, 1) := by decide +kernel
theorem dX9_copies_12 : decode cX9_copies 12 = .ok (.iadd, 1) := by decide +kernel
theorem dX9_copies_13 : decode cX9_copies 13 = .ok (.iaload, 1) := by decide +kernel
theorem dX9_copies_14 : decode cX9_copies 14 = .ok (.iastore, 1) := by decide +kernel
theorem dX9_copies_15 : decode cX9_copies 15 = .ok (.iinc 2 1, 3) := by decide +kernel
theorem dX9_copies_18 : decode cX9_copies 18 = .ok (.goto (-16), 3) := by decide +kernel
theorem dX9_copies_21 : decode cX9_copies 21 = .ok (.return_, 1) := by decide +kernel
theorem dX9_keepText_0 : decode cX9_keepText 0 = .ok (.aload_n 0, 1) := by decide +kernel
theorem dX9_keepText_1 : decode cX9_keepText 1 = .ok (.aload_n 0, 1) := by decide +kernel
theorem dX9_keepText_2 : decode cX9_keepText 2 = .ok (.getfield 204, 3) := by decide +kernel
theorem dX9_keepText_5 : decode cX9_keepText 5 = .ok (.putfield 219, 3) := by decide +kernel
theorem dX9_keepText_8 : decode cX9_keepText 8 = .ok (.aload_n 0, 1) := by decide +kernel
theorem dX9_keepText_9 : decode cX9_keepText 9 = .ok (.aload_n 0, 1) := by decide +kernel
theorem dX9_keepText_10 : decode cX9_keepText 10 = .ok (.getfield 207, 3) := by decide +kernel
theorem dX9_keepText_13 : decode cX9_keepText 13 = .ok (.putfield 222, 3) := by decide +kernel
theorem dX9_keepText_16 : decode cX9_keepText 16 = .ok (.aload_n 0, 1) := by decide +kernel
theorem dX9_keepText_17 : decode cX9_keepText 17 = .ok (.aload_n 0, 1) := by decide +kernel
theorem dX9_keepText_18 : decode cX9_keepText 18 = .ok (.getfield 210, 3) := by decide +kernel
theorem dX9_keepText_21 : decode cX9_keepText 21 = .ok (.putfield 225, 3) := by decide +kernel
theorem dX9_keepText_24 : decode cX9_keepText 24 = .ok (.aload_n 0, 1) := by decide +kernel
theorem dX9_keepText_25 : decode cX9_keepText 25 = .ok (.aload_n 0, 1) := by decide +kernel
theorem dX9_keepText_26 : decode cX9_keepText 26 = .ok (.getfield 213, 3) := by decide +kernel
theorem dX9_keepText_29 : decode cX9_keepText 29 = .ok (.putfield 228, 3) := by decide +kernel
theorem dX9_keepText_32 : decode cX9_keepText 32 = .ok (.aload_n 0, 1) := by decide +kernel
theorem dX9_keepText_33 : decode cX9_keepText 33 = .ok (.getfield 24, 3) := by decide +kernel
theorem dX9_keepText_36 : decode cX9_keepText 36 = .ok (.iconst 3, 1) := by decide +kernel
theorem dX9_keepText_37 : decode cX9_keepText 37 = .ok (.invokestatic 231, 3) := by decide +kernel
theorem dX9_keepText_40 : decode cX9_keepText 40 = .ok (.aload_n 0, 1) := by decide +kernel
theorem dX9_keepText_41 : decode cX9_keepText 41 = .ok (.getfield 27, 3) := by decide +kernel
theorem dX9_keepText_44 : decode cX9_keepText 44 = .ok (.bipush 6, 2) := by decide +kernel
theorem dX9_keepText_46 : decode cX9_keepText 46 = .ok (.invokestatic 231, 3) := by decide +kernel
theorem dX9_keepText_49 : decode cX9_keepText 49 = .ok (.aload_n 0, 1) := by decide +kernel
theorem dX9_keepText_50 : decode cX9_keepText 50 = .ok (.getfield 30, 3) := by decide +kernel
theorem dX9_keepText_53 : decode cX9_keepText 53 = .ok (.bipush 6, 2) := by decide +kernel
theorem dX9_keepText_55 : decode cX9_keepText 55 = .ok (.invokestatic 231, 3) := by decide +kernel
theorem dX9_keepText_58 : decode cX9_keepText 58 = .ok (.aload_n 0, 1) := by decide +kernel
theorem dX9_keepText_59 : decode cX9_keepText 59 = .ok (.getfield 33, 3) := by decide +kernel
theorem dX9_keepText_62 : decode cX9_keepText 62 = .ok (.bipush 6, 2) := by decide +kernel
theorem dX9_keepText_64 : decode cX9_keepText 64 = .ok (.invokestatic 231, 3) := by decide +kernel
theorem dX9_keepText_67 : decode cX9_keepText 67 = .ok (.aload_n 0, 1) := by decide +kernel
theorem dX9_keepText_68 : decode cX9_keepText 68 = .ok (.getfield 36, 3) := by decide +kernel
theorem dX9_keepText_71 : decode cX9_keepText 71 = .ok (.bipush 6, 2) := by decide +kernel
theorem dX9_keepText_73 : decode cX9_keepText 73 = .ok (.invokestatic 231, 3) := by decide +kernel
theorem dX9_keepText_76 : decode cX9_keepText 76 = .ok (.aload_n 0, 1) := by decide +kernel
theorem dX9_keepText_77 : decode cX9_keepText 77 = .ok (.getfield 39, 3) := by decide +kernel
theorem dX9_keepText_80 : decode cX9_keepText 80 = .ok (.bipush 8, 2) := by decide +kernel
theorem dX9_keepText_82 : decode cX9_keepText 82 = .ok (.invokestatic 231, 3) := by decide +kernel
theorem dX9_keepText_85 : decode cX9_keepText 85 = .ok (.aload_n 0, 1) := by decide +kernel
theorem dX9_keepText_86 : decode cX9_keepText 86 = .ok (.getfield 42, 3) := by decide +kernel
theorem dX9_keepText_89 : decode cX9_keepText 89 = .ok (.bipush 8, 2) := by decide +kernel
theorem dX9_keepText_91 : decode cX9_keepText 91 = .ok (.invokestatic 231, 3) := by decide +kernel
theorem dX9_keepText_94 : decode cX9_keepText 94 = .ok (.aload_n 0, 1) := by decide +kernel
theorem dX9_keepText_95 : decode cX9_keepText 95 = .ok (.getfield 45, 3) := by decide +kernel
theorem dX9_keepText_98 : decode cX9_keepText 98 = .ok (.bipush 8, 2) := by decide +kernel
theorem dX9_keepText_100 : decode cX9_keepText 100 = .ok (.invokestatic 231, 3) := by decide +kernel
theorem dX9_keepText_103 : decode cX9_keepText 103 = .ok (.aload_n 0, 1) := by decide +kernel
theorem dX9_keepText_104 : decode cX9_keepText 104 = .ok (.getfield 48, 3) := by decide +kernel
theorem dX9_keepText_107 : decode cX9_keepText 107 = .ok (.bipush 8, 2) := by decide +kernel
theorem dX9_keepText_109 : decode cX9_keepText 109 = .ok (.invokestatic 231, 3) := by decide +kernel
theorem dX9_keepText_112 : decode cX9_keepText 112 = .ok (.aload_n 0, 1) := by decide +kernel
theorem dX9_keepText_113 : decode cX9_keepText 113 = .ok (.getfield 51, 3) := by decide +kernel
theorem dX9_keepText_116 : decode cX9_keepText 116 = .ok (.bipush 8, 2) := by decide +kernel
theorem dX9_keepText_118 : decode cX9_keepText 118 = .ok (.invokestatic 231, 3) := by decide +kernel
theorem dX9_keepText_121 : decode cX9_keepText 121 = .ok (.iconst 0, 1) := by decide +kernel
theorem dX9_keepText_122 : decode cX9_keepText 122 = .ok (.istore_n 1, 1) := by decide +kernel
theorem dX9_keepText_123 : decode cX9_keepText 123 = .ok (.iload_n 1, 1) := by decide +kernel
theorem dX9_keepText_124 : decode cX9_keepText 124 = .ok (.iconst 3, 1) := by decide +kernel
theorem dX9_keepText_125 : decode cX9_keepText 125 = .ok (.if_icmp .ge 23, 3) := by decide +kernel
theorem dX9_keepText_128 : decode cX9_keepText 128 = .ok (.aload_n 0, 1) := by decide +kernel
theorem dX9_keepText_129 : decode cX9_keepText 129 = .ok (.getfield 54, 3) := by decide +kernel
theorem dX9_keepText_132 : decode cX9_keepText 132 = .ok (.iload_n 1, 1) := by decide +kernel
theorem dX9_keepText_133 : decode cX9_keepText 133 = .ok (.aload_n 0, 1) := by decide +kernel
theorem dX9_keepText_134 : decode cX9_keepText 134 = .ok (.getfield 54, 3) := by decide +kernel
theorem dX9_keepText_137 : decode cX9_keepText 137 = .ok (.iconst 3, 1) := by decide +kernel
theorem dX9_keepText_138 : decode cX9_keepText 138 = .ok (.iload_n 1, 1) := by decide +kernel
theorem dX9_keepText_139 : decode cX9_keepText 139 = .ok (.iadd, 1) := by decide +kernel
theorem dX9_keepText_140 : decode cX9_keepText 140 = .ok (.baload, 1) := by decide +kernel
theorem dX9_keepText_141 : decode cX9_keepText 141 = .ok (.bastore, 1) := by decide +kernel
theorem dX9_keepText_142 : decode cX9_keepText 142 = .ok (.iinc 1 1, 3) := by decide +kernel
theorem dX9_keepText_145 : decode cX9_keepText 145 = .ok (.goto (-22), 3) := by decide +kernel
theorem dX9_keepText_148 : decode cX9_keepText 148 = .ok (.aload_n 0, 1) := by decide +kernel
theorem dX9_keepText_149 : decode cX9_keepText 149 = .ok (.getfield 57, 3) := by decide +kernel
theorem dX9_keepText_152 : decode cX9_keepText 152 = .ok (.iconst 3, 1) := by decide +kernel
theorem dX9_keepText_153 : decode cX9_keepText 153 = .ok (.invokestatic 231, 3) := by decide +kernel
theorem dX9_keepText_156 : decode cX9_keepText 156 = .ok (.aload_n 0, 1) := by decide +kernel
theorem dX9_keepText_157 : decode cX9_keepText 157 = .ok (.getfield 60, 3) := by decide +kernel
theorem dX9_keepText_160 : decode cX9_keepText 160 = .ok (.iconst 3, 1) := by decide +kernel
theorem dX9_keepText_161 : decode cX9_keepText 161 = .ok (.invokestatic 231, 3) := by decide +kernel
theorem dX9_keepText_164 : decode cX9_keepText 164 = .ok (.aload_n 0, 1) := by decide +kernel
theorem dX9_keepText_165 : decode cX9_keepText 165 = .ok (.getfield 63, 3) := by decide +kernel
theorem dX9_keepText_168 : decode cX9_keepText 168 = .ok (.bipush 64, 2) := by decide +kernel
theorem dX9_keepText_170 : decode cX9_keepText 170 = .ok (.invokestatic 231, 3) := by decide +kernel
theorem dX9_keepText_173 : decode cX9_keepText 173 = .ok (.aload_n 0, 1) := by decide +kernel
theorem dX9_keepText_174 : decode cX9_keepText 174 = .ok (.getfield 69, 3) := by decide +kernel
theorem dX9_keepText_177 : decode cX9_keepText 177 = .ok (.bipush 64, 2) := by decide +kernel
theorem dX9_keepText_179 : decode cX9_keepText 179 = .ok (.invokestatic 231, 3) := by decide +kernel
theorem dX9_keepText_182 : decode cX9_keepText 182 = .ok (.aload_n 0, 1) := by decide +kernel
theorem dX9_keepText_183 : decode cX9_keepText 183 = .ok (.getfield 72, 3) := by decide +kernel
theorem dX9_keepText_186 : decode cX9_keepText 186 = .ok (.bipush 64, 2) := by decide +kernel
theorem dX9_keepText_188 : decode cX9_keepText 188 = .ok (.invokestatic 231, 3) := by decide +kernel
theorem dX9_keepText_191 : decode cX9_keepText 191 = .ok (.aload_n 0, 1) := by decide +kernel
theorem dX9_keepText_192 : decode cX9_keepText 192 = .ok (.invokevirtual 235, 3) := by decide +kernel
theorem dX9_keepText_195 : decode cX9_keepText 195 = .ok (.return_, 1) := by decide +kernel
theorem dX9_find_0 : decode cX9_find 0 = .ok (.iconst 0, 1) := by decide +kernel
theorem dX9_find_1 : decode cX9_find 1 = .ok (.istore 4, 2) := by decide +kernel
theorem dX9_find_3 : decode cX9_find 3 = .ok (.iload 4, 2) := by decide +kernel
theorem dX9_find_5 : decode cX9_find 5 = .ok (.iload_n 2, 1) := by decide +kernel
theorem dX9_find_6 : decode cX9_find 6 = .ok (.if_icmp .ge 22, 3) := by decide +kernel
theorem dX9_find_9 : decode cX9_find 9 = .ok (.aload_n 0, 1) := by decide +kernel
theorem dX9_find_10 : decode cX9_find 10 = .ok (.iload_n 1, 1) := by decide +kernel
theorem dX9_find_11 : decode cX9_find 11 = .ok (.iload 4, 2) := by decide +kernel
theorem dX9_find_13 : decode cX9_find 13 = .ok (.iadd, 1) := by decide +kernel
theorem dX9_find_14 : decode cX9_find 14 = .ok (.iaload, 1) := by decide +kernel
theorem dX9_find_15 : decode cX9_find 15 = .ok (.iload_n 3, 1) := by decide +kernel
theorem dX9_find_16 : decode cX9_find 16 = .ok (.if_icmp .ne 6, 3) := by decide +kernel
theorem dX9_find_19 : decode cX9_find 19 = .ok (.iload 4, 2) := by decide +kernel
theorem dX9_find_21 : decode cX9_find 21 = .ok (.ireturn, 1) := by decide +kernel
theorem dX9_find_22 : decode cX9_find 22 = .ok (.iinc 4 1, 3) := by decide +kernel
theorem dX9_find_25 : decode cX9_find 25 = .ok (.goto (-22), 3) := by decide +kernel
theorem dX9_find_28 : decode cX9_find 28 = .ok (.iconst (-1), 1) := by decide +kernel
theorem dX9_find_29 : decode cX9_find 29 = .ok (.ireturn, 1) := by decide +kernel
theorem dX9_newName_0 : decode cX9_newName 0 = .ok (.aload_n 0, 1) := by decide +kernel
theorem dX9_newName_1 : decode cX9_newName 1 = .ok (.getfield 160, 3) := by decide +kernel
theorem dX9_newName_4 : decode cX9_newName 4 = .ok (.iconst 2, 1) := by decide +kernel
theorem dX9_newName_5 : decode cX9_newName 5 = .ok (.if_icmp .eq 9, 3) := by decide +kernel
theorem dX9_newName_8 : decode cX9_newName 8 = .ok (.aload_n 0, 1) := by decide +kernel
theorem dX9_newName_9 : decode cX9_newName 9 = .ok (.iconst 1, 1) := by decide +kernel
theorem dX9_newName_10 : decode cX9_newName 10 = .ok (.invokevirtual 184, 3) := by decide +kernel
theorem dX9_newName_13 : decode cX9_newName 13 = .ok (.ireturn, 1) := by decide +kernel
theorem dX9_newName_14 : decode cX9_newName 14 = .ok (.aload_n 1, 1) := by decide +kernel
theorem dX9_newName_15 : decode cX9_newName 15 = .ok (.iload_n 2, 1) := by decide +kernel
theorem dX9_newName_16 : decode cX9_newName 16 = .ok (.iload_n 3, 1) := by decide +kernel
theorem dX9_newName_17 : decode cX9_newName 17 = .ok (.aload_n 0, 1) := by decide +kernel
theorem dX9_newName_18 : decode cX9_newName 18 = .ok (.getfield 171, 3) := by decide +kernel
theorem dX9_newName_21 : decode cX9_newName 21 = .ok (.invokestatic 238, 3) := by decide +kernel
theorem dX9_newName_24 : decode cX9_newName 24 = .ok (.ifCond .lt 9, 3) := by decide +kernel
theorem dX9_newName_27 : decode cX9_newName 27 = .ok (.aload_n 0, 1) := by decide +kernel
theorem dX9_newName_28 : decode cX9_newName 28 = .ok (.iconst 3, 1) := by decide +kernel
theorem dX9_newName_29 : decode cX9_newName 29 = .ok (.invokevirtual 184, 3) := by decide +kernel
theorem dX9_newName_32 : decode cX9_newName 32 = .ok (.ireturn, 1) := by decide +kernel
theorem dX9_newName_33 : decode cX9_newName 33 = .ok (.aload_n 1, 1) := by decide +kernel
theorem dX9_newName_34 : decode cX9_newName 34 = .ok (.iload_n 2, 1) := by decide +kernel
theorem dX9_newName_35 : decode cX9_newName 35 = .ok (.iload_n 3, 1) := by decide +kernel
theorem dX9_newName_36 : decode cX9_newName 36 = .ok (.iadd, 1) := by decide +kernel
theorem dX9_newName_37 : decode cX9_newName 37 = .ok (.aload_n 0, 1) := by decide +kernel
theorem dX9_newName_38 : decode cX9_newName 38 = .ok (.getfield 171, 3) := by decide +kernel
theorem dX9_newName_41 : decode cX9_newName 41 = .ok (.iastore, 1) := by decide +kernel
theorem dX9_newName_42 : decode cX9_newName 42 = .ok (.aload_n 0, 1) := by decide +kernel
theorem dX9_newName_43 : decode cX9_newName 43 = .ok (.invokevirtual 194, 3) := by decide +kernel
theorem dX9_newName_46 : decode cX9_newName 46 = .ok (.iconst 1, 1) := by decide +kernel
theorem dX9_newName_47 : decode cX9_newName 47 = .ok (.ireturn, 1) := by decide +kernel
theorem dX9_guestLine_0 : decode cX9_guestLine 0 = .ok (.aload_n 0, 1) := by decide +kernel
theorem dX9_guestLine_1 : decode cX9_guestLine 1 = .ok (.getfield 204, 3) := by decide +kernel
theorem dX9_guestLine_4 : decode cX9_guestLine 4 = .ok (.bipush 6, 2) := by decide +kernel
theorem dX9_guestLine_6 : decode cX9_guestLine 6 = .ok (.if_icmp .ne 9, 3) := by decide +kernel
theorem dX9_guestLine_9 : decode cX9_guestLine 9 = .ok (.aload_n 0, 1) := by decide +kernel
theorem dX9_guestLine_10 : decode cX9_guestLine 10 = .ok (.iconst 2, 1) := by decide +kernel
theorem dX9_guestLine_11 : decode cX9_guestLine 11 = .ok (.invokevirtual 184, 3) := by decide +kernel
theorem dX9_guestLine_14 : decode cX9_guestLine 14 = .ok (.ireturn, 1) := by decide +kernel
theorem dX9_guestLine_15 : decode cX9_guestLine 15 = .ok (.aload_n 0, 1) := by decide +kernel
theorem dX9_guestLine_16 : decode cX9_guestLine 16 = .ok (.invokevirtual 194, 3) := by decide +kernel
theorem dX9_guestLine_19 : decode cX9_guestLine 19 = .ok (.aload_n 0, 1) := by decide +kernel
theorem dX9_guestLine_20 : decode cX9_guestLine 20 = .ok (.aload_n 0, 1) := by decide +kernel
theorem dX9_guestLine_21 : decode cX9_guestLine 21 = .ok (.getfield 27, 3) := by decide +kernel
theorem dX9_guestLine_24 : decode cX9_guestLine 24 = .ok (.bipush 6, 2) := by decide +kernel
theorem dX9_guestLine_26 : decode cX9_guestLine 26 = .ok (.aload_n 0, 1) := by decide +kernel
theorem dX9_guestLine_27 : decode cX9_guestLine 27 = .ok (.getfield 204, 3) := by decide +kernel
theorem dX9_guestLine_30 : decode cX9_guestLine 30 = .ok (.invokevirtual 242, 3) := by decide +kernel
theorem dX9_guestLine_33 : decode cX9_guestLine 33 = .ok (.ifCond .ne 5, 3) := by decide +kernel
theorem dX9_guestLine_36 : decode cX9_guestLine 36 = .ok (.iconst 0, 1) := by decide +kernel
theorem dX9_guestLine_37 : decode cX9_guestLine 37 = .ok (.ireturn, 1) := by decide +kernel
theorem dX9_guestLine_38 : decode cX9_guestLine 38 = .ok (.bipush 6, 2) := by decide +kernel
theorem dX9_guestLine_40 : decode cX9_guestLine 40 = .ok (.aload_n 0, 1) := by decide +kernel
theorem dX9_guestLine_41 : decode cX9_guestLine 41 = .ok (.getfield 204, 3) := by decide +kernel
theorem dX9_guestLine_44 : decode cX9_guestLine 44 = .ok (.iadd, 1) := by decide +kernel
theorem dX9_guestLine_45 : decode cX9_guestLine 45 = .ok (.istore_n 1, 1) := by decide +kernel
theorem dX9_guestLine_46 : decode cX9_guestLine 46 = .ok (.aload_n 0, 1) := by decide +kernel
theorem dX9_guestLine_47 : decode cX9_guestLine 47 = .ok (.iconst 0, 1) := by decide +kernel
theorem dX9_guestLine_48 : decode cX9_guestLine 48 = .ok (.bipush 99, 2) := by decide +kernel
theorem dX9_guestLine_50 : decode cX9_guestLine 50 = .ok (.invokevirtual 200, 3) := by decide +kernel
theorem dX9_guestLine_53 : decode cX9_guestLine 53 = .ok (.ifCond .ne 5, 3) := by decide +kernel
theorem dX9_guestLine_56 : decode cX9_guestLine 56 = .ok (.iconst 0, 1) := by decide +kernel
theorem dX9_guestLine_57 : decode cX9_guestLine 57 = .ok (.ireturn, 1) := by decide +kernel
theorem dX9_guestLine_58 : decode cX9_guestLine 58 = .ok (.aload_n 0, 1) := by decide +kernel
theorem dX9_guestLine_59 : decode cX9_guestLine 59 = .ok (.getfield 30, 3) := by decide +kernel
theorem dX9_guestLine_62 : decode cX9_guestLine 62 = .ok (.iload_n 1, 1) := by decide +kernel
theorem dX9_guestLine_63 : decode cX9_guestLine 63 = .ok (.aload_n 0, 1) := by decide +kernel
theorem dX9_guestLine_64 : decode cX9_guestLine 64 = .ok (.getfield 191, 3) := by decide +kernel
theorem dX9_guestLine_67 : decode cX9_guestLine 67 = .ok (.iastore, 1) := by decide +kernel
theorem dX9_guestLine_68 : decode cX9_guestLine 68 = .ok (.aload_n 0, 1) := by decide +kernel
theorem dX9_guestLine_69 : decode cX9_guestLine 69 = .ok (.iconst 0, 1) := by decide +kernel
theorem dX9_guestLine_70 : decode cX9_guestLine 70 = .ok (.bipush 98, 2) := by decide +kernel
theorem dX9_guestLine_72 : decode cX9_guestLine 72 = .ok (.invokevirtual 200, 3) := by decide +kernel
theorem dX9_guestLine_75 : decode cX9_guestLine 75 = .ok (.ifCond .ne 5, 3) := by decide +kernel
theorem dX9_guestLine_78 : decode cX9_guestLine 78 = .ok (.iconst 0, 1) := by decide +kernel
theorem dX9_guestLine_79 : decode cX9_guestLine 79 = .ok (.ireturn, 1) := by decide +kernel
theorem dX9_guestLine_80 : decode cX9_guestLine 80 = .ok (.aload_n 0, 1) := by decide +kernel
theorem dX9_guestLine_81 : decode cX9_guestLine 81 = .ok (.getfield 33, 3) := by decide +kernel
theorem dX9_guestLine_84 : decode cX9_guestLine 84 = .ok (.iload_n 1, 1) := by decide +kernel
theorem dX9_guestLine_85 : decode cX9_guestLine 85 = .ok (.aload_n 0, 1) := by decide +kernel
theorem dX9_guestLine_86 : decode cX9_guestLine 86 = .ok (.getfield 191, 3) := by decide +kernel
theorem dX9_guestLine_89 : decode cX9_guestLine 89 = .ok (.iastore, 1) := by decide +kernel
theorem dX9_guestLine_90 : decode cX9_guestLine 90 = .ok (.aload_n 0, 1) := by decide +kernel
theorem dX9_guestLine_91 : decode cX9_guestLine 91 = .ok (.iconst 0, 1) := by decide +kernel
theorem dX9_guestLine_92 : decode cX9_guestLine 92 = .ok (.bipush 9, 2) := by decide +kernel
theorem dX9_guestLine_94 : decode cX9_guestLine 94 = .ok (.invokevirtual 200, 3) := by decide +kernel
theorem dX9_guestLine_97 : decode cX9_guestLine 97 = .ok (.ifCond .ne 5, 3) := by decide +kernel
theorem dX9_guestLine_100 : decode cX9_guestLine 100 = .ok (.iconst 0, 1) := by decide +kernel
theorem dX9_guestLine_101 : decode cX9_guestLine 101 = .ok (.ireturn, 1) := by decide +kernel
theorem dX9_guestLine_102 : decode cX9_guestLine 102 = .ok (.aload_n 0, 1) := by decide +kernel
theorem dX9_guestLine_103 : decode cX9_guestLine 103 = .ok (.getfield 36, 3) := by decide +kernel
theorem dX9_guestLine_106 : decode cX9_guestLine 106 = .ok (.iload_n 1, 1) := by decide +kernel
theorem dX9_guestLine_107 : decode cX9_guestLine 107 = .ok (.aload_n 0, 1) := by decide +kernel
theorem dX9_guestLine_108 : decode cX9_guestLine 108 = .ok (.getfield 191, 3) := by decide +kernel
theorem dX9_guestLine_111 : decode cX9_guestLine 111 = .ok (.iastore, 1) := by decide +kernel
theorem dX9_guestLine_112 : decode cX9_guestLine 112 = .ok (.aload_n 0, 1) := by decide +kernel
theorem dX9_guestLine_113 : decode cX9_guestLine 113 = .ok (.dup, 1) := by decide +kernel
theorem dX9_guestLine_114 : decode cX9_guestLine 114 = .ok (.getfield 204, 3) := by decide +kernel
theorem dX9_guestLine_117 : decode cX9_guestLine 117 = .ok (.iconst 1, 1) := by decide +kernel
theorem dX9_guestLine_118 : decode cX9_guestLine 118 = .ok (.iadd, 1) := by decide +kernel
theorem dX9_guestLine_119 : decode cX9_guestLine 119 = .ok (.putfield 204, 3) := by decide +kernel
theorem dX9_guestLine_122 : decode cX9_guestLine 122 = .ok (.iconst 1, 1) := by decide +kernel
theorem dX9_guestLine_123 : decode cX9_guestLine 123 = .ok (.ireturn, 1) := by decide +kernel
theorem dX9_fruitLine_0 : decode cX9_fruitLine 0 = .ok (.aload_n 0, 1) := by decide +kernel
theorem dX9_fruitLine_1 : decode cX9_fruitLine 1 = .ok (.getfield 207, 3) := by decide +kernel
theorem dX9_fruitLine_4 : decode cX9_fruitLine 4 = .ok (.bipush 8, 2) := by decide +kernel
theorem dX9_fruitLine_6 : decode cX9_fruitLine 6 = .ok (.if_icmp .ne 9, 3) := by decide +kernel
theorem dX9_fruitLine_9 : decode cX9_fruitLine 9 = .ok (.aload_n 0, 1) := by decide +kernel
theorem dX9_fruitLine_10 : decode cX9_fruitLine 10 = .ok (.iconst 2, 1) := by decide +kernel
theorem dX9_fruitLine_11 : decode cX9_fruitLine 11 = .ok (.invokevirtual 184, 3) := by decide +kernel
theorem dX9_fruitLine_14 : decode cX9_fruitLine 14 = .ok (.ireturn, 1) := by decide +kernel
theorem dX9_fruitLine_15 : decode cX9_fruitLine 15 = .ok (.aload_n 0, 1) := by decide +kernel
theorem dX9_fruitLine_16 : decode cX9_fruitLine 16 = .ok (.invokevirtual 194, 3) := by decide +kernel
theorem dX9_fruitLine_19 : decode cX9_fruitLine 19 = .ok (.aload_n 0, 1) := by decide +kernel
theorem dX9_fruitLine_20 : decode cX9_fruitLine 20 = .ok (.aload_n 0, 1) := by decide +kernel
theorem dX9_fruitLine_21 : decode cX9_fruitLine 21 = .ok (.getfield 39, 3) := by decide +kernel
theorem dX9_fruitLine_24 : decode cX9_fruitLine 24 = .ok (.bipush 8, 2) := by decide +kernel
theorem dX9_fruitLine_26 : decode cX9_fruitLine 26 = .ok (.aload_n 0, 1) := by decide +kernel
theorem dX9_fruitLine_27 : decode cX9_fruitLine 27 = .ok (.getfield 207, 3) := by decide +kernel
theorem dX9_fruitLine_30 : decode cX9_fruitLine 30 = .ok (.invokevirtual 242, 3) := by decide +kernel
theorem dX9_fruitLine_33 : decode cX9_fruitLine 33 = .ok (.ifCond .ne 5, 3) := by decide +kernel
theorem dX9_fruitLine_36 : decode cX9_fruitLine 36 = .ok (.iconst 0, 1) := by decide +kernel
theorem dX9_fruitLine_37 : decode cX9_fruitLine 37 = .ok (.ireturn, 1) := by decide +kernel
theorem dX9_fruitLine_38 : decode cX9_fruitLine 38 = .ok (.aload_n 0, 1) := by decide +kernel
theorem dX9_fruitLine_39 : decode cX9_fruitLine 39 = .ok (.iconst 0, 1) := by decide +kernel
theorem dX9_fruitLine_40 : decode cX9_fruitLine 40 = .ok (.bipush 9, 2) := by decide +kernel
theorem dX9_fruitLine_42 : decode cX9_fruitLine 42 = .ok (.invokevirtual 200, 3) := by decide +kernel
theorem dX9_fruitLine_45 : decode cX9_fruitLine 45 = .ok (.ifCond .ne 5, 3) := by decide +kernel
theorem dX9_fruitLine_48 : decode cX9_fruitLine 48 = .ok (.iconst 0, 1) := by decide +kernel
theorem dX9_fruitLine_49 : decode cX9_fruitLine 49 = .ok (.ireturn, 1) := by decide +kernel
theorem dX9_fruitLine_50 : decode cX9_fruitLine 50 = .ok (.aload_n 0, 1) := by decide +kernel
theorem dX9_fruitLine_51 : decode cX9_fruitLine 51 = .ok (.getfield 42, 3) := by decide +kernel
theorem dX9_fruitLine_54 : decode cX9_fruitLine 54 = .ok (.bipush 8, 2) := by decide +kernel
theorem dX9_fruitLine_56 : decode cX9_fruitLine 56 = .ok (.aload_n 0, 1) := by decide +kernel
theorem dX9_fruitLine_57 : decode cX9_fruitLine 57 = .ok (.getfield 207, 3) := by decide +kernel
theorem dX9_fruitLine_60 : decode cX9_fruitLine 60 = .ok (.iadd, 1) := by decide +kernel
theorem dX9_fruitLine_61 : decode cX9_fruitLine 61 = .ok (.aload_n 0, 1) := by decide +kernel
theorem dX9_fruitLine_62 : decode cX9_fruitLine 62 = .ok (.getfield 191, 3) := by decide +kernel
theorem dX9_fruitLine_65 : decode cX9_fruitLine 65 = .ok (.iastore, 1) := by decide +kernel
theorem dX9_fruitLine_66 : decode cX9_fruitLine 66 = .ok (.aload_n 0, 1) := by decide +kernel
theorem dX9_fruitLine_67 : decode cX9_fruitLine 67 = .ok (.iconst 0, 1) := by decide +kernel
theorem dX9_fruitLine_68 : decode cX9_fruitLine 68 = .ok (.iconst 1, 1) := by decide +kernel
theorem dX9_fruitLine_69 : decode cX9_fruitLine 69 = .ok (.invokevirtual 200, 3) := by decide +kernel
theorem dX9_fruitLine_72 : decode cX9_fruitLine 72 = .ok (.ifCond .ne 5, 3) := by decide +kernel
theorem dX9_fruitLine_75 : decode cX9_fruitLine 75 = .ok (.iconst 0, 1) := by decide +kernel
theorem dX9_fruitLine_76 : decode cX9_fruitLine 76 = .ok (.ireturn, 1) := by decide +kernel
theorem dX9_fruitLine_77 : decode cX9_fruitLine 77 = .ok (.aload_n 0, 1) := by decide +kernel
theorem dX9_fruitLine_78 : decode cX9_fruitLine 78 = .ok (.getfield 45, 3) := by decide +kernel
theorem dX9_fruitLine_81 : decode cX9_fruitLine 81 = .ok (.bipush 8, 2) := by decide +kernel
theorem dX9_fruitLine_83 : decode cX9_fruitLine 83 = .ok (.aload_n 0, 1) := by decide +kernel
theorem dX9_fruitLine_84 : decode cX9_fruitLine 84 = .ok (.getfield 207, 3) := by decide +kernel
theorem dX9_fruitLine_87 : decode cX9_fruitLine 87 = .ok (.iadd, 1) := by decide +kernel
theorem dX9_fruitLine_88 : decode cX9_fruitLine 88 = .ok (.aload_n 0, 1) := by decide +kernel
theorem dX9_fruitLine_89 : decode cX9_fruitLine 89 = .ok (.getfield 191, 3) := by decide +kernel
theorem dX9_fruitLine_92 : decode cX9_fruitLine 92 = .ok (.iastore, 1) := by decide +kernel
theorem dX9_fruitLine_93 : decode cX9_fruitLine 93 = .ok (.aload_n 0, 1) := by decide +kernel
theorem dX9_fruitLine_94 : decode cX9_fruitLine 94 = .ok (.dup, 1) := by decide +kernel
theorem dX9_fruitLine_95 : decode cX9_fruitLine 95 = .ok (.getfield 207, 3) := by decide +kernel
theorem dX9_fruitLine_98 : decode cX9_fruitLine 98 = .ok (.iconst 1, 1) := by decide +kernel
theorem dX9_fruitLine_99 : decode cX9_fruitLine 99 = .ok (.iadd, 1) := by decide +kernel
theorem dX9_fruitLine_100 : decode cX9_fruitLine 100 = .ok (.putfield 207, 3) := by decide +kernel
theorem dX9_fruitLine_103 : decode cX9_fruitLine 103 = .ok (.iconst 1, 1) := by decide +kernel
theorem dX9_fruitLine_104 : decode cX9_fruitLine 104 = .ok (.ireturn, 1) := by decide +kernel
theorem dX9_biteLine_0 : decode cX9_biteLine 0 = .ok (.aload_n 0, 1) := by decide +kernel
theorem dX9_biteLine_1 : decode cX9_biteLine 1 = .ok (.getfield 210, 3) := by decide +kernel
theorem dX9_biteLine_4 : decode cX9_biteLine 4 = .ok (.bipush 8, 2) := by decide +kernel
theorem dX9_biteLine_6 : decode cX9_biteLine 6 = .ok (.if_icmp .ne 9, 3) := by decide +kernel
theorem dX9_biteLine_9 : decode cX9_biteLine 9 = .ok (.aload_n 0, 1) := by decide +kernel
theorem dX9_biteLine_10 : decode cX9_biteLine 10 = .ok (.iconst 2, 1) := by decide +kernel
theorem dX9_biteLine_11 : decode cX9_biteLine 11 = .ok (.invokevirtual 184, 3) := by decide +kernel
theorem dX9_biteLine_14 : decode cX9_biteLine 14 = .ok (.ireturn, 1) := by decide +kernel
theorem dX9_biteLine_15 : decode cX9_biteLine 15 = .ok (.aload_n 0, 1) := by decide +kernel
theorem dX9_biteLine_16 : decode cX9_biteLine 16 = .ok (.invokevirtual 194, 3) := by decide +kernel
theorem dX9_biteLine_19 : decode cX9_biteLine 19 = .ok (.aload_n 0, 1) := by decide +kernel
theorem dX9_biteLine_20 : decode cX9_biteLine 20 = .ok (.getfield 160, 3) := by decide +kernel
theorem dX9_biteLine_23 : decode cX9_biteLine 23 = .ok (.iconst 2, 1) := by decide +kernel
theorem dX9_biteLine_24 : decode cX9_biteLine 24 = .ok (.if_icmp .eq 9, 3) := by decide +kernel
theorem dX9_biteLine_27 : decode cX9_biteLine 27 = .ok (.aload_n 0, 1) := by decide +kernel
theorem dX9_biteLine_28 : decode cX9_biteLine 28 = .ok (.iconst 1, 1) := by decide +kernel
theorem dX9_biteLine_29 : decode cX9_biteLine 29 = .ok (.invokevirtual 184, 3) := by decide +kernel
theorem dX9_biteLine_32 : decode cX9_biteLine 32 = .ok (.ireturn, 1) := by decide +kernel
theorem dX9_biteLine_33 : decode cX9_biteLine 33 = .ok (.aload_n 0, 1) := by decide +kernel
theorem dX9_biteLine_34 : decode cX9_biteLine 34 = .ok (.getfield 27, 3) := by decide +kernel
theorem dX9_biteLine_37 : decode cX9_biteLine 37 = .ok (.bipush 6, 2) := by decide +kernel
theorem dX9_biteLine_39 : decode cX9_biteLine 39 = .ok (.aload_n 0, 1) := by decide +kernel
theorem dX9_biteLine_40 : decode cX9_biteLine 40 = .ok (.getfield 204, 3) := by decide +kernel
theorem dX9_biteLine_43 : decode cX9_biteLine 43 = .ok (.aload_n 0, 1) := by decide +kernel
theorem dX9_biteLine_44 : decode cX9_biteLine 44 = .ok (.getfield 171, 3) := by decide +kernel
theorem dX9_biteLine_47 : decode cX9_biteLine 47 = .ok (.invokestatic 238, 3) := by decide +kernel
theorem dX9_biteLine_50 : decode cX9_biteLine 50 = .ok (.istore_n 1, 1) := by decide +kernel
theorem dX9_biteLine_51 : decode cX9_biteLine 51 = .ok (.iload_n 1, 1) := by decide +kernel
theorem dX9_biteLine_52 : decode cX9_biteLine 52 = .ok (.ifCond .ge 9, 3) := by decide +kernel
theorem dX9_biteLine_55 : decode cX9_biteLine 55 = .ok (.aload_n 0, 1) := by decide +kernel
theorem dX9_biteLine_56 : decode cX9_biteLine 56 = .ok (.iconst 4, 1) := by decide +kernel
theorem dX9_biteLine_57 : decode cX9_biteLine 57 = .ok (.invokevirtual 184, 3) := by decide +kernel
theorem dX9_biteLine_60 : decode cX9_biteLine 60 = .ok (.ireturn, 1) := by decide +kernel
theorem dX9_biteLine_61 : decode cX9_biteLine 61 = .ok (.aload_n 0, 1) := by decide +kernel
theorem dX9_biteLine_62 : decode cX9_biteLine 62 = .ok (.getfield 48, 3) := by decide +kernel
theorem dX9_biteLine_65 : decode cX9_biteLine 65 = .ok (.bipush 8, 2) := by decide +kernel
theorem dX9_biteLine_67 : decode cX9_biteLine 67 = .ok (.aload_n 0, 1) := by decide +kernel
theorem dX9_biteLine_68 : decode cX9_biteLine 68 = .ok (.getfield 210, 3) := by decide +kernel
theorem dX9_biteLine_71 : decode cX9_biteLine 71 = .ok (.iadd, 1) := by decide +kernel
theorem dX9_biteLine_72 : decode cX9_biteLine 72 = .ok (.iload_n 1, 1) := by decide +kernel
theorem dX9_biteLine_73 : decode cX9_biteLine 73 = .ok (.iastore, 1) := by decide +kernel
theorem dX9_biteLine_74 : decode cX9_biteLine 74 = .ok (.aload_n 0, 1) := by decide +kernel
theorem dX9_biteLine_75 : decode cX9_biteLine 75 = .ok (.invokevirtual 194, 3) := by decide +kernel
theorem dX9_biteLine_78 : decode cX9_biteLine 78 = .ok (.aload_n 0, 1) := by decide +kernel
theorem dX9_biteLine_79 : decode cX9_biteLine 79 = .ok (.iconst 0, 1) := by decide +kernel
theorem dX9_biteLine_80 : decode cX9_biteLine 80 = .ok (.bipush 99, 2) := by decide +kernel
theorem dX9_biteLine_82 : decode cX9_biteLine 82 = .ok (.invokevirtual 200, 3) := by decide +kernel
theorem dX9_biteLine_85 : decode cX9_biteLine 85 = .ok (.ifCond .ne 5, 3) := by decide +kernel
theorem dX9_biteLine_88 : decode cX9_biteLine 88 = .ok (.iconst 0, 1) := by decide +kernel
theorem dX9_biteLine_89 : decode cX9_biteLine 89 = .ok (.ireturn, 1) := by decide +kernel
theorem dX9_biteLine_90 : decode cX9_biteLine 90 = .ok (.aload_n 0, 1) := by decide +kernel
theorem dX9_biteLine_91 : decode cX9_biteLine 91 = .ok (.getfield 51, 3) := by decide +kernel
theorem dX9_biteLine_94 : decode cX9_biteLine 94 = .ok (.bipush 8, 2) := by decide +kernel
theorem dX9_biteLine_96 : decode cX9_biteLine 96 = .ok (.aload_n 0, 1) := by decide +kernel
theorem dX9_biteLine_97 : decode cX9_biteLine 97 = .ok (.getfield 210, 3) := by decide +kernel
theorem dX9_biteLine_100 : decode cX9_biteLine 100 = .ok (.iadd, 1) := by decide +kernel
theorem dX9_biteLine_101 : decode cX9_biteLine 101 = .ok (.aload_n 0, 1) := by decide +kernel
theorem dX9_biteLine_102 : decode cX9_biteLine 102 = .ok (.getfield 191, 3) := by decide +kernel
theorem dX9_biteLine_105 : decode cX9_biteLine 105 = .ok (.iastore, 1) := by decide +kernel
theorem dX9_biteLine_106 : decode cX9_biteLine 106 = .ok (.aload_n 0, 1) := by decide +kernel
theorem dX9_biteLine_107 : decode cX9_biteLine 107 = .ok (.dup, 1) := by decide +kernel
theorem dX9_biteLine_108 : decode cX9_biteLine 108 = .ok (.getfield 210, 3) := by decide +kernel
theorem dX9_biteLine_111 : decode cX9_biteLine 111 = .ok (.iconst 1, 1) := by decide +kernel
theorem dX9_biteLine_112 : decode cX9_biteLine 112 = .ok (.iadd, 1) := by decide +kernel
theorem dX9_biteLine_113 : decode cX9_biteLine 113 = .ok (.putfield 210, 3) := by decide +kernel
theorem dX9_biteLine_116 : decode cX9_biteLine 116 = .ok (.iconst 1, 1) := by decide +kernel
theorem dX9_biteLine_117 : decode cX9_biteLine 117 = .ok (.ireturn, 1) := by decide +kernel
theorem dX9_onceLine_0 : decode cX9_onceLine 0 = .ok (.aload_n 0, 1) := by decide +kernel
theorem dX9_onceLine_1 : decode cX9_onceLine 1 = .ok (.getfield 20, 3) := by decide +kernel
theorem dX9_onceLine_4 : decode cX9_onceLine 4 = .ok (.iload_n 1, 1) := by decide +kernel
theorem dX9_onceLine_5 : decode cX9_onceLine 5 = .ok (.baload, 1) := by decide +kernel
theorem dX9_onceLine_6 : decode cX9_onceLine 6 = .ok (.ifCond .eq 9, 3) := by decide +kernel
theorem dX9_onceLine_9 : decode cX9_onceLine 9 = .ok (.aload_n 0, 1) := by decide +kernel
theorem dX9_onceLine_10 : decode cX9_onceLine 10 = .ok (.iconst 3, 1) := by decide +kernel
theorem dX9_onceLine_11 : decode cX9_onceLine 11 = .ok (.invokevirtual 184, 3) := by decide +kernel
theorem dX9_onceLine_14 : decode cX9_onceLine 14 = .ok (.ireturn, 1) := by decide +kernel
theorem dX9_onceLine_15 : decode cX9_onceLine 15 = .ok (.aload_n 0, 1) := by decide +kernel
theorem dX9_onceLine_16 : decode cX9_onceLine 16 = .ok (.getfield 20, 3) := by decide +kernel
theorem dX9_onceLine_19 : decode cX9_onceLine 19 = .ok (.iload_n 1, 1) := by decide +kernel
theorem dX9_onceLine_20 : decode cX9_onceLine 20 = .ok (.iconst 1, 1) := by decide +kernel
theorem dX9_onceLine_21 : decode cX9_onceLine 21 = .ok (.bastore, 1) := by decide +kernel
theorem dX9_onceLine_22 : decode cX9_onceLine 22 = .ok (.aload_n 0, 1) := by decide +kernel
theorem dX9_onceLine_23 : decode cX9_onceLine 23 = .ok (.invokevirtual 194, 3) := by decide +kernel
theorem dX9_onceLine_26 : decode cX9_onceLine 26 = .ok (.aload_n 0, 1) := by decide +kernel
theorem dX9_onceLine_27 : decode cX9_onceLine 27 = .ok (.iload_n 2, 1) := by decide +kernel
theorem dX9_onceLine_28 : decode cX9_onceLine 28 = .ok (.iload_n 3, 1) := by decide +kernel
theorem dX9_onceLine_29 : decode cX9_onceLine 29 = .ok (.invokevirtual 200, 3) := by decide +kernel
theorem dX9_onceLine_32 : decode cX9_onceLine 32 = .ok (.ifCond .ne 5, 3) := by decide +kernel
theorem dX9_onceLine_35 : decode cX9_onceLine 35 = .ok (.iconst 0, 1) := by decide +kernel
theorem dX9_onceLine_36 : decode cX9_onceLine 36 = .ok (.ireturn, 1) := by decide +kernel
theorem dX9_onceLine_37 : decode cX9_onceLine 37 = .ok (.aload_n 0, 1) := by decide +kernel
theorem dX9_onceLine_38 : decode cX9_onceLine 38 = .ok (.getfield 24, 3) := by decide +kernel
theorem dX9_onceLine_41 : decode cX9_onceLine 41 = .ok (.iconst 3, 1) := by decide +kernel
theorem dX9_onceLine_42 : decode cX9_onceLine 42 = .ok (.iload_n 1, 1) := by decide +kernel
