theorem dX11_init_0 : decode cX11_init 0 = .ok (.aload_n 0, 1) := by decide +kernel
theorem dX11_init_1 : decode cX11_init 1 = .ok (.invokespecial 1, 3) := by decide +kernel
theorem dX11_init_4 : decode cX11_init 4 = .ok (.aload_n 0, 1) := by decide +kernel
theorem dX11_init_5 : decode cX11_init 5 = .ok (.sipush 136, 3) := by decide +kernel
theorem dX11_init_8 : decode cX11_init 8 = .ok (.newarray .int, 2) := by decide +kernel
theorem dX11_init_10 : decode cX11_init 10 = .ok (.putfield 7, 3) := by decide +kernel
theorem dX11_init_13 : decode cX11_init 13 = .ok (.aload_n 0, 1) := by decide +kernel
theorem dX11_init_14 : decode cX11_init 14 = .ok (.sipush 816, 3) := by decide +kernel
theorem dX11_init_17 : decode cX11_init 17 = .ok (.newarray .int, 2) := by decide +kernel
theorem dX11_init_19 : decode cX11_init 19 = .ok (.putfield 13, 3) := by decide +kernel
theorem dX11_init_22 : decode cX11_init 22 = .ok (.aload_n 0, 1) := by decide +kernel
theorem dX11_init_23 : decode cX11_init 23 = .ok (.sipush 136, 3) := by decide +kernel
theorem dX11_init_26 : decode cX11_init 26 = .ok (.newarray .int, 2) := by decide +kernel
theorem dX11_init_28 : decode cX11_init 28 = .ok (.putfield 16, 3) := by decide +kernel
theorem dX11_init_31 : decode cX11_init 31 = .ok (.aload_n 0, 1) := by decide +kernel
theorem dX11_init_32 : decode cX11_init 32 = .ok (.sipush 600, 3) := by decide +kernel
theorem dX11_init_35 : decode cX11_init 35 = .ok (.newarray .int, 2) := by decide +kernel
theorem dX11_init_37 : decode cX11_init 37 = .ok (.putfield 19, 3) := by decide +kernel
theorem dX11_init_40 : decode cX11_init 40 = .ok (.aload_n 0, 1) := by decide +kernel
theorem dX11_init_41 : decode cX11_init 41 = .ok (.sipush 400, 3) := by decide +kernel
theorem dX11_init_44 : decode cX11_init 44 = .ok (.newarray .int, 2) := by decide +kernel
theorem dX11_init_46 : decode cX11_init 46 = .ok (.putfield 22, 3) := by decide +kernel
theorem dX11_init_49 : decode cX11_init 49 = .ok (.aload_n 0, 1) := by decide +kernel
theorem dX11_init_50 : decode cX11_init 50 = .ok (.sipush 129, 3) := by decide +kernel
theorem dX11_init_53 : decode cX11_init 53 = .ok (.newarray .int, 2) := by decide +kernel
theorem dX11_init_55 : decode cX11_init 55 = .ok (.dup, 1) := by decide +kernel
theorem dX11_init_56 : decode cX11_init 56 = .ok (.iconst 0, 1) := by decide +kernel
theorem dX11_init_57 : decode cX11_init 57 = .ok (.bipush 32, 2) := by decide +kernel
theorem dX11_init_59 : decode cX11_init 59 = .ok (.iastore, 1) := by decide +kernel
theorem dX11_init_60 : decode cX11_init 60 = .ok (.dup, 1) := by decide +kernel
theorem dX11_init_61 : decode cX11_init 61 = .ok (.iconst 1, 1) := by decide +kernel
theorem dX11_init_62 : decode cX11_init 62 = .ok (.bipush 98, 2) := by decide +kernel
theorem dX11_init_64 : decode cX11_init 64 = .ok (.iastore, 1) := by decide +kernel
theorem dX11_init_65 : decode cX11_init 65 = .ok (.dup, 1) := by decide +kernel
theorem dX11_init_66 : decode cX11_init 66 = .ok (.iconst 2, 1) := by decide +kernel
theorem dX11_init_67 : decode cX11_init 67 = .ok (.bipush 101, 2) := by decide +kernel
theorem dX11_init_69 : decode cX11_init 69 = .ok (.iastore, 1) := by decide +kernel
theorem dX11_init_70 : decode cX11_init 70 = .ok (.dup, 1) := by decide +kernel
theorem dX11_init_71 : decode cX11_init 71 = .ok (.iconst 3, 1) := by decide +kernel
theorem dX11_init_72 : decode cX11_init 72 = .ok (.bipush 97, 2) := by decide +kernel
theorem dX11_init_74 : decode cX11_init 74 = .ok (.iastore, 1) := by decide +kernel
theorem dX11_init_75 : decode cX11_init 75 = .ok (.dup, 1) := by decide +kernel
theorem dX11_init_76 : decode cX11_init 76 = .ok (.iconst 4, 1) := by decide +kernel
theorem dX11_init_77 : decode cX11_init 77 = .ok (.bipush 114, 2) := by decide +kernel
theorem dX11_init_79 : decode cX11_init 79 = .ok (.iastore, 1) := by decide +kernel
theorem dX11_init_80 : decode cX11_init 80 = .ok (.dup, 1) := by decide +kernel
theorem dX11_init_81 : decode cX11_init 81 = .ok (.iconst 5, 1) := by decide +kernel
theorem dX11_init_82 : decode cX11_init 82 = .ok (.bipush 32, 2) := by decide +kernel
theorem dX11_init_84 : decode cX11_init 84 = .ok (.iastore, 1) := by decide +kernel
theorem dX11_init_85 : decode cX11_init 85 = .ok (.dup, 1) := by decide +kernel
theorem dX11_init_86 : decode cX11_init 86 = .ok (.bipush 6, 2) := by decide +kernel
theorem dX11_init_88 : decode cX11_init 88 = .ok (.bipush 119, 2) := by decide +kernel
theorem dX11_init_90 : decode cX11_init 90 = .ok (.iastore, 1) := by decide +kernel
theorem dX11_init_91 : decode cX11_init 91 = .ok (.dup, 1) := by decide +kernel
theorem dX11_init_92 : decode cX11_init 92 = .ok (.bipush 7, 2) := by decide +kernel
theorem dX11_init_94 : decode cX11_init 94 = .ok (.bipush 97, 2) := by decide +kernel
theorem dX11_init_96 : decode cX11_init 96 = .ok (.iastore, 1) := by decide +kernel
theorem dX11_init_97 : decode cX11_init 97 = .ok (.dup, 1) := by decide +kernel
theorem dX11_init_98 : decode cX11_init 98 = .ok (.bipush 8, 2) := by decide +kernel
theorem dX11_init_100 : decode cX11_init 100 = .ok (.bipush 110, 2) := by decide +kernel
theorem dX11_init_102 : decode cX11_init 102 = .ok (.iastore, 1) := by decide +kernel
theorem dX11_init_103 : decode cX11_init 103 = .ok (.dup, 1) := by decide +kernel
theorem dX11_init_104 : decode cX11_init 104 = .ok (.bipush 9, 2) := by decide +kernel
theorem dX11_init_106 : decode cX11_init 106 = .ok (.bipush 116, 2) := by decide +kernel
theorem dX11_init_108 : decode cX11_init 108 = .ok (.iastore, 1) := by decide +kernel
theorem dX11_init_109 : decode cX11_init 109 = .ok (.dup, 1) := by decide +kernel
theorem dX11_init_110 : decode cX11_init 110 = .ok (.bipush 10, 2) := by decide +kernel
theorem dX11_init_112 : decode cX11_init 112 = .ok (.bipush 32, 2) := by decide +kernel
theorem dX11_init_114 : decode cX11_init 114 = .ok (.iastore, 1) := by decide +kernel
theorem dX11_init_115 : decode cX11_init 115 = .ok (.dup, 1) := by decide +kernel
theorem dX11_init_116 : decode cX11_init 116 = .ok (.bipush 11, 2) := by decide +kernel
theorem dX11_init_118 : decode cX11_init 118 = .ok (.bipush 99, 2) := by decide +kernel
theorem dX11_init_120 : decode cX11_init 120 = .ok (.iastore, 1) := by decide +kernel
theorem dX11_init_121 : decode cX11_init 121 = .ok (.dup, 1) := by decide +kernel
theorem dX11_init_122 : decode cX11_init 122 = .ok (.bipush 12, 2) := by decide +kernel
theorem dX11_init_124 : decode cX11_init 124 = .ok (.bipush 111, 2) := by decide +kernel
theorem dX11_init_126 : decode cX11_init 126 = .ok (.iastore, 1) := by decide +kernel
theorem dX11_init_127 : decode cX11_init 127 = .ok (.dup, 1) := by decide +kernel
theorem dX11_init_128 : decode cX11_init 128 = .ok (.bipush 13, 2) := by decide +kernel
theorem dX11_init_130 : decode cX11_init 130 = .ok (.bipush 117, 2) := by decide +kernel
theorem dX11_init_132 : decode cX11_init 132 = .ok (.iastore, 1) := by decide +kernel
theorem dX11_init_133 : decode cX11_init 133 = .ok (.dup, 1) := by decide +kernel
theorem dX11_init_134 : decode cX11_init 134 = .ok (.bipush 14, 2) := by decide +kernel
theorem dX11_init_136 : decode cX11_init 136 = .ok (.bipush 110, 2) := by decide +kernel
theorem dX11_init_138 : decode cX11_init 138 = .ok (.iastore, 1) := by decide +kernel
theorem dX11_init_139 : decode cX11_init 139 = .ok (.dup, 1) := by decide +kernel
theorem dX11_init_140 : decode cX11_init 140 = .ok (.bipush 15, 2) := by decide +kernel
theorem dX11_init_142 : decode cX11_init 142 = .ok (.bipush 116, 2) := by decide +kernel
theorem dX11_init_144 : decode cX11_init 144 = .ok (.iastore, 1) := by decide +kernel
theorem dX11_init_145 : decode cX11_init 145 = .ok (.dup, 1) := by decide +kernel
theorem dX11_init_146 : decode cX11_init 146 = .ok (.bipush 16, 2) := by decide +kernel
theorem dX11_init_148 : decode cX11_init 148 = .ok (.bipush 32, 2) := by decide +kernel
theorem dX11_init_150 : decode cX11_init 150 = .ok (.iastore, 1) := by decide +kernel
theorem dX11_init_151 : decode cX11_init 151 = .ok (.dup, 1) := by decide +kernel
theorem dX11_init_152 : decode cX11_init 152 = .ok (.bipush 17, 2) := by decide +kernel
theorem dX11_init_154 : decode cX11_init 154 = .ok (.bipush 119, 2) := by decide +kernel
theorem dX11_init_156 : decode cX11_init 156 = .ok (.iastore, 1) := by decide +kernel
theorem dX11_init_157 : decode cX11_init 157 = .ok (.dup, 1) := by decide +kernel
theorem dX11_init_158 : decode cX11_init 158 = .ok (.bipush 18, 2) := by decide +kernel
theorem dX11_init_160 : decode cX11_init 160 = .ok (.bipush 104, 2) := by decide +kernel
theorem dX11_init_162 : decode cX11_init 162 = .ok (.iastore, 1) := by decide +kernel
theorem dX11_init_163 : decode cX11_init 163 = .ok (.dup, 1) := by decide +kernel
theorem dX11_init_164 : decode cX11_init 164 = .ok (.bipush 19, 2) := by decide +kernel
theorem dX11_init_166 : decode cX11_init 166 = .ok (.bipush 101, 2) := by decide +kernel
theorem dX11_init_168 : decode cX11_init 168 = .ok (.iastore, 1) := by decide +kernel
theorem dX11_init_169 : decode cX11_init 169 = .ok (.dup, 1) := by decide +kernel
theorem dX11_init_170 : decode cX11_init 170 = .ok (.bipush 20, 2) := by decide +kernel
theorem dX11_init_172 : decode cX11_init 172 = .ok (.bipush 110, 2) := by decide +kernel
theorem dX11_init_174 : decode cX11_init 174 = .ok (.iastore, 1) := by decide +kernel
theorem dX11_init_175 : decode cX11_init 175 = .ok (.dup, 1) := by decide +kernel
theorem dX11_init_176 : decode cX11_init 176 = .ok (.bipush 21, 2) := by decide +kernel
theorem dX11_init_178 : decode cX11_init 178 = .ok (.bipush 32, 2) := by decide +kernel
theorem dX11_init_180 : decode cX11_init 180 = .ok (.iastore, 1) := by decide +kernel
theorem dX11_init_181 : decode cX11_init 181 = .ok (.dup, 1) := by decide +kernel
theorem dX11_init_182 : decode cX11_init 182 = .ok (.bipush 22, 2) := by decide +kernel
theorem dX11_init_184 : decode cX11_init 184 = .ok (.bipush 111, 2) := by decide +kernel
theorem dX11_init_186 : decode cX11_init 186 = .ok (.iastore, 1) := by decide +kernel
theorem dX11_init_187 : decode cX11_init 187 = .ok (.dup, 1) := by decide +kernel
theorem dX11_init_188 : decode cX11_init 188 = .ok (.bipush 23, 2) := by decide +kernel
theorem dX11_init_190 : decode cX11_init 190 = .ok (.bipush 114, 2) := by decide +kernel
theorem dX11_init_192 : decode cX11_init 192 = .ok (.iastore, 1) := by decide +kernel
theorem dX11_init_193 : decode cX11_init 193 = .ok (.dup, 1) := by decide +kernel
theorem dX11_init_194 : decode cX11_init 194 = .ok (.bipush 24, 2) := by decide +kernel
theorem dX11_init_196 : decode cX11_init 196 = .ok (.bipush 32, 2) := by decide +kernel
theorem dX11_init_198 : decode cX11_init 198 = .ok (.iastore, 1) := by decide +kernel
theorem dX11_init_199 : decode cX11_init 199 = .ok (.dup, 1) := by decide +kernel
theorem dX11_init_200 : decode cX11_init 200 = .ok (.bipush 25, 2) := by decide +kernel
theorem dX11_init_202 : decode cX11_init 202 = .ok (.bipush 97, 2) := by decide +kernel
theorem dX11_init_204 : decode cX11_init 204 = .ok (.iastore, 1) := by decide +kernel
theorem dX11_init_205 : decode cX11_init 205 = .ok (.dup, 1) := by decide +kernel
theorem dX11_init_206 : decode cX11_init 206 = .ok (.bipush 26, 2) := by decide +kernel
theorem dX11_init_208 : decode cX11_init 208 = .ok (.bipush 110, 2) := by decide +kernel
theorem dX11_init_210 : decode cX11_init 210 = .ok (.iastore, 1) := by decide +kernel
theorem dX11_init_211 : decode cX11_init 211 = .ok (.dup, 1) := by decide +kernel
theorem dX11_init_212 : decode cX11_init 212 = .ok (.bipush 27, 2) := by decide +kernel
theorem dX11_init_214 : decode cX11_init 214 = .ok (.bipush 100, 2) := by decide +kernel
theorem dX11_init_216 : decode cX11_init 216 = .ok (.iastore, 1) := by decide +kernel
theorem dX11_init_217 : decode cX11_init 217 = .ok (.dup, 1) := by decide +kernel
theorem dX11_init_218 : decode cX11_init 218 = .ok (.bipush 28, 2) := by decide +kernel
theorem dX11_init_220 : decode cX11_init 220 = .ok (.bipush 32, 2) := by decide +kernel
theorem dX11_init_222 : decode cX11_init 222 = .ok (.iastore, 1) := by decide +kernel
theorem dX11_init_223 : decode cX11_init 223 = .ok (.dup, 1) := by decide +kernel
theorem dX11_init_224 : decode cX11_init 224 = .ok (.bipush 29, 2) := by decide +kernel
theorem dX11_init_226 : decode cX11_init 226 = .ok (.bipush 110, 2) := by decide +kernel
theorem dX11_init_228 : decode cX11_init 228 = .ok (.iastore, 1) := by decide +kernel
theorem dX11_init_229 : decode cX11_init 229 = .ok (.dup, 1) := by decide +kernel
theorem dX11_init_230 : decode cX11_init 230 = .ok (.bipush 30, 2) := by decide +kernel
theorem dX11_init_232 : decode cX11_init 232 = .ok (.bipush 111, 2) := by decide +kernel
theorem dX11_init_234 : decode cX11_init 234 = .ok (.iastore, 1) := by decide +kernel
theorem dX11_init_235 : decode cX11_init 235 = .ok (.dup, 1) := by decide +kernel
theorem dX11_init_236 : decode cX11_init 236 = .ok (.bipush 31, 2) := by decide +kernel
theorem dX11_init_238 : decode cX11_init 238 = .ok (.bipush 116, 2) := by decide +kernel
theorem dX11_init_240 : decode cX11_init 240 = .ok (.iastore, 1) := by decide +kernel
theorem dX11_init_241 : decode cX11_init 241 = .ok (.dup, 1) := by decide +kernel
theorem dX11_init_242 : decode cX11_init 242 = .ok (.bipush 32, 2) := by decide +kernel
theorem dX11_init_244 : decode cX11_init 244 = .ok (.bipush 32, 2) := by decide +kernel
theorem dX11_init_246 : decode cX11_init 246 = .ok (.iastore, 1) := by decide +kernel
theorem dX11_init_247 : decode cX11_init 247 = .ok (.dup, 1) := by decide +kernel
theorem dX11_init_248 : decode cX11_init 248 = .ok (.bipush 33, 2) := by decide +kernel
theorem dX11_init_250 : decode cX11_init 250 = .ok (.bipush 119, 2) := by decide +kernel
theorem dX11_init_252 : decode cX11_init 252 = .ok (.iastore, 1) := by decide +kernel
theorem dX11_init_253 : decode cX11_init 253 = .ok (.dup, 1) := by decide +kernel
theorem dX11_init_254 : decode cX11_init 254 = .ok (.bipush 34, 2) := by decide +kernel
theorem dX11_init_256 : decode cX11_init 256 = .ok (.bipush 101, 2) := by decide +kernel
theorem dX11_init_258 : decode cX11_init 258 = .ok (.iastore, 1) := by decide +kernel
theorem dX11_init_259 : decode cX11_init 259 = .ok (.dup, 1) := by decide +kernel
theorem dX11_init_260 : decode cX11_init 260 = .ok (.bipush 35, 2) := by decide +kernel
theorem dX11_init_262 : decode cX11_init 262 = .ok (.bipush 101, 2) := by decide +kernel
theorem dX11_init_264 : decode cX11_init 264 = .ok (.iastore, 1) := by decide +kernel
theorem dX11_init_265 : decode cX11_init 265 = .ok (.dup, 1) := by decide +kernel
theorem dX11_init_266 : decode cX11_init 266 = .ok (.bipush 36, 2) := by decide +kernel
theorem dX11_init_268 : decode cX11_init 268 = .ok (.bipush 107, 2) := by decide +kernel
theorem dX11_init_270 : decode cX11_init 270 = .ok (.iastore, 1) := by decide +kernel
theorem dX11_init_271 : decode cX11_init 271 = .ok (.dup, 1) := by decide +kernel
theorem dX11_init_272 : decode cX11_init 272 = .ok (.bipush 37, 2) := by decide +kernel
theorem dX11_init_274 : decode cX11_init 274 = .ok (.bipush 32, 2) := by decide +kernel
theorem dX11_init_276 : decode cX11_init 276 = .ok (.iastore, 1) := by decide +kernel
theorem dX11_init_277 : decode cX11_init 277 = .ok (.dup, 1) := by decide +kernel
theorem dX11_init_278 : decode cX11_init 278 = .ok (.bipush 38, 2) := by decide +kernel
theorem dX11_init_280 : decode cX11_init 280 = .ok (.bipush 112, 2) := by decide +kernel
theorem dX11_init_282 : decode cX11_init 282 = .ok (.iastore, 1) := by decide +kernel
theorem dX11_init_283 : decode cX11_init 283 = .ok (.dup, 1) := by decide +kernel
theorem dX11_init_284 : decode cX11_init 284 = .ok (.bipush 39, 2) := by decide +kernel
theorem dX11_init_286 : decode cX11_init 286 = .ok (.bipush 97, 2) := by decide +kernel
theorem dX11_init_288 : decode cX11_init 288 = .ok (.iastore, 1) := by decide +kernel
theorem dX11_init_289 : decode cX11_init 289 = .ok (.dup, 1) := by decide +kernel
theorem dX11_init_290 : decode cX11_init 290 = .ok (.bipush 40, 2) := by decide +kernel
theorem dX11_init_292 : decode cX11_init 292 = .ok (.bipush 114, 2) := by decide +kernel
theorem dX11_init_294 : decode cX11_init 294 = .ok (.iastore, 1) := by decide +kernel
theorem dX11_init_295 : decode cX11_init 295 = .ok (.dup, 1) := by decide +kernel
theorem dX11_init_296 : decode cX11_init 296 = .ok (.bipush 41, 2) := by decide +kernel
theorem dX11_init_298 : decode cX11_init 298 = .ok (.bipush 116, 2) := by decide +kernel
theorem dX11_init_300 : decode cX11_init 300 = .ok (.iastore, 1) := by decide +kernel
theorem dX11_init_301 : decode cX11_init 301 = .ok (.dup, 1) := by decide +kernel
theorem dX11_init_302 : decode cX11_init 302 = .ok (.bipush 42, 2) := by decide +kernel
theorem dX11_init_304 : decode cX11_init 304 = .ok (.bipush 121, 2) := by decide +kernel
theorem dX11_init_306 : decode cX11_init 306 = .ok (.iastore, 1) := by decide +kernel
theorem dX11_init_307 : decode cX11_init 307 = .ok (.dup, 1) := by decide +kernel
theorem dX11_init_308 : decode cX11_init 308 = .ok (.bipush 43, 2) := by decide +kernel
theorem dX11_init_310 : decode cX11_init 310 = .ok (.bipush 32, 2) := by decide +kernel
theorem dX11_init_312 : decode cX11_init 312 = .ok (.iastore, 1) := by decide +kernel
theorem dX11_init_313 : decode cX11_init 313 = .ok (.dup, 1) := by decide +kernel
theorem dX11_init_314 : decode cX11_init 314 = .ok (.bipush 44, 2) := by decide +kernel
theorem dX11_init_316 : decode cX11_init 316 = .ok (.bipush 112, 2) := by decide +kernel
theorem dX11_init_318 : decode cX11_init 318 = .ok (.iastore, 1) := by decide +kernel
theorem dX11_init_319 : decode cX11_init 319 = .ok (.dup, 1) := by decide +kernel
theorem dX11_init_320 : decode cX11_init 320 = .ok (.bipush 45, 2) := by decide +kernel
theorem dX11_init_322 : decode cX11_init 322 = .ok (.bipush 108, 2) := by decide +kernel
theorem dX11_init_324 : decode cX11_init 324 = .ok (.iastore, 1) := by decide +kernel
theorem dX11_init_325 : decode cX11_init 325 = .ok (.dup, 1) := by decide +kernel
theorem dX11_init_326 : decode cX11_init 326 = .ok (.bipush 46, 2) := by decide +kernel
theorem dX11_init_328 : decode cX11_init 328 = .ok (.bipush 97, 2) := by decide +kernel
theorem dX11_init_330 : decode cX11_init 330 = .ok (.iastore, 1) := by decide +kernel
theorem dX11_init_331 : decode cX11_init 331 = .ok (.dup, 1) := by decide +kernel
theorem dX11_init_332 : decode cX11_init 332 = .ok (.bipush 47, 2) := by decide +kernel
theorem dX11_init_334 : decode cX11_init 334 = .ok (.bipush 99, 2) := by decide +kernel
theorem dX11_init_336 : decode cX11_init 336 = .ok (.iastore, 1) := by decide +kernel
theorem dX11_init_337 : decode cX11_init 337 = .ok (.dup, 1) := by decide +kernel
theorem dX11_init_338 : decode cX11_init 338 = .ok (.bipush 48, 2) := by decide +kernel
theorem dX11_init_340 : decode cX11_init 340 = .ok (.bipush 101, 2) := by decide +kernel
theorem dX11_init_342 : decode cX11_init 342 = .ok (.iastore, 1) := by decide +kernel
theorem dX11_init_343 : decode cX11_init 343 = .ok (.dup, 1) := by decide +kernel
theorem dX11_init_344 : decode cX11_init 344 = .ok (.bipush 49, 2) := by decide +kernel
theorem dX11_init_346 : decode cX11_init 346 = .ok (.bipush 32, 2) := by decide +kernel
theorem dX11_init_348 : decode cX11_init 348 = .ok (.iastore, 1) := by decide +kernel
theorem dX11_init_349 : decode cX11_init 349 = .ok (.dup, 1) := by decide +kernel
theorem dX11_init_350 : decode cX11_init 350 = .ok (.bipush 50, 2) := by decide +kernel
theorem dX11_init_352 : decode cX11_init 352 = .ok (.bipush 97, 2) := by decide +kernel
theorem dX11_init_354 : decode cX11_init 354 = .ok (.iastore, 1) := by decide +kernel
theorem dX11_init_355 : decode cX11_init 355 = .ok (.dup, 1) := by decide +kernel
theorem dX11_init_356 : decode cX11_init 356 = .ok (.bipush 51, 2) := by decide +kernel
theorem dX11_init_358 : decode cX11_init 358 = .ok (.bipush 103, 2) := by decide +kernel
theorem dX11_init_360 : decode cX11_init 360 = .ok (.iastore, 1) := by decide +kernel
theorem dX11_init_361 : decode cX11_init 361 = .ok (.dup, 1) := by decide +kernel
theorem dX11_init_362 : decode cX11_init 362 = .ok (.bipush 52, 2) := by decide +kernel
theorem dX11_init_364 : decode cX11_init 364 = .ok (.bipush 101, 2) := by decide +kernel
theorem dX11_init_366 : decode cX11_init 366 = .ok (.iastore, 1) := by decide +kernel
theorem dX11_init_367 : decode cX11_init 367 = .ok (.dup, 1) := by decide +kernel
theorem dX11_init_368 : decode cX11_init 368 = .ok (.bipush 53, 2) := by decide +kernel
theorem dX11_init_370 : decode cX11_init 370 = .ok (.bipush 32, 2) := by decide +kernel
theorem dX11_init_372 : decode cX11_init 372 = .ok (.iastore, 1) := by decide +kernel
theorem dX11_init_373 : decode cX11_init 373 = .ok (.dup, 1) := by decide +kernel
theorem dX11_init_374 : decode cX11_init 374 = .ok (.bipush 54, 2) := by decide +kernel
theorem dX11_init_376 : decode cX11_init 376 = .ok (.bipush 104, 2) := by decide +kernel
theorem dX11_init_378 : decode cX11_init 378 = .ok (.iastore, 1) := by decide +kernel
theorem dX11_init_379 : decode cX11_init 379 = .ok (.dup, 1) := by decide +kernel
theorem dX11_init_380 : decode cX11_init 380 = .ok (.bipush 55, 2) := by decide +kernel
theorem dX11_init_382 : decode cX11_init 382 = .ok (.bipush 97, 2) := by decide +kernel
theorem dX11_init_384 : decode cX11_init 384 = .ok (.iastore, 1) := by decide +kernel
theorem dX11_init_385 : decode cX11_init 385 = .ok (.dup, 1) := by decide +kernel
theorem dX11_init_386 : decode cX11_init 386 = .ok (.bipush 56, 2) := by decide +kernel
theorem dX11_init_388 : decode cX11_init 388 = .ok (.bipush 110, 2) := by decide +kernel
theorem dX11_init_390 : decode cX11_init 390 = .ok (.iastore, 1) := by decide +kernel
theorem dX11_init_391 : decode cX11_init 391 = .ok (.dup, 1) := by decide +kernel
theorem dX11_init_392 : decode cX11_init 392 = .ok (.bipush 57, 2) := by decide +kernel
theorem dX11_init_394 : decode cX11_init 394 = .ok (.bipush 103, 2) := by decide +kernel
theorem dX11_init_396 : decode cX11_init 396 = .ok (.iastore, 1) := by decide +kernel
theorem dX11_init_397 : decode cX11_init 397 = .ok (.dup, 1) := by decide +kernel
theorem dX11_init_398 : decode cX11_init 398 = .ok (.bipush 58, 2) := by decide +kernel
theorem dX11_init_400 : decode cX11_init 400 = .ok (.bipush 105, 2) := by decide +kernel
theorem dX11_init_402 : decode cX11_init 402 = .ok (.iastore, 1) := by decide +kernel
theorem dX11_init_403 : decode cX11_init 403 = .ok (.dup, 1) := by decide +kernel
theorem dX11_init_404 : decode cX11_init 404 = .ok (.bipush 59, 2) := by decide +kernel
theorem dX11_init_406 : decode cX11_init 406 = .ok (.bipush 110, 2) := by decide +kernel
theorem dX11_init_408 : decode cX11_init 408 = .ok (.iastore, 1) := by decide +kernel
theorem dX11_init_409 : decode cX11_init 409 = .ok (.dup, 1) := by decide +kernel
theorem dX11_init_410 : decode cX11_init 410 = .ok (.bipush 60, 2) := by decide +kernel
theorem dX11_init_412 : decode cX11_init 412 = .ok (.bipush 103, 2) := by decide +kernel
theorem dX11_init_414 : decode cX11_init 414 = .ok (.iastore, 1) := by decide +kernel
theorem dX11_init_415 : decode cX11_init 415 = .ok (.dup, 1) := by decide +kernel
theorem dX11_init_416 : decode cX11_init 416 = .ok (.bipush 61, 2) := by decide +kernel
theorem dX11_init_418 : decode cX11_init 418 = .ok (.bipush 32, 2) := by decide +kernel
theorem dX11_init_420 : decode cX11_init 420 = .ok (.iastore, 1) := by decide +kernel
theorem dX11_init_421 : decode cX11_init 421 = .ok (.dup, 1) := by decide +kernel
theorem dX11_init_422 : decode cX11_init 422 = .ok (.bipush 62, 2) := by decide +kernel
theorem dX11_init_424 : decode cX11_init 424 = .ok (.bipush 104, 2) := by decide +kernel
theorem dX11_init_426 : decode cX11_init 426 = .ok (.iastore, 1) := by decide +kernel
theorem dX11_init_427 : decode cX11_init 427 = .ok (.dup, 1) := by decide +kernel
theorem dX11_init_428 : decode cX11_init 428 = .ok (.bipush 63, 2) := by decide +kernel
theorem dX11_init_430 : decode cX11_init 430 = .ok (.bipush 117, 2) := by decide +kernel
theorem dX11_init_432 : decode cX11_init 432 = .ok (.iastore, 1) := by decide +kernel
theorem dX11_init_433 : decode cX11_init 433 = .ok (.dup, 1) := by decide +kernel
theorem dX11_init_434 : decode cX11_init 434 = .ok (.bipush 64, 2) := by decide +kernel
theorem dX11_init_436 : decode cX11_init 436 = .ok (.bipush 110, 2) := by decide +kernel
theorem dX11_init_438 : decode cX11_init 438 = .ok (.iastore, 1) := by decide +kernel
theorem dX11_init_439 : decode cX11_init 439 = .ok (.dup, 1) := by decide +kernel
theorem dX11_init_440 : decode cX11_init 440 = .ok (.bipush 65, 2) := by decide +kernel
theorem dX11_init_442 : decode cX11_init 442 = .ok (.bipush 103, 2) := by decide +kernel
theorem dX11_init_444 : decode cX11_init 444 = .ok (.iastore, 1) := by decide +kernel
theorem dX11_init_445 : decode cX11_init 445 = .ok (.dup, 1) := by decide +kernel
theorem dX11_init_446 : decode cX11_init 446 = .ok (.bipush 66, 2) := by decide +kernel
theorem dX11_init_448 : decode cX11_init 448 = .ok (.bipush 101, 2) := by decide +kernel
theorem dX11_init_450 : decode cX11_init 450 = .ok (.iastore, 1) := by decide +kernel
theorem dX11_init_451 : decode cX11_init 451 = .ok (.dup, 1) := by decide +kernel
theorem dX11_init_452 : decode cX11_init 452 = .ok (.bipush 67, 2) := by decide +kernel
theorem dX11_init_454 : decode cX11_init 454 = .ok (.bipush 114, 2) := by decide +kernel
theorem dX11_init_456 : decode cX11_init 456 = .ok (.iastore, 1) := by decide +kernel
theorem dX11_init_457 : decode cX11_init 457 = .ok (.dup, 1) := by decide +kernel
theorem dX11_init_458 : decode cX11_init 458 = .ok (.bipush 68, 2) := by decide +kernel
theorem dX11_init_460 : decode cX11_init 460 = .ok (.bipush 32, 2) := by decide +kernel
theorem dX11_init_462 : decode cX11_init 462 = .ok (.iastore, 1) := by decide +kernel
theorem dX11_init_463 : decode cX11_init 463 = .ok (.dup, 1) := by decide +kernel
theorem dX11_init_464 : decode cX11_init 464 = .ok (.bipush 69, 2) := by decide +kernel
theorem dX11_init_466 : decode cX11_init 466 = .ok (.bipush 116, 2) := by decide +kernel
theorem dX11_init_468 : decode cX11_init 468 = .ok (.iastore, 1) := by decide +kernel
theorem dX11_init_469 : decode cX11_init 469 = .ok (.dup, 1) := by decide +kernel
theorem dX11_init_470 : decode cX11_init 470 = .ok (.bipush 70, 2) := by decide +kernel
theorem dX11_init_472 : decode cX11_init 472 = .ok (.bipush 97, 2) := by decide +kernel
theorem dX11_init_474 : decode cX11_init 474 = .ok (.iastore, 1) := by decide +kernel
theorem dX11_init_475 : decode cX11_init 475 = .ok (.dup, 1) := by decide +kernel
theorem dX11_init_476 : decode cX11_init 476 = .ok (.bipush 71, 2) := by decide +kernel
theorem dX11_init_478 : decode cX11_init 478 = .ok (.bipush 115, 2) := by decide +kernel
theorem dX11_init_480 : decode cX11_init 480 = .ok (.iastore, 1) := by decide +kernel
theorem dX11_init_481 : decode cX11_init 481 = .ok (.dup, 1) := by decide +kernel
theorem dX11_init_482 : decode cX11_init 482 = .ok (.bipush 72, 2) := by decide +kernel
theorem dX11_init_484 : decode cX11_init 484 = .ok (.bipush 116, 2) := by decide +kernel
theorem dX11_init_486 : decode cX11_init 486 = .ok (.iastore, 1) := by decide +kernel
theorem dX11_init_487 : decode cX11_init 487 = .ok (.dup, 1) := by decide +kernel
theorem dX11_init_488 : decode cX11_init 488 = .ok (.bipush 73, 2) := by decide +kernel
theorem dX11_init_490 : decode cX11_init 490 = .ok (.bipush 101, 2) := by decide +kernel
theorem dX11_init_492 : decode cX11_init 492 = .ok (.iastore, 1) := by decide +kernel
theorem dX11_init_493 : decode cX11_init 493 = .ok (.dup, 1) := by decide +kernel
theorem dX11_init_494 : decode cX11_init 494 = .ok (.bipush 74, 2) := by decide +kernel
theorem dX11_init_496 : decode cX11_init 496 = .ok (.bipush 32, 2) := by decide +kernel
theorem dX11_init_498 : decode cX11_init 498 = .ok (.iastore, 1) := by decide +kernel
theorem dX11_init_499 : decode cX11_init 499 = .ok (.dup, 1) := by decide +kernel
theorem dX11_init_500 : decode cX11_init 500 = .ok (.bipush 75, 2) := by decide +kernel
theorem dX11_init_502 : decode cX11_init 502 = .ok (.bipush 106, 2) := by decide +kernel
theorem dX11_init_504 : decode cX11_init 504 = .ok (.iastore, 1) := by decide +kernel
theorem dX11_init_505 : decode cX11_init 505 = .ok (.dup, 1) := by decide +kernel
theorem dX11_init_506 : decode cX11_init 506 = .ok (.bipush 76, 2) := by decide +kernel
theorem dX11_init_508 : decode cX11_init 508 = .ok (.bipush 97, 2) := by decide +kernel
theorem dX11_init_510 : decode cX11_init 510 = .ok (.iastore, 1) := by decide +kernel
theorem dX11_init_511 : decode cX11_init 511 = .ok (.dup, 1) := by decide +kernel
theorem dX11_init_512 : decode cX11_init 512 = .ok (.bipush 77, 2) := by decide +kernel
theorem dX11_init_514 : decode cX11_init 514 = .ok (.bipush 109, 2) := by decide +kernel
theorem dX11_init_516 : decode cX11_init 516 = .ok (.iastore, 1) := by decide +kernel
theorem dX11_init_517 : decode cX11_init 517 = .ok (.dup, 1) := by decide +kernel
theorem dX11_init_518 : decode cX11_init 518 = .ok (.bipush 78, 2) := by decide +kernel
theorem dX11_init_520 : decode cX11_init 520 = .ok (.bipush 32, 2) := by decide +kernel
theorem dX11_init_522 : decode cX11_init 522 = .ok (.iastore, 1) := by decide +kernel
theorem dX11_init_523 : decode cX11_init 523 = .ok (.dup, 1) := by decide +kernel
theorem dX11_init_524 : decode cX11_init 524 = .ok (.bipush 79, 2) := by decide +kernel
theorem dX11_init_526 : decode cX11_init 526 = .ok (.bipush 115, 2) := by decide +kernel
theorem dX11_init_528 : decode cX11_init 528 = .ok (.iastore, 1) := by decide +kernel
theorem dX11_init_529 : decode cX11_init 529 = .ok (.dup, 1) := by decide +kernel
theorem dX11_init_530 : decode cX11_init 530 = .ok (.bipush 80, 2) := by decide +kernel
theorem dX11_init_532 : decode cX11_init 532 = .ok (.bipush 101, 2) := by decide +kernel
theorem dX11_init_534 : decode cX11_init 534 = .ok (.iastore, 1) := by decide +kernel
theorem dX11_init_535 : decode cX11_init 535 = .ok (.dup, 1) := by decide +kernel
theorem dX11_init_536 : decode cX11_init 536 = .ok (.bipush 81, 2) := by decide +kernel
theorem dX11_init_538 : decode cX11_init 538 = .ok (.bipush 97, 2) := by decide +kernel
theorem dX11_init_540 : decode cX11_init 540 = .ok (.iastore, 1) := by decide +kernel
theorem dX11_init_541 : decode cX11_init 541 = .ok (.dup, 1) := by decide +kernel
theorem dX11_init_542 : decode cX11_init 542 = .ok (.bipush 82, 2) := by decide +kernel
theorem dX11_init_544 : decode cX11_init 544 = .ok (.bipush 116, 2) := by decide +kernel
theorem dX11_init_546 : decode cX11_init 546 = .ok (.iastore, 1) := by decide +kernel
theorem dX11_init_547 : decode cX11_init 547 = .ok (.dup, 1) := by decide +kernel
theorem dX11_init_548 : decode cX11_init 548 = .ok (.bipush 83, 2) := by decide +kernel
theorem dX11_init_550 : decode cX11_init 550 = .ok (.bipush 115, 2) := by decide +kernel
theorem dX11_init_552 : decode cX11_init 552 = .ok (.iastore, 1) := by decide +kernel
theorem dX11_init_553 : decode cX11_init 553 = .ok (.dup, 1) := by decide +kernel
theorem dX11_init_554 : decode cX11_init 554 = .ok (.bipush 84, 2) := by decide +kernel
theorem dX11_init_556 : decode cX11_init 556 = .ok (.bipush 32, 2) := by decide +kernel
theorem dX11_init_558 : decode cX11_init 558 = .ok (.iastore, 1) := by decide +kernel
theorem dX11_init_559 : decode cX11_init 559 = .ok (.dup, 1) := by decide +kernel
theorem dX11_init_560 : decode cX11_init 560 = .ok (.bipush 85, 2) := by decide +kernel
theorem dX11_init_562 : decode cX11_init 562 = .ok (.bipush 101, 2) := by decide +kernel
theorem dX11_init_564 : decode cX11_init 564 = .ok (.iastore, 1) := by decide +kernel
theorem dX11_init_565 : decode cX11_init 565 = .ok (.dup, 1) := by decide +kernel
theorem dX11_init_566 : decode cX11_init 566 = .ok (.bipush 86, 2) := by decide +kernel
theorem dX11_init_568 : decode cX11_init 568 = .ok (.bipush 97, 2) := by decide +kernel
theorem dX11_init_570 : decode cX11_init 570 = .ok (.iastore, 1) := by decide +kernel
theorem dX11_init_571 : decode cX11_init 571 = .ok (.dup, 1) := by decide +kernel
theorem dX11_init_572 : decode cX11_init 572 = .ok (.bipush 87, 2) := by decide +kernel
theorem dX11_init_574 : decode cX11_init 574 = .ok (.bipush 116, 2) := by decide +kernel
theorem dX11_init_576 : decode cX11_init 576 = .ok (.iastore, 1) := by decide +kernel
theorem dX11_init_577 : decode cX11_init 577 = .ok (.dup, 1) := by decide +kernel
theorem dX11_init_578 : decode cX11_init 578 = .ok (.bipush 88, 2) := by decide +kernel
theorem dX11_init_580 : decode cX11_init 580 = .ok (.bipush 101, 2) := by decide +kernel
theorem dX11_init_582 : decode cX11_init 582 = .ok (.iastore, 1) := by decide +kernel
theorem dX11_init_583 : decode cX11_init 583 = .ok (.dup, 1) := by decide +kernel
theorem dX11_init_584 : decode cX11_init 584 = .ok (.bipush 89, 2) := by decide +kernel
theorem dX11_init_586 : decode cX11_init 586 = .ok (.bipush 114, 2) := by decide +kernel
theorem dX11_init_588 : decode cX11_init 588 = .ok (.iastore, 1) := by decide +kernel
theorem dX11_init_589 : decode cX11_init 589 = .ok (.dup, 1) := by decide +kernel
theorem dX11_init_590 : decode cX11_init 590 = .ok (.bipush 90, 2) := by decide +kernel
theorem dX11_init_592 : decode cX11_init 592 = .ok (.bipush 32, 2) := by decide +kernel
theorem dX11_init_594 : decode cX11_init 594 = .ok (.iastore, 1) := by decide +kernel
theorem dX11_init_595 : decode cX11_init 595 = .ok (.dup, 1) := by decide +kernel
theorem dX11_init_596 : decode cX11_init 596 = .ok (.bipush 91, 2) := by decide +kernel
theorem dX11_init_598 : decode cX11_init 598 = .ok (.bipush 98, 2) := by decide +kernel
theorem dX11_init_600 : decode cX11_init 600 = .ok (.iastore, 1) := by decide +kernel
theorem dX11_init_601 : decode cX11_init 601 = .ok (.dup, 1) := by decide +kernel
theorem dX11_init_602 : decode cX11_init 602 = .ok (.bipush 92, 2) := by decide +kernel
theorem dX11_init_604 : decode cX11_init 604 = .ok (.bipush 121, 2) := by decide +kernel
theorem dX11_init_606 : decode cX11_init 606 = .ok (.iastore, 1) := by decide +kernel
theorem dX11_init_607 : decode cX11_init 607 = .ok (.dup, 1) := by decide +kernel
theorem dX11_init_608 : decode cX11_init 608 = .ok (.bipush 93, 2) := by decide +kernel
theorem dX11_init_610 : decode cX11_init 610 = .ok (.bipush 32, 2) := by decide +kernel
theorem dX11_init_612 : decode cX11_init 612 = .ok (.iastore, 1) := by decide +kernel
theorem dX11_init_613 : decode cX11_init 613 = .ok (.dup, 1) := by decide +kernel
theorem dX11_init_614 : decode cX11_init 614 = .ok (.bipush 94, 2) := by decide +kernel
theorem dX11_init_616 : decode cX11_init 616 = .ok (.bipush 111, 2) := by decide +kernel
theorem dX11_init_618 : decode cX11_init 618 = .ok (.iastore, 1) := by decide +kernel
theorem dX11_init_619 : decode cX11_init 619 = .ok (.dup, 1) := by decide +kernel
theorem dX11_init_620 : decode cX11_init 620 = .ok (.bipush 95, 2) := by decide +kernel
theorem dX11_init_622 : decode cX11_init 622 = .ok (.bipush 110, 2) := by decide +kernel
theorem dX11_init_624 : decode cX11_init 624 = .ok (.iastore, 1) := by decide +kernel
theorem dX11_init_625 : decode cX11_init 625 = .ok (.dup, 1) := by decide +kernel
theorem dX11_init_626 : decode cX11_init 626 = .ok (.bipush 96, 2) := by decide +kernel
theorem dX11_init_628 : decode cX11_init 628 = .ok (.bipush 32, 2) := by decide +kernel
theorem dX11_init_630 : decode cX11_init 630 = .ok (.iastore, 1) := by decide +kernel
theorem dX11_init_631 : decode cX11_init 631 = .ok (.dup, 1) := by decide +kernel
theorem dX11_init_632 : decode cX11_init 632 = .ok (.bipush 97, 2) := by decide +kernel
theorem dX11_init_634 : decode cX11_init 634 = .ok (.bipush 112, 2) := by decide +kernel
theorem dX11_init_636 : decode cX11_init 636 = .ok (.iastore, 1) := by decide +kernel
theorem dX11_init_637 : decode cX11_init 637 = .ok (.dup, 1) := by decide +kernel
theorem dX11_init_638 : decode cX11_init 638 = .ok (.bipush 98, 2) := by decide +kernel
theorem dX11_init_640 : decode cX11_init 640 = .ok (.bipush 108, 2) := by decide +kernel
theorem dX11_init_642 : decode cX11_init 642 = .ok (.iastore, 1) := by decide +kernel
theorem dX11_init_643 : decode cX11_init 643 = .ok (.dup, 1) := by decide +kernel
theorem dX11_init_644 : decode cX11_init 644 = .ok (.bipush 99, 2) := by decide +kernel
theorem dX11_init_646 : decode cX11_init 646 = .ok (.bipush 97, 2) := by decide +kernel
theorem dX11_init_648 : decode cX11_init 648 = .ok (.iastore, 1) := by decide +kernel
theorem dX11_init_649 : decode cX11_init 649 = .ok (.dup, 1) := by decide +kernel
theorem dX11_init_650 : decode cX11_init 650 = .ok (.bipush 100, 2) := by decide +kernel
theorem dX11_init_652 : decode cX11_init 652 = .ok (.bipush 110, 2) := by decide +kernel
theorem dX11_init_654 : decode cX11_init 654 = .ok (.iastore, 1) := by decide +kernel
theorem dX11_init_655 : decode cX11_init 655 = .ok (.dup, 1) := by decide +kernel
theorem dX11_init_656 : decode cX11_init 656 = .ok (.bipush 101, 2) := by decide +kernel
theorem dX11_init_658 : decode cX11_init 658 = .ok (.bipush 116, 2) := by decide +kernel
theorem dX11_init_660 : decode cX11_init 660 = .ok (.iastore, 1) := by decide +kernel
theorem dX11_init_661 : decode cX11_init 661 = .ok (.dup, 1) := by decide +kernel
theorem dX11_init_662 : decode cX11_init 662 = .ok (.bipush 102, 2) := by decide +kernel
theorem dX11_init_664 : decode cX11_init 664 = .ok (.bipush 32, 2) := by decide +kernel
theorem dX11_init_666 : decode cX11_init 666 = .ok (.iastore, 1) := by decide +kernel
theorem dX11_init_667 : decode cX11_init 667 = .ok (.dup, 1) := by decide +kernel
theorem dX11_init_668 : decode cX11_init 668 = .ok (.bipush 103, 2) := by decide +kernel
theorem dX11_init_670 : decode cX11_init 670 = .ok (.bipush 97, 2) := by decide +kernel
theorem dX11_init_672 : decode cX11_init 672 = .ok (.iastore, 1) := by decide +kernel
theorem dX11_init_673 : decode cX11_init 673 = .ok (.dup, 1) := by decide +kernel
theorem dX11_init_674 : decode cX11_init 674 = .ok (.bipush 104, 2) := by decide +kernel
theorem dX11_init_676 : decode cX11_init 676 = .ok (.bipush 116, 2) := by decide +kernel
theorem dX11_init_678 : decode cX11_init 678 = .ok (.iastore, 1) := by decide +kernel
theorem dX11_init_679 : decode cX11_init 679 = .ok (.dup, 1) := by decide +kernel
theorem dX11_init_680 : decode cX11_init 680 = .ok (.bipush 105, 2) := by decide +kernel
theorem dX11_init_682 : decode cX11_init 682 = .ok (.bipush 32, 2) := by decide +kernel
theorem dX11_init_684 : decode cX11_init 684 = .ok (.iastore, 1) := by decide +kernel
theorem dX11_init_685 : decode cX11_init 685 = .ok (.dup, 1) := by decide +kernel
theorem dX11_init_686 : decode cX11_init 686 = .ok (.bipush 106, 2) := by decide +kernel
theorem dX11_init_688 : decode cX11_init 688 = .ok (.bipush 102, 2) := by decide +kernel
theorem dX11_init_690 : decode cX11_init 690 = .ok (.iastore, 1) := by decide +kernel
theorem dX11_init_691 : decode cX11_init 691 = .ok (.dup, 1) := by decide +kernel
theorem dX11_init_692 : decode cX11_init 692 = .ok (.bipush 107, 2) := by decide +kernel
theorem dX11_init_694 : decode cX11_init 694 = .ok (.bipush 101, 2) := by decide +kernel
theorem dX11_init_696 : decode cX11_init 696 = .ok (.iastore, 1) := by decide +kernel
theorem dX11_init_697 : decode cX11_init 697 = .ok (.dup, 1) := by decide +kernel
theorem dX11_init_698 : decode cX11_init 698 = .ok (.bipush 108, 2) := by decide +kernel
theorem dX11_init_700 : decode cX11_init 700 = .ok (.bipush 110, 2) := by decide +kernel
theorem dX11_init_702 : decode cX11_init 702 = .ok (.iastore, 1) := by decide +kernel
theorem dX11_init_703 : decode cX11_init 703 = .ok (.dup, 1) := by decide +kernel
theorem dX11_init_704 : decode cX11_init 704 = .ok (.bipush 109, 2) := by decide +kernel
theorem dX11_init_706 : decode cX11_init 706 = .ok (.bipush 99, 2) := by decide +kernel
theorem dX11_init_708 : decode cX11_init 708 = .ok (.iastore, 1) := by decide +kernel
theorem dX11_init_709 : decode cX11_init 709 = .ok (.dup, 1) := by decide +kernel
theorem dX11_init_710 : decode cX11_init 710 = .ok (.bipush 110, 2) := by decide +kernel
theorem dX11_init_712 : decode cX11_init 712 = .ok (.bipush 101, 2) := by decide +kernel
theorem dX11_init_714 : decode cX11_init 714 = .ok (.iastore, 1) := by decide +kernel
theorem dX11_init_715 : decode cX11_init 715 = .ok (.dup, 1) := by decide +kernel
theorem dX11_init_716 : decode cX11_init 716 = .ok (.bipush 111, 2) := by decide +kernel
theorem dX11_init_718 : decode cX11_init 718 = .ok (.bipush 32, 2) := by decide +kernel
theorem dX11_init_720 : decode cX11_init 720 = .ok (.iastore, 1) := by decide +kernel
theorem dX11_init_721 : decode cX11_init 721 = .ok (.dup, 1) := by decide +kernel
theorem dX11_init_722 : decode cX11_init 722 = .ok (.bipush 112, 2) := by decide +kernel
theorem dX11_init_724 : decode cX11_init 724 = .ok (.bipush 111, 2) := by decide +kernel
theorem dX11_init_726 : decode cX11_init 726 = .ok (.iastore, 1) := by decide +kernel
theorem dX11_init_727 : decode cX11_init 727 = .ok (.dup, 1) := by decide +kernel
theorem dX11_init_728 : decode cX11_init 728 = .ok (.bipush 113, 2) := by decide +kernel
theorem dX11_init_730 : decode cX11_init 730 = .ok (.bipush 112, 2) := by decide +kernel
theorem dX11_init_732 : decode cX11_init 732 = .ok (.iastore, 1) := by decide +kernel
theorem dX11_init_733 : decode cX11_init 733 = .ok (.dup, 1) := by decide +kernel
theorem dX11_init_734 : decode cX11_init 734 = .ok (.bipush 114, 2) := by decide +kernel
theorem dX11_init_736 : decode cX11_init 736 = .ok (.bipush 101, 2) := by decide +kernel
theorem dX11_init_738 : decode cX11_init 738 = .ok (.iastore, 1) := by decide +kernel
theorem dX11_init_739 : decode cX11_init 739 = .ok (.dup, 1) := by decide +kernel
theorem dX11_init_740 : decode cX11_init 740 = .ok (.bipush 115, 2) := by decide +kernel
theorem dX11_init_742 : decode cX11_init 742 = .ok (.bipush 110, 2) := by decide +kernel
theorem dX11_init_744 : decode cX11_init 744 = .ok (.iastore, 1) := by decide +kernel
theorem dX11_init_745 : decode cX11_init 745 = .ok (.dup, 1) := by decide +kernel
theorem dX11_init_746 : decode cX11_init 746 = .ok (.bipush 116, 2) := by decide +kernel
theorem dX11_init_748 : decode cX11_init 748 = .ok (.bipush 32, 2) := by decide +kernel
theorem dX11_init_750 : decode cX11_init 750 = .ok (.iastore, 1) := by decide +kernel
theorem dX11_init_751 : decode cX11_init 751 = .ok (.dup, 1) := by decide +kernel
theorem dX11_init_752 : decode cX11_init 752 = .ok (.bipush 117, 2) := by decide +kernel
theorem dX11_init_754 : decode cX11_init 754 = .ok (.bipush 98, 2) := by decide +kernel
theorem dX11_init_756 : decode cX11_init 756 = .ok (.iastore, 1) := by decide +kernel
theorem dX11_init_757 : decode cX11_init 757 = .ok (.dup, 1) := by decide +kernel
theorem dX11_init_758 : decode cX11_init 758 = .ok (.bipush 118, 2) := by decide +kernel
theorem dX11_init_760 : decode cX11_init 760 = .ok (.bipush 111, 2) := by decide +kernel
theorem dX11_init_762 : decode cX11_init 762 = .ok (.iastore, 1) := by decide +kernel
theorem dX11_init_763 : decode cX11_init 763 = .ok (.dup, 1) := by decide +kernel
theorem dX11_init_764 : decode cX11_init 764 = .ok (.bipush 119, 2) := by decide +kernel
theorem dX11_init_766 : decode cX11_init 766 = .ok (.bipush 105, 2) := by decide +kernel
theorem dX11_init_768 : decode cX11_init 768 = .ok (.iastore, 1) := by decide +kernel
theorem dX11_init_769 : decode cX11_init 769 = .ok (.dup, 1) := by decide +kernel
theorem dX11_init_770 : decode cX11_init 770 = .ok (.bipush 120, 2) := by decide +kernel
theorem dX11_init_772 : decode cX11_init 772 = .ok (.bipush 108, 2) := by decide +kernel
theorem dX11_init_774 : decode cX11_init 774 = .ok (.iastore, 1) := by decide +kernel
theorem dX11_init_775 : decode cX11_init 775 = .ok (.dup, 1) := by decide +kernel
theorem dX11_init_776 : decode cX11_init 776 = .ok (.bipush 121, 2) := by decide +kernel
theorem dX11_init_778 : decode cX11_init 778 = .ok (.bipush 32, 2) := by decide +kernel
theorem dX11_init_780 : decode cX11_init 780 = .ok (.iastore, 1) := by decide +kernel
theorem dX11_init_781 : decode cX11_init 781 = .ok (.dup, 1) := by decide +kernel
theorem dX11_init_782 : decode cX11_init 782 = .ok (.bipush 122, 2) := by decide +kernel
theorem dX11_init_784 : decode cX11_init 784 = .ok (.bipush 99, 2) := by decide +kernel
theorem dX11_init_786 : decode cX11_init 786 = .ok (.iastore, 1) := by decide +kernel
theorem dX11_init_787 : decode cX11_init 787 = .ok (.dup, 1) := by decide +kernel
theorem dX11_init_788 : decode cX11_init 788 = .ok (.bipush 123, 2) := by decide +kernel
theorem dX11_init_790 : decode cX11_init 790 = .ok (.bipush 104, 2) := by decide +kernel
theorem dX11_init_792 : decode cX11_init 792 = .ok (.iastore, 1) := by decide +kernel
theorem dX11_init_793 : decode cX11_init 793 = .ok (.dup, 1) := by decide +kernel
theorem dX11_init_794 : decode cX11_init 794 = .ok (.bipush 124, 2) := by decide +kernel
theorem dX11_init_796 : decode cX11_init 796 = .ok (.bipush 101, 2) := by decide +kernel
theorem dX11_init_798 : decode cX11_init 798 = .ok (.iastore, 1) := by decide +kernel
theorem dX11_init_799 : decode cX11_init 799 = .ok (.dup, 1) := by decide +kernel
theorem dX11_init_800 : decode cX11_init 800 = .ok (.bipush 125, 2) := by decide +kernel
theorem dX11_init_802 : decode cX11_init 802 = .ok (.bipush 101, 2) := by decide +kernel
theorem dX11_init_804 : decode cX11_init 804 = .ok (.iastore, 1) := by decide +kernel
theorem dX11_init_805 : decode cX11_init 805 = .ok (.dup, 1) := by decide +kernel
theorem dX11_init_806 : decode cX11_init 806 = .ok (.bipush 126, 2) := by decide +kernel
theorem dX11_init_808 : decode cX11_init 808 = .ok (.bipush 115, 2) := by decide +kernel
theorem dX11_init_810 : decode cX11_init 810 = .ok (.iastore, 1) := by decide +kernel
theorem dX11_init_811 : decode cX11_init 811 = .ok (.dup, 1) := by decide +kernel
theorem dX11_init_812 : decode cX11_init 812 = .ok (.bipush 127, 2) := by decide +kernel
theorem dX11_init_814 : decode cX11_init 814 = .ok (.bipush 101, 2) := by decide +kernel
theorem dX11_init_816 : decode cX11_init 816 = .ok (.iastore, 1) := by decide +kernel
theorem dX11_init_817 : decode cX11_init 817 = .ok (.dup, 1) := by decide +kernel
theorem dX11_init_818 : decode cX11_init 818 = .ok (.sipush 128, 3) := by decide +kernel
theorem dX11_init_821 : decode cX11_init 821 = .ok (.bipush 32, 2) := by decide +kernel
theorem dX11_init_823 : decode cX11_init 823 = .ok (.iastore, 1) := by decide +kernel
theorem dX11_init_824 : decode cX11_init 824 = .ok (.putfield 25, 3) := by decide +kernel
theorem dX11_init_827 : decode cX11_init 827 = .ok (.aload_n 0, 1) := by decide +kernel
theorem dX11_init_828 : decode cX11_init 828 = .ok (.iconst 2, 1) := by decide +kernel
theorem dX11_init_829 : decode cX11_init 829 = .ok (.newarray .int, 2) := by decide +kernel
theorem dX11_init_831 : decode cX11_init 831 = .ok (.putfield 28, 3) := by decide +kernel
theorem dX11_init_834 : decode cX11_init 834 = .ok (.aload_n 0, 1) := by decide +kernel
theorem dX11_init_835 : decode cX11_init 835 = .ok (.bipush 48, 2) := by decide +kernel
theorem dX11_init_837 : decode cX11_init 837 = .ok (.newarray .int, 2) := by decide +kernel
theorem dX11_init_839 : decode cX11_init 839 = .ok (.putfield 31, 3) := by decide +kernel
theorem dX11_init_842 : decode cX11_init 842 = .ok (.aload_n 0, 1) := by decide +kernel
theorem dX11_init_843 : decode cX11_init 843 = .ok (.bipush 48, 2) := by decide +kernel
theorem dX11_init_845 : decode cX11_init 845 = .ok (.newarray .int, 2) := by decide +kernel
theorem dX11_init_847 : decode cX11_init 847 = .ok (.putfield 34, 3) := by decide +kernel
theorem dX11_init_850 : decode cX11_init 850 = .ok (.aload_n 0, 1) := by decide +kernel
theorem dX11_init_851 : decode cX11_init 851 = .ok (.bipush 48, 2) := by decide +kernel
theorem dX11_init_853 : decode cX11_init 853 = .ok (.newarray .int, 2) := by decide +kernel
theorem dX11_init_855 : decode cX11_init 855 = .ok (.putfield 37, 3) := by decide +kernel
theorem dX11_init_858 : decode cX11_init 858 = .ok (.aload_n 0, 1) := by decide +kernel
theorem dX11_init_859 : decode cX11_init 859 = .ok (.bipush 48, 2) := by decide +kernel
theorem dX11_init_861 : decode cX11_init 861 = .ok (.newarray .int, 2) := by decide +kernel
theorem dX11_init_863 : decode cX11_init 863 = .ok (.putfield 40, 3) := by decide +kernel
theorem dX11_init_866 : decode cX11_init 866 = .ok (.aload_n 0, 1) := by decide +kernel
theorem dX11_init_867 : decode cX11_init 867 = .ok (.sipush 1200, 3) := by decide +kernel
theorem dX11_init_870 : decode cX11_init 870 = .ok (.newarray .int, 2) := by decide +kernel
theorem dX11_init_872 : decode cX11_init 872 = .ok (.putfield 43, 3) := by decide +kernel
theorem dX11_init_875 : decode cX11_init 875 = .ok (.aload_n 0, 1) := by decide +kernel
theorem dX11_init_876 : decode cX11_init 876 = .ok (.sipush 1200, 3) := by decide +kernel
theorem dX11_init_879 : decode cX11_init 879 = .ok (.newarray .int, 2) := by decide +kernel
theorem dX11_init_881 : decode cX11_init 881 = .ok (.putfield 46, 3) := by decide +kernel
theorem dX11_init_884 : decode cX11_init 884 = .ok (.aload_n 0, 1) := by decide +kernel
theorem dX11_init_885 : decode cX11_init 885 = .ok (.bipush 40, 2) := by decide +kernel
theorem dX11_init_887 : decode cX11_init 887 = .ok (.newarray .int, 2) := by decide +kernel
theorem dX11_init_889 : decode cX11_init 889 = .ok (.putfield 49, 3) := by decide +kernel
theorem dX11_init_892 : decode cX11_init 892 = .ok (.aload_n 0, 1) := by decide +kernel
theorem dX11_init_893 : decode cX11_init 893 = .ok (.iconst (-1), 1) := by decide +kernel
theorem dX11_init_894 : decode cX11_init 894 = .ok (.putfield 52, 3) := by decide +kernel
theorem dX11_init_897 : decode cX11_init 897 = .ok (.aload_n 0, 1) := by decide +kernel
theorem dX11_init_898 : decode cX11_init 898 = .ok (.sipush 180, 3) := by decide +kernel
theorem dX11_init_901 : decode cX11_init 901 = .ok (.newarray .int, 2) := by decide +kernel
theorem dX11_init_903 : decode cX11_init 903 = .ok (.putfield 56, 3) := by decide +kernel
theorem dX11_init_906 : decode cX11_init 906 = .ok (.aload_n 0, 1) := by decide +kernel
theorem dX11_init_907 : decode cX11_init 907 = .ok (.sipush 128, 3) := by decide +kernel
theorem dX11_init_910 : decode cX11_init 910 = .ok (.newarray .int, 2) := by decide +kernel
theorem dX11_init_912 : decode cX11_init 912 = .ok (.putfield 59, 3) := by decide +kernel
theorem dX11_init_915 : decode cX11_init 915 = .ok (.aload_n 0, 1) := by decide +kernel
theorem dX11_init_916 : decode cX11_init 916 = .ok (.bipush 9, 2) := by decide +kernel
theorem dX11_init_918 : decode cX11_init 918 = .ok (.newarray .int, 2) := by decide +kernel
theorem dX11_init_920 : decode cX11_init 920 = .ok (.putfield 62, 3) := by decide +kernel
theorem dX11_init_923 : decode cX11_init 923 = .ok (.aload_n 0, 1) := by decide +kernel
theorem dX11_init_924 : decode cX11_init 924 = .ok (.sipush 420, 3) := by decide +kernel
theorem dX11_init_927 : decode cX11_init 927 = .ok (.newarray .int, 2) := by decide +kernel
theorem dX11_init_929 : decode cX11_init 929 = .ok (.putfield 65, 3) := by decide +kernel
theorem dX11_init_932 : decode cX11_init 932 = .ok (.aload_n 0, 1) := by decide +kernel
theorem dX11_init_933 : decode cX11_init 933 = .ok (.iconst 5, 1) := by decide +kernel
theorem dX11_init_934 : decode cX11_init 934 = .ok (.newarray .int, 2) := by decide +kernel
theorem dX11_init_936 : decode cX11_init 936 = .ok (.putfield 68, 3) := by decide +kernel
theorem dX11_init_939 : decode cX11_init 939 = .ok (.aload_n 0, 1) := by decide +kernel
theorem dX11_init_940 : decode cX11_init 940 = .ok (.iconst 5, 1) := by decide +kernel
theorem dX11_init_941 : decode cX11_init 941 = .ok (.newarray .int, 2) := by decide +kernel
theorem dX11_init_943 : decode cX11_init 943 = .ok (.putfield 71, 3) := by decide +kernel
theorem dX11_init_946 : decode cX11_init 946 = .ok (.aload_n 0, 1) := by decide +kernel
theorem dX11_init_947 : decode cX11_init 947 = .ok (.bipush 16, 2) := by decide +kernel
theorem dX11_init_949 : decode cX11_init 949 = .ok (.newarray .int, 2) := by decide +kernel
theorem dX11_init_951 : decode cX11_init 951 = .ok (.putfield 74, 3) := by decide +kernel
theorem dX11_init_954 : decode cX11_init 954 = .ok (.aload_n 0, 1) := by decide +kernel
theorem dX11_init_955 : decode cX11_init 955 = .ok (.bipush 100, 2) := by decide +kernel
theorem dX11_init_957 : decode cX11_init 957 = .ok (.newarray .int, 2) := by decide +kernel
theorem dX11_init_959 : decode cX11_init 959 = .ok (.putfield 77, 3) := by decide +kernel
theorem dX11_init_962 : decode cX11_init 962 = .ok (.aload_n 0, 1) := by decide +kernel
theorem dX11_init_963 : decode cX11_init 963 = .ok (.bipush 100, 2) := by decide +kernel
theorem dX11_init_965 : decode cX11_init 965 = .ok (.newarray .int, 2) := by decide +kernel
theorem dX11_init_967 : decode cX11_init 967 = .ok (.putfield 80, 3) := by decide +kernel
theorem dX11_init_970 : decode cX11_init 970 = .ok (.aload_n 0, 1) := by decide +kernel
theorem dX11_init_971 : decode cX11_init 971 = .ok (.sipush 1900, 3) := by decide +kernel
theorem dX11_init_974 : decode cX11_init 974 = .ok (.newarray .int, 2) := by decide +kernel
theorem dX11_init_976 : decode cX11_init 976 = .ok (.putfield 83, 3) := by decide +kernel
theorem dX11_init_979 : decode cX11_init 979 = .ok (.return_, 1) := by decide +kernel
theorem dX11_isIn_0 : decode cX11_isIn 0 = .ok (.iload_n 1, 1) := by decide +kernel
theorem dX11_isIn_1 : decode cX11_isIn 1 = .ok (.iload_n 2, 1) := by decide +kernel
theorem dX11_isIn_2 : decode cX11_isIn 2 = .ok (.if_icmp .lt 12, 3) := by decide +kernel
theorem dX11_isIn_5 : decode cX11_isIn 5 = .ok (.iload_n 1, 1) := by decide +kernel
theorem dX11_isIn_6 : decode cX11_isIn 6 = .ok (.iload_n 3, 1) := by decide +kernel
theorem dX11_isIn_7 : decode cX11_isIn 7 = .ok (.if_icmp .gt 7, 3) := by decide +kernel
theorem dX11_isIn_10 : decode cX11_isIn 10 = .ok (.iconst 1, 1) := by decide +kernel
theorem dX11_isIn_11 : decode cX11_isIn 11 = .ok (.goto 4, 3) := by decide +kernel
theorem dX11_isIn_14 : decode cX11_isIn 14 = .ok (.iconst 0, 1) := by decide +kernel
theorem dX11_isIn_15 : decode cX11_isIn 15 = .ok (.ireturn, 1) := by decide +kernel
theorem dX11_held_0 : decode cX11_held 0 = .ok (.iload_n 1, 1) := by decide +kernel
theorem dX11_held_1 : decode cX11_held 1 = .ok (.iload_n 2, 1) := by decide +kernel
theorem dX11_held_2 : decode cX11_held 2 = .ok (.if_icmp .ge 7, 3) := by decide +kernel
theorem dX11_held_5 : decode cX11_held 5 = .ok (.iload_n 2, 1) := by decide +kernel
theorem dX11_held_6 : decode cX11_held 6 = .ok (.goto 13, 3) := by decide +kernel
theorem dX11_held_9 : decode cX11_held 9 = .ok (.iload_n 1, 1) := by decide +kernel
theorem dX11_held_10 : decode cX11_held 10 = .ok (.iload_n 3, 1) := by decide +kernel
theorem dX11_held_11 : decode cX11_held 11 = .ok (.if_icmp .le 7, 3) := by decide +kernel
theorem dX11_held_14 : decode cX11_held 14 = .ok (.iload_n 3, 1) := by decide +kernel
theorem dX11_held_15 : decode cX11_held 15 = .ok (.goto 4, 3) := by decide +kernel
theorem dX11_held_18 : decode cX11_held 18 = .ok (.iload_n 1, 1) := by decide +kernel
theorem dX11_held_19 : decode cX11_held 19 = .ok (.ireturn, 1) := by decide +kernel
theorem dX11_greater_0 : decode cX11_greater 0 = .ok (.iload_n 1, 1) := by decide +kernel
theorem dX11_greater_1 : decode cX11_greater 1 = .ok (.iload_n 2, 1) := by decide +kernel
theorem dX11_greater_2 : decode cX11_greater 2 = .ok (.if_icmp .le 7, 3) := by decide +kernel
theorem dX11_greater_5 : decode cX11_greater 5 = .ok (.iload_n 1, 1) := by decide +kernel
theorem dX11_greater_6 : decode cX11_greater 6 = .ok (.goto 4, 3) := by decide +kernel
theorem dX11_greater_9 : decode cX11_greater 9 = .ok (.iload_n 2, 1) := by decide +kernel
theorem dX11_greater_10 : decode cX11_greater 10 = .ok (.ireturn, 1) := by decide +kernel
theorem dX11_lesser_0 : decode cX11_lesser 0 = .ok (.iload_n 1, 1) := by decide +kernel
theorem dX11_lesser_1 : decode cX11_lesser 1 = .ok (.iload_n 2, 1) := by decide +kernel
theorem dX11_lesser_2 : decode cX11_lesser 2 = .ok (.if_icmp .ge 7, 3) := by decide +kernel
theorem dX11_lesser_5 : decode cX11_lesser 5 = .ok (.iload_n 1, 1) := by decide +kernel
theorem dX11_lesser_6 : decode cX11_lesser 6 = .ok (.goto 4, 3) := by decide +kernel
theorem dX11_lesser_9 : decode cX11_lesser 9 = .ok (.iload_n 2, 1) := by decide +kernel
theorem dX11_lesser_10 : decode cX11_lesser 10 = .ok (.ireturn, 1) := by decide +kernel
theorem dX11_onesOf_0 : decode cX11_onesOf 0 = .ok (.iconst 0, 1) := by decide +kernel
theorem dX11_onesOf_1 : decode cX11_onesOf 1 = .ok (.istore_n 2, 1) := by decide +kernel
theorem dX11_onesOf_2 : decode cX11_onesOf 2 = .ok (.iload_n 1, 1) := by decide +kernel
theorem dX11_onesOf_3 : decode cX11_onesOf 3 = .ok (.istore_n 3, 1) := by decide +kernel
theorem dX11_onesOf_4 : decode cX11_onesOf 4 = .ok (.iload_n 3, 1) := by decide +kernel
theorem dX11_onesOf_5 : decode cX11_onesOf 5 = .ok (.ifCond .eq 16, 3) := by decide +kernel
theorem dX11_onesOf_8 : decode cX11_onesOf 8 = .ok (.iload_n 2, 1) := by decide +kernel
theorem dX11_onesOf_9 : decode cX11_onesOf 9 = .ok (.iconst 1, 1) := by decide +kernel
theorem dX11_onesOf_10 : decode cX11_onesOf 10 = .ok (.iadd, 1) := by decide +kernel
theorem dX11_onesOf_11 : decode cX11_onesOf 11 = .ok (.istore_n 2, 1) := by decide +kernel
theorem dX11_onesOf_12 : decode cX11_onesOf 12 = .ok (.iload_n 3, 1) := by decide +kernel
theorem dX11_onesOf_13 : decode cX11_onesOf 13 = .ok (.iload_n 3, 1) := by decide +kernel
theorem dX11_onesOf_14 : decode cX11_onesOf 14 = .ok (.iconst 1, 1) := by decide +kernel
theorem dX11_onesOf_15 : decode cX11_onesOf 15 = .ok (.isub, 1) := by decide +kernel
theorem dX11_onesOf_16 : decode cX11_onesOf 16 = .ok (.iand, 1) := by decide +kernel
theorem dX11_onesOf_17 : decode cX11_onesOf 17 = .ok (.istore_n 3, 1) := by decide +kernel
theorem dX11_onesOf_18 : decode cX11_onesOf 18 = .ok (.goto (-14), 3) := by decide +kernel
theorem dX11_onesOf_21 : decode cX11_onesOf 21 = .ok (.iload_n 2, 1) := by decide +kernel
theorem dX11_onesOf_22 : decode cX11_onesOf 22 = .ok (.ireturn, 1) := by decide +kernel
theorem dX11_has_0 : decode cX11_has 0 = .ok (.iload_n 1, 1) := by decide +kernel
theorem dX11_has_1 : decode cX11_has 1 = .ok (.iload_n 2, 1) := by decide +kernel
theorem dX11_has_2 : decode cX11_has 2 = .ok (.ishr, 1) := by decide +kernel
theorem dX11_has_3 : decode cX11_has 3 = .ok (.iconst 1, 1) := by decide +kernel
theorem dX11_has_4 : decode cX11_has 4 = .ok (.iand, 1) := by decide +kernel
theorem dX11_has_5 : decode cX11_has 5 = .ok (.iconst 1, 1) := by decide +kernel
theorem dX11_has_6 : decode cX11_has 6 = .ok (.if_icmp .ne 7, 3) := by decide +kernel
theorem dX11_has_9 : decode cX11_has 9 = .ok (.iconst 1, 1) := by decide +kernel
theorem dX11_has_10 : decode cX11_has 10 = .ok (.goto 4, 3) := by decide +kernel
theorem dX11_has_13 : decode cX11_has 13 = .ok (.iconst 0, 1) := by decide +kernel
theorem dX11_has_14 : decode cX11_has 14 = .ok (.ireturn, 1) := by decide +kernel
theorem dX11_keepsAhead_0 : decode cX11_keepsAhead 0 = .ok (.aload_n 0, 1) := by decide +kernel
theorem dX11_keepsAhead_1 : decode cX11_keepsAhead 1 = .ok (.getfield 89, 3) := by decide +kernel
theorem dX11_keepsAhead_4 : decode cX11_keepsAhead 4 = .ok (.bipush 6, 2) := by decide +kernel
theorem dX11_keepsAhead_6 : decode cX11_keepsAhead 6 = .ok (.if_icmp .ne 49, 3) := by decide +kernel
theorem dX11_keepsAhead_9 : decode cX11_keepsAhead 9 = .ok (.aload_n 0, 1) := by decide +kernel
theorem dX11_keepsAhead_10 : decode cX11_keepsAhead 10 = .ok (.aload_n 0, 1) := by decide +kernel
theorem dX11_keepsAhead_11 : decode cX11_keepsAhead 11 = .ok (.getfield 89, 3) := by decide +kernel
theorem dX11_keepsAhead_14 : decode cX11_keepsAhead 14 = .ok (.iconst 1, 1) := by decide +kernel
theorem dX11_keepsAhead_15 : decode cX11_keepsAhead 15 = .ok (.isub, 1) := by decide +kernel
theorem dX11_keepsAhead_16 : decode cX11_keepsAhead 16 = .ok (.putfield 89, 3) := by decide +kernel
theorem dX11_keepsAhead_19 : decode cX11_keepsAhead 19 = .ok (.iconst 0, 1) := by decide +kernel
theorem dX11_keepsAhead_20 : decode cX11_keepsAhead 20 = .ok (.istore_n 1, 1) := by decide +kernel
theorem dX11_keepsAhead_21 : decode cX11_keepsAhead 21 = .ok (.iload_n 1, 1) := by decide +kernel
theorem dX11_keepsAhead_22 : decode cX11_keepsAhead 22 = .ok (.sipush 136, 3) := by decide +kernel
theorem dX11_keepsAhead_25 : decode cX11_keepsAhead 25 = .ok (.aload_n 0, 1) := by decide +kernel
theorem dX11_keepsAhead_26 : decode cX11_keepsAhead 26 = .ok (.getfield 89, 3) := by decide +kernel
theorem dX11_keepsAhead_29 : decode cX11_keepsAhead 29 = .ok (.imul, 1) := by decide +kernel
theorem dX11_keepsAhead_30 : decode cX11_keepsAhead 30 = .ok (.if_icmp .ge 25, 3) := by decide +kernel
theorem dX11_keepsAhead_33 : decode cX11_keepsAhead 33 = .ok (.aload_n 0, 1) := by decide +kernel
theorem dX11_keepsAhead_34 : decode cX11_keepsAhead 34 = .ok (.getfield 13, 3) := by decide +kernel
theorem dX11_keepsAhead_37 : decode cX11_keepsAhead 37 = .ok (.iload_n 1, 1) := by decide +kernel
theorem dX11_keepsAhead_38 : decode cX11_keepsAhead 38 = .ok (.aload_n 0, 1) := by decide +kernel
theorem dX11_keepsAhead_39 : decode cX11_keepsAhead 39 = .ok (.getfield 13, 3) := by decide +kernel
theorem dX11_keepsAhead_42 : decode cX11_keepsAhead 42 = .ok (.iload_n 1, 1) := by decide +kernel
theorem dX11_keepsAhead_43 : decode cX11_keepsAhead 43 = .ok (.sipush 136, 3) := by decide +kernel
theorem dX11_keepsAhead_46 : decode cX11_keepsAhead 46 = .ok (.iadd, 1) := by decide +kernel
theorem dX11_keepsAhead_47 : decode cX11_keepsAhead 47 = .ok (.iaload, 1) := by decide +kernel
theorem dX11_keepsAhead_48 : decode cX11_keepsAhead 48 = .ok (.iastore, 1) := by decide +kernel
theorem dX11_keepsAhead_49 : decode cX11_keepsAhead 49 = .ok (.iinc 1 1, 3) := by decide +kernel
theorem dX11_keepsAhead_52 : decode cX11_keepsAhead 52 = .ok (.goto (-31), 3) := by decide +kernel
theorem dX11_keepsAhead_55 : decode cX11_keepsAhead 55 = .ok (.iconst 0, 1) := by decide +kernel
theorem dX11_keepsAhead_56 : decode cX11_keepsAhead 56 = .ok (.istore_n 1, 1) := by decide +kernel
theorem dX11_keepsAhead_57 : decode cX11_keepsAhead 57 = .ok (.iload_n 1, 1) := by decide +kernel
theorem dX11_keepsAhead_58 : decode cX11_keepsAhead 58 = .ok (.sipush 136, 3) := by decide +kernel
theorem dX11_keepsAhead_61 : decode cX11_keepsAhead 61 = .ok (.if_icmp .ge 30, 3) := by decide +kernel
theorem dX11_keepsAhead_64 : decode cX11_keepsAhead 64 = .ok (.aload_n 0, 1) := by decide +kernel
theorem dX11_keepsAhead_65 : decode cX11_keepsAhead 65 = .ok (.getfield 13, 3) := by decide +kernel
theorem dX11_keepsAhead_68 : decode cX11_keepsAhead 68 = .ok (.sipush 136, 3) := by decide +kernel
theorem dX11_keepsAhead_71 : decode cX11_keepsAhead 71 = .ok (.aload_n 0, 1) := by decide +kernel
theorem dX11_keepsAhead_72 : decode cX11_keepsAhead 72 = .ok (.getfield 89, 3) := by decide +kernel
theorem dX11_keepsAhead_75 : decode cX11_keepsAhead 75 = .ok (.imul, 1) := by decide +kernel
theorem dX11_keepsAhead_76 : decode cX11_keepsAhead 76 = .ok (.iload_n 1, 1) := by decide +kernel
theorem dX11_keepsAhead_77 : decode cX11_keepsAhead 77 = .ok (.iadd, 1) := by decide +kernel
theorem dX11_keepsAhead_78 : decode cX11_keepsAhead 78 = .ok (.aload_n 0, 1) := by decide +kernel
theorem dX11_keepsAhead_79 : decode cX11_keepsAhead 79 = .ok (.getfield 7, 3) := by decide +kernel
theorem dX11_keepsAhead_82 : decode cX11_keepsAhead 82 = .ok (.iload_n 1, 1) := by decide +kernel
theorem dX11_keepsAhead_83 : decode cX11_keepsAhead 83 = .ok (.iaload, 1) := by decide +kernel
theorem dX11_keepsAhead_84 : decode cX11_keepsAhead 84 = .ok (.iastore, 1) := by decide +kernel
theorem dX11_keepsAhead_85 : decode cX11_keepsAhead 85 = .ok (.iinc 1 1, 3) := by decide +kernel
theorem dX11_keepsAhead_88 : decode cX11_keepsAhead 88 = .ok (.goto (-31), 3) := by decide +kernel
theorem dX11_keepsAhead_91 : decode cX11_keepsAhead 91 = .ok (.aload_n 0, 1) := by decide +kernel
theorem dX11_keepsAhead_92 : decode cX11_keepsAhead 92 = .ok (.aload_n 0, 1) := by decide +kernel
theorem dX11_keepsAhead_93 : decode cX11_keepsAhead 93 = .ok (.getfield 89, 3) := by decide +kernel
theorem dX11_keepsAhead_96 : decode cX11_keepsAhead 96 = .ok (.iconst 1, 1) := by decide +kernel
theorem dX11_keepsAhead_97 : decode cX11_keepsAhead 97 = .ok (.iadd, 1) := by decide +kernel
theorem dX11_keepsAhead_98 : decode cX11_keepsAhead 98 = .ok (.putfield 89, 3) := by decide +kernel
theorem dX11_keepsAhead_101 : decode cX11_keepsAhead 101 = .ok (.return_, 1) := by decide +kernel
theorem dX11_undo_0 : decode cX11_undo 0 = .ok (.aload_n 0, 1) := by decide +kernel
theorem dX11_undo_1 : decode cX11_undo 1 = .ok (.iconst 0, 1) := by decide +kernel
theorem dX11_undo_2 : decode cX11_undo 2 = .ok (.putfield 86, 3) := by decide +kernel
theorem dX11_undo_5 : decode cX11_undo 5 = .ok (.aload_n 0, 1) := by decide +kernel
theorem dX11_undo_6 : decode cX11_undo 6 = .ok (.getfield 89, 3) := by decide +kernel
theorem dX11_undo_9 : decode cX11_undo 9 = .ok (.ifCond .ne 5, 3) := by decide +kernel
theorem dX11_undo_12 : decode cX11_undo 12 = .ok (.iconst 0, 1) := by decide +kernel
theorem dX11_undo_13 : decode cX11_undo 13 = .ok (.ireturn, 1) := by decide +kernel
theorem dX11_undo_14 : decode cX11_undo 14 = .ok (.aload_n 0, 1) := by decide +kernel
theorem dX11_undo_15 : decode cX11_undo 15 = .ok (.aload_n 0, 1) := by decide +kernel
theorem dX11_undo_16 : decode cX11_undo 16 = .ok (.getfield 89, 3) := by decide +kernel
theorem dX11_undo_19 : decode cX11_undo 19 = .ok (.iconst 1, 1) := by decide +kernel
theorem dX11_undo_20 : decode cX11_undo 20 = .ok (.isub, 1) := by decide +kernel
theorem dX11_undo_21 : decode cX11_undo 21 = .ok (.putfield 89, 3) := by decide +kernel
theorem dX11_undo_24 : decode cX11_undo 24 = .ok (.iconst 0, 1) := by decide +kernel
theorem dX11_undo_25 : decode cX11_undo 25 = .ok (.istore_n 1, 1) := by decide +kernel
theorem dX11_undo_26 : decode cX11_undo 26 = .ok (.iload_n 1, 1) := by decide +kernel
theorem dX11_undo_27 : decode cX11_undo 27 = .ok (.sipush 136, 3) := by decide +kernel
theorem dX11_undo_30 : decode cX11_undo 30 = .ok (.if_icmp .ge 30, 3) := by decide +kernel
theorem dX11_undo_33 : decode cX11_undo 33 = .ok (.aload_n 0, 1) := by decide +kernel
theorem dX11_undo_34 : decode cX11_undo 34 = .ok (.getfield 7, 3) := by decide +kernel
theorem dX11_undo_37 : decode cX11_undo 37 = .ok (.iload_n 1, 1) := by decide +kernel
theorem dX11_undo_38 : decode cX11_undo 38 = .ok (.aload_n 0, 1) := by decide +kernel
theorem dX11_undo_39 : decode cX11_undo 39 = .ok (.getfield 13, 3) := by decide +kernel
theorem dX11_undo_42 : decode cX11_undo 42 = .ok (.sipush 136, 3) := by decide +kernel
theorem dX11_undo_45 : decode cX11_undo 45 = .ok (.aload_n 0, 1) := by decide +kernel
theorem dX11_undo_46 : decode cX11_undo 46 = .ok (.getfield 89, 3) := by decide +kernel
theorem dX11_undo_49 : decode cX11_undo 49 = .ok (.imul, 1) := by decide +kernel
theorem dX11_undo_50 : decode cX11_undo 50 = .ok (.iload_n 1, 1) := by decide +kernel
theorem dX11_undo_51 : decode cX11_undo 51 = .ok (.iadd, 1) := by decide +kernel
theorem dX11_undo_52 : decode cX11_undo 52 = .ok (.iaload, 1) := by decide +kernel
theorem dX11_undo_53 : decode cX11_undo 53 = .ok (.iastore, 1) := by decide +kernel
theorem dX11_undo_54 : decode cX11_undo 54 = .ok (.iinc 1 1, 3) := by decide +kernel
theorem dX11_undo_57 : decode cX11_undo 57 = .ok (.goto (-31), 3) := by decide +kernel
theorem dX11_undo_60 : decode cX11_undo 60 = .ok (.iconst 1, 1) := by decide +kernel
theorem dX11_undo_61 : decode cX11_undo 61 = .ok (.ireturn, 1) := by decide +kernel
theorem dX11_thinks_0 : decode cX11_thinks 0 = .ok (.iconst 0, 1) := by decide +kernel
theorem dX11_thinks_1 : decode cX11_thinks 1 = .ok (.istore_n 1, 1) := by decide +kernel
theorem dX11_thinks_2 : decode cX11_thinks 2 = .ok (.iload_n 1, 1) := by decide +kernel
theorem dX11_thinks_3 : decode cX11_thinks 3 = .ok (.sipush 136, 3) := by decide +kernel
theorem dX11_thinks_6 : decode cX11_thinks 6 = .ok (.if_icmp .ge 21, 3) := by decide +kernel
theorem dX11_thinks_9 : decode cX11_thinks 9 = .ok (.aload_n 0, 1) := by decide +kernel
theorem dX11_thinks_10 : decode cX11_thinks 10 = .ok (.getfield 16, 3) := by decide +kernel
theorem dX11_thinks_13 : decode cX11_thinks 13 = .ok (.iload_n 1, 1) := by decide +kernel
theorem dX11_thinks_14 : decode cX11_thinks 14 = .ok (.aload_n 0, 1) := by decide +kernel
theorem dX11_thinks_15 : decode cX11_thinks 15 = .ok (.getfield 7, 3) := by decide +kernel
theorem dX11_thinks_18 : decode cX11_thinks 18 = .ok (.iload_n 1, 1) := by decide +kernel
theorem dX11_thinks_19 : decode cX11_thinks 19 = .ok (.iaload, 1) := by decide +kernel
theorem dX11_thinks_20 : decode cX11_thinks 20 = .ok (.iastore, 1) := by decide +kernel
theorem dX11_thinks_21 : decode cX11_thinks 21 = .ok (.iinc 1 1, 3) := by decide +kernel
theorem dX11_thinks_24 : decode cX11_thinks 24 = .ok (.goto (-22), 3) := by decide +kernel
theorem dX11_thinks_27 : decode cX11_thinks 27 = .ok (.aload_n 0, 1) := by decide +kernel
theorem dX11_thinks_28 : decode cX11_thinks 28 = .ok (.iconst 1, 1) := by decide +kernel
theorem dX11_thinks_29 : decode cX11_thinks 29 = .ok (.putfield 92, 3) := by decide +kernel
theorem dX11_thinks_32 : decode cX11_thinks 32 = .ok (.aload_n 0, 1) := by decide +kernel
theorem dX11_thinks_33 : decode cX11_thinks 33 = .ok (.iconst 0, 1) := by decide +kernel
theorem dX11_thinks_34 : decode cX11_thinks 34 = .ok (.putfield 96, 3) := by decide +kernel
theorem dX11_thinks_37 : decode cX11_thinks 37 = .ok (.aload_n 0, 1) := by decide +kernel
theorem dX11_thinks_38 : decode cX11_thinks 38 = .ok (.iconst (-1), 1) := by decide +kernel
theorem dX11_thinks_39 : decode cX11_thinks 39 = .ok (.putfield 99, 3) := by decide +kernel
theorem dX11_thinks_42 : decode cX11_thinks 42 = .ok (.aload_n 0, 1) := by decide +kernel
theorem dX11_thinks_43 : decode cX11_thinks 43 = .ok (.iconst (-1), 1) := by decide +kernel
theorem dX11_thinks_44 : decode cX11_thinks 44 = .ok (.putfield 102, 3) := by decide +kernel
theorem dX11_thinks_47 : decode cX11_thinks 47 = .ok (.return_, 1) := by decide +kernel
theorem dX11_thinksAnew_0 : decode cX11_thinksAnew 0 = .ok (.iconst 0, 1) := by decide +kernel
theorem dX11_thinksAnew_1 : decode cX11_thinksAnew 1 = .ok (.istore_n 1, 1) := by decide +kernel
theorem dX11_thinksAnew_2 : decode cX11_thinksAnew 2 = .ok (.iload_n 1, 1) := by decide +kernel
theorem dX11_thinksAnew_3 : decode cX11_thinksAnew 3 = .ok (.sipush 136, 3) := by decide +kernel
theorem dX11_thinksAnew_6 : decode cX11_thinksAnew 6 = .ok (.if_icmp .ge 21, 3) := by decide +kernel
theorem dX11_thinksAnew_9 : decode cX11_thinksAnew 9 = .ok (.aload_n 0, 1) := by decide +kernel
theorem dX11_thinksAnew_10 : decode cX11_thinksAnew 10 = .ok (.getfield 7, 3) := by decide +kernel
theorem dX11_thinksAnew_13 : decode cX11_thinksAnew 13 = .ok (.iload_n 1, 1) := by decide +kernel
theorem dX11_thinksAnew_14 : decode cX11_thinksAnew 14 = .ok (.aload_n 0, 1) := by decide +kernel
theorem dX11_thinksAnew_15 : decode cX11_thinksAnew 15 = .ok (.getfield 16, 3) := by decide +kernel
theorem dX11_thinksAnew_18 : decode cX11_thinksAnew 18 = .ok (.iload_n 1, 1) := by decide +kernel
theorem dX11_thinksAnew_19 : decode cX11_thinksAnew 19 = .ok (.iaload, 1) := by decide +kernel
theorem dX11_thinksAnew_20 : decode cX11_thinksAnew 20 = .ok (.iastore, 1) := by decide +kernel
theorem dX11_thinksAnew_21 : decode cX11_thinksAnew 21 = .ok (.iinc 1 1, 3) := by decide +kernel
theorem dX11_thinksAnew_24 : decode cX11_thinksAnew 24 = .ok (.goto (-22), 3) := by decide +kernel
theorem dX11_thinksAnew_27 : decode cX11_thinksAnew 27 = .ok (.return_, 1) := by decide +kernel
theorem dX11_endsThought_0 : decode cX11_endsThought 0 = .ok (.aload_n 0, 1) := by decide +kernel
theorem dX11_endsThought_1 : decode cX11_endsThought 1 = .ok (.invokevirtual 105, 3) := by decide +kernel
theorem dX11_endsThought_4 : decode cX11_endsThought 4 = .ok (.aload_n 0, 1) := by decide +kernel
theorem dX11_endsThought_5 : decode cX11_endsThought 5 = .ok (.iconst 0, 1) := by decide +kernel
theorem dX11_endsThought_6 : decode cX11_endsThought 6 = .ok (.putfield 92, 3) := by decide +kernel
theorem dX11_endsThought_9 : decode cX11_endsThought 9 = .ok (.return_, 1) := by decide +kernel
theorem dX11_state_0 : decode cX11_state 0 = .ok (.aload_n 0, 1) := by decide +kernel
theorem dX11_state_1 : decode cX11_state 1 = .ok (.iconst 0, 1) := by decide +kernel
theorem dX11_state_2 : decode cX11_state 2 = .ok (.putfield 86, 3) := by decide +kernel
theorem dX11_state_5 : decode cX11_state 5 = .ok (.aload_n 0, 1) := by decide +kernel
theorem dX11_state_6 : decode cX11_state 6 = .ok (.getfield 7, 3) := by decide +kernel
theorem dX11_state_9 : decode cX11_state 9 = .ok (.iconst 1, 1) := by decide +kernel
theorem dX11_state_10 : decode cX11_state 10 = .ok (.iaload, 1) := by decide +kernel
theorem dX11_state_11 : decode cX11_state 11 = .ok (.istore_n 2, 1) := by decide +kernel
theorem dX11_state_12 : decode cX11_state 12 = .ok (.aload_n 0, 1) := by decide +kernel
theorem dX11_state_13 : decode cX11_state 13 = .ok (.getfield 7, 3) := by decide +kernel
theorem dX11_state_16 : decode cX11_state 16 = .ok (.iconst 1, 1) := by decide +kernel
theorem dX11_state_17 : decode cX11_state 17 = .ok (.iload_n 1, 1) := by decide +kernel
theorem dX11_state_18 : decode cX11_state 18 = .ok (.iastore, 1) := by decide +kernel
theorem dX11_state_19 : decode cX11_state 19 = .ok (.aload_n 0, 1) := by decide +kernel
theorem dX11_state_20 : decode cX11_state 20 = .ok (.iconst 0, 1) := by decide +kernel
theorem dX11_state_21 : decode cX11_state 21 = .ok (.putfield 89, 3) := by decide +kernel
theorem dX11_state_24 : decode cX11_state 24 = .ok (.iload_n 2, 1) := by decide +kernel
theorem dX11_state_25 : decode cX11_state 25 = .ok (.ireturn, 1) := by decide +kernel
theorem dX11_draw_0 : decode cX11_draw 0 = .ok (.aload_n 0, 1) := by decide +kernel
theorem dX11_draw_1 : decode cX11_draw 1 = .ok (.getfield 7, 3) := by decide +kernel
theorem dX11_draw_4 : decode cX11_draw 4 = .ok (.iconst 1, 1) := by decide +kernel
theorem dX11_draw_5 : decode cX11_draw 5 = .ok (.ldc 108, 2) := by decide +kernel
theorem dX11_draw_7 : decode cX11_draw 7 = .ok (.aload_n 0, 1) := by decide +kernel
theorem dX11_draw_8 : decode cX11_draw 8 = .ok (.getfield 7, 3) := by decide +kernel
theorem dX11_draw_11 : decode cX11_draw 11 = .ok (.iconst 1, 1) := by decide +kernel
theorem dX11_draw_12 : decode cX11_draw 12 = .ok (.iaload, 1) := by decide +kernel
theorem dX11_draw_13 : decode cX11_draw 13 = .ok (.imul, 1) := by decide +kernel
theorem dX11_draw_14 : decode cX11_draw 14 = .ok (.ldc 109, 2) := by decide +kernel
theorem dX11_draw_16 : decode cX11_draw 16 = .ok (.iadd, 1) := by decide +kernel
theorem dX11_draw_17 : decode cX11_draw 17 = .ok (.iastore, 1) := by decide +kernel
theorem dX11_draw_18 : decode cX11_draw 18 = .ok (.aload_n 0, 1) := by decide +kernel
theorem dX11_draw_19 : decode cX11_draw 19 = .ok (.getfield 7, 3) := by decide +kernel
theorem dX11_draw_22 : decode cX11_draw 22 = .ok (.iconst 1, 1) := by decide +kernel
theorem dX11_draw_23 : decode cX11_draw 23 = .ok (.iaload, 1) := by decide +kernel
theorem dX11_draw_24 : decode cX11_draw 24 = .ok (.bipush 8, 2) := by decide +kernel
theorem dX11_draw_26 : decode cX11_draw 26 = .ok (.iushr, 1) := by decide +kernel
theorem dX11_draw_27 : decode cX11_draw 27 = .ok (.iload_n 1, 1) := by decide +kernel
theorem dX11_draw_28 : decode cX11_draw 28 = .ok (.irem, 1) := by decide +kernel
theorem dX11_draw_29 : decode cX11_draw 29 = .ok (.ireturn, 1) := by decide +kernel
theorem dX11_chairs_0 : decode cX11_chairs 0 = .ok (.aload_n 0, 1) := by decide +kernel
theorem dX11_chairs_1 : decode cX11_chairs 1 = .ok (.getfield 110, 3) := by decide +kernel
theorem dX11_chairs_4 : decode cX11_chairs 4 = .ok (.bipush 9, 2) := by decide +kernel
theorem dX11_chairs_6 : decode cX11_chairs 6 = .ok (.iadd, 1) := by decide +kernel
theorem dX11_chairs_7 : decode cX11_chairs 7 = .ok (.ireturn, 1) := by decide +kernel
theorem dX11_every_0 : decode cX11_every 0 = .ok (.aload_n 0, 1) := by decide +kernel
theorem dX11_every_1 : decode cX11_every 1 = .ok (.getfield 113, 3) := by decide +kernel
theorem dX11_every_4 : decode cX11_every 4 = .ok (.iconst 4, 1) := by decide +kernel
theorem dX11_every_5 : decode cX11_every 5 = .ok (.iadd, 1) := by decide +kernel
theorem dX11_every_6 : decode cX11_every 6 = .ok (.ireturn, 1) := by decide +kernel
theorem dX11_isParty_0 : decode cX11_isParty 0 = .ok (.iload_n 1, 1) := by decide +kernel
theorem dX11_isParty_1 : decode cX11_isParty 1 = .ok (.ifCond .lt 15, 3) := by decide +kernel
theorem dX11_isParty_4 : decode cX11_isParty 4 = .ok (.iload_n 1, 1) := by decide +kernel
theorem dX11_isParty_5 : decode cX11_isParty 5 = .ok (.aload_n 0, 1) := by decide +kernel
theorem dX11_isParty_6 : decode cX11_isParty 6 = .ok (.getfield 116, 3) := by decide +kernel
theorem dX11_isParty_9 : decode cX11_isParty 9 = .ok (.if_icmp .ge 7, 3) := by decide +kernel
theorem dX11_isParty_12 : decode cX11_isParty 12 = .ok (.iconst 1, 1) := by decide +kernel
theorem dX11_isParty_13 : decode cX11_isParty 13 = .ok (.goto 4, 3) := by decide +kernel
theorem dX11_isParty_16 : decode cX11_isParty 16 = .ok (.iconst 0, 1) := by decide +kernel
theorem dX11_isParty_17 : decode cX11_isParty 17 = .ok (.ireturn, 1) := by decide +kernel
theorem dX11_isEater_0 : decode cX11_isEater 0 = .ok (.iload_n 1, 1) := by decide +kernel
theorem dX11_isEater_1 : decode cX11_isEater 1 = .ok (.ifCond .lt 15, 3) := by decide +kernel
theorem dX11_isEater_4 : decode cX11_isEater 4 = .ok (.iload_n 1, 1) := by decide +kernel
theorem dX11_isEater_5 : decode cX11_isEater 5 = .ok (.aload_n 0, 1) := by decide +kernel
theorem dX11_isEater_6 : decode cX11_isEater 6 = .ok (.getfield 119, 3) := by decide +kernel
theorem dX11_isEater_9 : decode cX11_isEater 9 = .ok (.if_icmp .ge 7, 3) := by decide +kernel
theorem dX11_isEater_12 : decode cX11_isEater 12 = .ok (.iconst 1, 1) := by decide +kernel
theorem dX11_isEater_13 : decode cX11_isEater 13 = .ok (.goto 4, 3) := by decide +kernel
theorem dX11_isEater_16 : decode cX11_isEater 16 = .ok (.iconst 0, 1) := by decide +kernel
theorem dX11_isEater_17 : decode cX11_isEater 17 = .ok (.ireturn, 1) := by decide +kernel
theorem dX11_isPlace_0 : decode cX11_isPlace 0 = .ok (.iload_n 1, 1) := by decide +kernel
theorem dX11_isPlace_1 : decode cX11_isPlace 1 = .ok (.ifCond .lt 13, 3) := by decide +kernel
theorem dX11_isPlace_4 : decode cX11_isPlace 4 = .ok (.iload_n 1, 1) := by decide +kernel
theorem dX11_isPlace_5 : decode cX11_isPlace 5 = .ok (.bipush 10, 2) := by decide +kernel
theorem dX11_isPlace_7 : decode cX11_isPlace 7 = .ok (.if_icmp .ge 7, 3) := by decide +kernel
theorem dX11_isPlace_10 : decode cX11_isPlace 10 = .ok (.iconst 1, 1) := by decide +kernel
theorem dX11_isPlace_11 : decode cX11_isPlace 11 = .ok (.goto 4, 3) := by decide +kernel
theorem dX11_isPlace_14 : decode cX11_isPlace 14 = .ok (.iconst 0, 1) := by decide +kernel
theorem dX11_isPlace_15 : decode cX11_isPlace 15 = .ok (.ireturn, 1) := by decide +kernel
theorem dX11_isTree_0 : decode cX11_isTree 0 = .ok (.iload_n 1, 1) := by decide +kernel
theorem dX11_isTree_1 : decode cX11_isTree 1 = .ok (.ifCond .lt 17, 3) := by decide +kernel
theorem dX11_isTree_4 : decode cX11_isTree 4 = .ok (.iload_n 1, 1) := by decide +kernel
theorem dX11_isTree_5 : decode cX11_isTree 5 = .ok (.aload_n 0, 1) := by decide +kernel
theorem dX11_isTree_6 : decode cX11_isTree 6 = .ok (.getfield 7, 3) := by decide +kernel
theorem dX11_isTree_9 : decode cX11_isTree 9 = .ok (.iconst 4, 1) := by decide +kernel
theorem dX11_isTree_10 : decode cX11_isTree 10 = .ok (.iaload, 1) := by decide +kernel
theorem dX11_isTree_11 : decode cX11_isTree 11 = .ok (.if_icmp .ge 7, 3) := by decide +kernel
theorem dX11_isTree_14 : decode cX11_isTree 14 = .ok (.iconst 1, 1) := by decide +kernel
theorem dX11_isTree_15 : decode cX11_isTree 15 = .ok (.goto 4, 3) := by decide +kernel
theorem dX11_isTree_18 : decode cX11_isTree 18 = .ok (.iconst 0, 1) := by decide +kernel
theorem dX11_isTree_19 : decode cX11_isTree 19 = .ok (.ireturn, 1) := by decide +kernel
theorem dX11_tasteOf_0 : decode cX11_tasteOf 0 = .ok (.aload_n 0, 1) := by decide +kernel
theorem dX11_tasteOf_1 : decode cX11_tasteOf 1 = .ok (.getfield 7, 3) := by decide +kernel
theorem dX11_tasteOf_4 : decode cX11_tasteOf 4 = .ok (.bipush 86, 2) := by decide +kernel
theorem dX11_tasteOf_6 : decode cX11_tasteOf 6 = .ok (.iconst 5, 1) := by decide +kernel
theorem dX11_tasteOf_7 : decode cX11_tasteOf 7 = .ok (.iload_n 1, 1) := by decide +kernel
theorem dX11_tasteOf_8 : decode cX11_tasteOf 8 = .ok (.imul, 1) := by decide +kernel
theorem dX11_tasteOf_9 : decode cX11_tasteOf 9 = .ok (.iadd, 1) := by decide +kernel
theorem dX11_tasteOf_10 : decode cX11_tasteOf 10 = .ok (.iload_n 2, 1) := by decide +kernel
theorem dX11_tasteOf_11 : decode cX11_tasteOf 11 = .ok (.iadd, 1) := by decide +kernel
theorem dX11_tasteOf_12 : decode cX11_tasteOf 12 = .ok (.iaload, 1) := by decide +kernel
theorem dX11_tasteOf_13 : decode cX11_tasteOf 13 = .ok (.iconst 5, 1) := by decide +kernel
theorem dX11_tasteOf_14 : decode cX11_tasteOf 14 = .ok (.iadd, 1) := by decide +kernel
theorem dX11_tasteOf_15 : decode cX11_tasteOf 15 = .ok (.ireturn, 1) := by decide +kernel
theorem dX11_tasteBe_0 : decode cX11_tasteBe 0 = .ok (.aload_n 0, 1) := by decide +kernel
theorem dX11_tasteBe_1 : decode cX11_tasteBe 1 = .ok (.getfield 7, 3) := by decide +kernel
theorem dX11_tasteBe_4 : decode cX11_tasteBe 4 = .ok (.bipush 86, 2) := by decide +kernel
theorem dX11_tasteBe_6 : decode cX11_tasteBe 6 = .ok (.iconst 5, 1) := by decide +kernel
theorem dX11_tasteBe_7 : decode cX11_tasteBe 7 = .ok (.iload_n 1, 1) := by decide +kernel
theorem dX11_tasteBe_8 : decode cX11_tasteBe 8 = .ok (.imul, 1) := by decide +kernel
theorem dX11_tasteBe_9 : decode cX11_tasteBe 9 = .ok (.iadd, 1) := by decide +kernel
theorem dX11_tasteBe_10 : decode cX11_tasteBe 10 = .ok (.iload_n 2, 1) := by decide +kernel
theorem dX11_tasteBe_11 : decode cX11_tasteBe 11 = .ok (.iadd, 1) := by decide +kernel
theorem dX11_tasteBe_12 : decode cX11_tasteBe 12 = .ok (.aload_n 0, 1) := by decide +kernel
theorem dX11_tasteBe_13 : decode cX11_tasteBe 13 = .ok (.iload_n 3, 1) := by decide +kernel
theorem dX11_tasteBe_14 : decode cX11_tasteBe 14 = .ok (.iconst 0, 1) := by decide +kernel
theorem dX11_tasteBe_15 : decode cX11_tasteBe 15 = .ok (.bipush 9, 2) := by decide +kernel
theorem dX11_tasteBe_17 : decode cX11_tasteBe 17 = .ok (.invokevirtual 122, 3) := by decide +kernel
theorem dX11_tasteBe_20 : decode cX11_tasteBe 20 = .ok (.iconst 5, 1) := by decide +kernel
theorem dX11_tasteBe_21 : decode cX11_tasteBe 21 = .ok (.isub, 1) := by decide +kernel
theorem dX11_tasteBe_22 : decode cX11_tasteBe 22 = .ok (.iastore, 1) := by decide +kernel
theorem dX11_tasteBe_23 : decode cX11_tasteBe 23 = .ok (.return_, 1) := by decide +kernel
theorem dX11_party_0 : decode cX11_party 0 = .ok (.aload_n 0, 1) := by decide +kernel
theorem dX11_party_1 : decode cX11_party 1 = .ok (.iconst 0, 1) := by decide +kernel
theorem dX11_party_2 : decode cX11_party 2 = .ok (.putfield 86, 3) := by decide +kernel
theorem dX11_party_5 : decode cX11_party 5 = .ok (.aload_n 0, 1) := by decide +kernel
theorem dX11_party_6 : decode cX11_party 6 = .ok (.iload_n 1, 1) := by decide +kernel
theorem dX11_party_7 : decode cX11_party 7 = .ok (.iconst 0, 1) := by decide +kernel
theorem dX11_party_8 : decode cX11_party 8 = .ok (.sipush 999, 3) := by decide +kernel
theorem dX11_party_11 : decode cX11_party 11 = .ok (.invokevirtual 126, 3) := by decide +kernel
theorem dX11_party_14 : decode cX11_party 14 = .ok (.ifCond .eq 11, 3) := by decide +kernel
theorem dX11_party_17 : decode cX11_party 17 = .ok (.aload_n 0, 1) := by decide +kernel
theorem dX11_party_18 : decode cX11_party 18 = .ok (.getfield 116, 3) := by decide +kernel
theorem dX11_party_21 : decode cX11_party 21 = .ok (.iconst 5, 1) := by decide +kernel
theorem dX11_party_22 : decode cX11_party 22 = .ok (.if_icmp .ne 5, 3) := by decide +kernel
theorem dX11_party_25 : decode cX11_party 25 = .ok (.iconst (-1), 1) := by decide +kernel
theorem dX11_party_26 : decode cX11_party 26 = .ok (.ireturn, 1) := by decide +kernel
theorem dX11_party_27 : decode cX11_party 27 = .ok (.aload_n 0, 1) := by decide +kernel
theorem dX11_party_28 : decode cX11_party 28 = .ok (.getfield 7, 3) := by decide +kernel
theorem dX11_party_31 : decode cX11_party 31 = .ok (.bipush 15, 2) := by decide +kernel
theorem dX11_party_33 : decode cX11_party 33 = .ok (.aload_n 0, 1) := by decide +kernel
theorem dX11_party_34 : decode cX11_party 34 = .ok (.getfield 116, 3) := by decide +kernel
theorem dX11_party_37 : decode cX11_party 37 = .ok (.iadd, 1) := by decide +kernel
theorem dX11_party_38 : decode cX11_party 38 = .ok (.iload_n 1, 1) := by decide +kernel
theorem dX11_party_39 : decode cX11_party 39 = .ok (.iastore, 1) := by decide +kernel
theorem dX11_party_40 : decode cX11_party 40 = .ok (.aload_n 0, 1) := by decide +kernel
theorem dX11_party_41 : decode cX11_party 41 = .ok (.aload_n 0, 1) := by decide +kernel
theorem dX11_party_42 : decode cX11_party 42 = .ok (.getfield 116, 3) := by decide +kernel
theorem dX11_party_45 : decode cX11_party 45 = .ok (.iconst 1, 1) := by decide +kernel
theorem dX11_party_46 : decode cX11_party 46 = .ok (.iadd, 1) := by decide +kernel
theorem dX11_party_47 : decode cX11_party 47 = .ok (.putfield 116, 3) := by decide +kernel
theorem dX11_party_50 : decode cX11_party 50 = .ok (.aload_n 0, 1) := by decide +kernel
theorem dX11_party_51 : decode cX11_party 51 = .ok (.iconst 0, 1) := by decide +kernel
theorem dX11_party_52 : decode cX11_party 52 = .ok (.putfield 89, 3) := by decide +kernel
theorem dX11_party_55 : decode cX11_party 55 = .ok (.aload_n 0, 1) := by decide +kernel
theorem dX11_party_56 : decode cX11_party 56 = .ok (.getfield 116, 3) := by decide +kernel
theorem dX11_party_59 : decode cX11_party 59 = .ok (.iconst 1, 1) := by decide +kernel
theorem dX11_party_60 : decode cX11_party 60 = .ok (.isub, 1) := by decide +kernel
theorem dX11_party_61 : decode cX11_party 61 = .ok (.ireturn, 1) := by decide +kernel
theorem dX11_eater_0 : decode cX11_eater 0 = .ok (.aload_n 0, 1) := by decide +kernel
theorem dX11_eater_1 : decode cX11_eater 1 = .ok (.iconst 0, 1) := by decide +kernel
theorem dX11_eater_2 : decode cX11_eater 2 = .ok (.putfield 86, 3) := by decide +kernel
theorem dX11_eater_5 : decode cX11_eater 5 = .ok (.aload_n 0, 1) := by decide +kernel
theorem dX11_eater_6 : decode cX11_eater 6 = .ok (.iload_n 1, 1) := by decide +kernel
theorem dX11_eater_7 : decode cX11_eater 7 = .ok (.iconst 0, 1) := by decide +kernel
theorem dX11_eater_8 : decode cX11_eater 8 = .ok (.bipush 20, 2) := by decide +kernel
theorem dX11_eater_10 : decode cX11_eater 10 = .ok (.invokevirtual 126, 3) := by decide +kernel
theorem dX11_eater_13 : decode cX11_eater 13 = .ok (.ifCond .eq 12, 3) := by decide +kernel
theorem dX11_eater_16 : decode cX11_eater 16 = .ok (.aload_n 0, 1) := by decide +kernel
theorem dX11_eater_17 : decode cX11_eater 17 = .ok (.getfield 119, 3) := by decide +kernel
theorem dX11_eater_20 : decode cX11_eater 20 = .ok (.bipush 10, 2) := by decide +kernel
theorem dX11_eater_22 : decode cX11_eater 22 = .ok (.if_icmp .ne 5, 3) := by decide +kernel
theorem dX11_eater_25 : decode cX11_eater 25 = .ok (.iconst (-1), 1) := by decide +kernel
theorem dX11_eater_26 : decode cX11_eater 26 = .ok (.ireturn, 1) := by decide +kernel
theorem dX11_eater_27 : decode cX11_eater 27 = .ok (.aload_n 0, 1) := by decide +kernel
theorem dX11_eater_28 : decode cX11_eater 28 = .ok (.getfield 7, 3) := by decide +kernel
theorem dX11_eater_31 : decode cX11_eater 31 = .ok (.bipush 76, 2) := by decide +kernel
theorem dX11_eater_33 : decode cX11_eater 33 = .ok (.aload_n 0, 1) := by decide +kernel
theorem dX11_eater_34 : decode cX11_eater 34 = .ok (.getfield 119, 3) := by decide +kernel
theorem dX11_eater_37 : decode cX11_eater 37 = .ok (.iadd, 1) := by decide +kernel
theorem dX11_eater_38 : decode cX11_eater 38 = .ok (.iload_n 1, 1) := by decide +kernel
theorem dX11_eater_39 : decode cX11_eater 39 = .ok (.iastore, 1) := by decide +kernel
theorem dX11_eater_40 : decode cX11_eater 40 = .ok (.aload_n 0, 1) := by decide +kernel
theorem dX11_eater_41 : decode cX11_eater 41 = .ok (.aload_n 0, 1) := by decide +kernel
theorem dX11_eater_42 : decode cX11_eater 42 = .ok (.getfield 119, 3) := by decide +kernel
theorem dX11_eater_45 : decode cX11_eater 45 = .ok (.iconst 1, 1) := by decide +kernel
theorem dX11_eater_46 : decode cX11_eater 46 = .ok (.iadd, 1) := by decide +kernel
theorem dX11_eater_47 : decode cX11_eater 47 = .ok (.putfield 119, 3) := by decide +kernel
theorem dX11_eater_50 : decode cX11_eater 50 = .ok (.aload_n 0, 1) := by decide +kernel
theorem dX11_eater_51 : decode cX11_eater 51 = .ok (.iconst 0, 1) := by decide +kernel
theorem dX11_eater_52 : decode cX11_eater 52 = .ok (.putfield 89, 3) := by decide +kernel
theorem dX11_eater_55 : decode cX11_eater 55 = .ok (.aload_n 0, 1) := by decide +kernel
theorem dX11_eater_56 : decode cX11_eater 56 = .ok (.getfield 119, 3) := by decide +kernel
theorem dX11_eater_59 : decode cX11_eater 59 = .ok (.iconst 1, 1) := by decide +kernel
theorem dX11_eater_60 : decode cX11_eater 60 = .ok (.isub, 1) := by decide +kernel
theorem dX11_eater_61 : decode cX11_eater 61 = .ok (.ireturn, 1) := by decide +kernel
theorem dX11_taste_0 : decode cX11_taste 0 = .ok (.aload_n 0, 1) := by decide +kernel
theorem dX11_taste_1 : decode cX11_taste 1 = .ok (.iconst 0, 1) := by decide +kernel
theorem dX11_taste_2 : decode cX11_taste 2 = .ok (.putfield 86, 3) := by decide +kernel
theorem dX11_taste_5 : decode cX11_taste 5 = .ok (.aload_n 0, 1) := by decide +kernel
theorem dX11_taste_6 : decode cX11_taste 6 = .ok (.iload_n 1, 1) := by decide +kernel
theorem dX11_taste_7 : decode cX11_taste 7 = .ok (.invokevirtual 130, 3) := by decide +kernel
theorem dX11_taste_10 : decode cX11_taste 10 = .ok (.ifCond .eq 22, 3) := by decide +kernel
theorem dX11_taste_13 : decode cX11_taste 13 = .ok (.aload_n 0, 1) := by decide +kernel
theorem dX11_taste_14 : decode cX11_taste 14 = .ok (.iload_n 2, 1) := by decide +kernel
theorem dX11_taste_15 : decode cX11_taste 15 = .ok (.invokevirtual 134, 3) := by decide +kernel
theorem dX11_taste_18 : decode cX11_taste 18 = .ok (.ifCond .eq 14, 3) := by decide +kernel
theorem dX11_taste_21 : decode cX11_taste 21 = .ok (.aload_n 0, 1) := by decide +kernel
theorem dX11_taste_22 : decode cX11_taste 22 = .ok (.iload_n 3, 1) := by decide +kernel
theorem dX11_taste_23 : decode cX11_taste 23 = .ok (.iconst 0, 1) := by decide +kernel
theorem dX11_taste_24 : decode cX11_taste 24 = .ok (.bipush 9, 2) := by decide +kernel
theorem dX11_taste_26 : decode cX11_taste 26 = .ok (.invokevirtual 126, 3) := by decide +kernel
theorem dX11_taste_29 : decode cX11_taste 29 = .ok (.ifCond .ne 5, 3) := by decide +kernel
theorem dX11_taste_32 : decode cX11_taste 32 = .ok (.iconst 0, 1) := by decide +kernel
theorem dX11_taste_33 : decode cX11_taste 33 = .ok (.ireturn, 1) := by decide +kernel
theorem dX11_taste_34 : decode cX11_taste 34 = .ok (.aload_n 0, 1) := by decide +kernel
theorem dX11_taste_35 : decode cX11_taste 35 = .ok (.iload_n 1, 1) := by decide +kernel
theorem dX11_taste_36 : decode cX11_taste 36 = .ok (.iload_n 2, 1) := by decide +kernel
theorem dX11_taste_37 : decode cX11_taste 37 = .ok (.iload_n 3, 1) := by decide +kernel
theorem dX11_taste_38 : decode cX11_taste 38 = .ok (.invokevirtual 137, 3) := by decide +kernel
theorem dX11_taste_41 : decode cX11_taste 41 = .ok (.aload_n 0, 1) := by decide +kernel
theorem dX11_taste_42 : decode cX11_taste 42 = .ok (.iconst 0, 1) := by decide +kernel
theorem dX11_taste_43 : decode cX11_taste 43 = .ok (.putfield 89, 3) := by decide +kernel
theorem dX11_taste_46 : decode cX11_taste 46 = .ok (.iconst 1, 1) := by decide +kernel
theorem dX11_taste_47 : decode cX11_taste 47 = .ok (.ireturn, 1) := by decide +kernel
theorem dX11_canSet_0 : decode cX11_canSet 0 = .ok (.iload_n 1, 1) := by decide +kernel
theorem dX11_canSet_1 : decode cX11_canSet 1 = .ok (.ifCond .eq 8, 3) := by decide +kernel
theorem dX11_canSet_4 : decode cX11_canSet 4 = .ok (.iload_n 1, 1) := by decide +kernel
theorem dX11_canSet_5 : decode cX11_canSet 5 = .ok (.iconst 1, 1) := by decide +kernel
theorem dX11_canSet_6 : decode cX11_canSet 6 = .ok (.if_icmp .ne 13, 3) := by decide +kernel
theorem dX11_canSet_9 : decode cX11_canSet 9 = .ok (.aload_n 0, 1) := by decide +kernel
theorem dX11_canSet_10 : decode cX11_canSet 10 = .ok (.iload_n 3, 1) := by decide +kernel
theorem dX11_canSet_11 : decode cX11_canSet 11 = .ok (.iconst 0, 1) := by decide +kernel
theorem dX11_canSet_12 : decode cX11_canSet 12 = .ok (.sipush 1000, 3) := by decide +kernel
theorem dX11_canSet_15 : decode cX11_canSet 15 = .ok (.invokevirtual 126, 3) := by decide +kernel
theorem dX11_canSet_18 : decode cX11_canSet 18 = .ok (.ireturn, 1) := by decide +kernel
theorem dX11_canSet_19 : decode cX11_canSet 19 = .ok (.iload_n 1, 1) := by decide +kernel
theorem dX11_canSet_20 : decode cX11_canSet 20 = .ok (.iconst 2, 1) := by decide +kernel
theorem dX11_canSet_21 : decode cX11_canSet 21 = .ok (.if_icmp .ne 12, 3) := by decide +kernel
theorem dX11_canSet_24 : decode cX11_canSet 24 = .ok (.aload_n 0, 1) := by decide +kernel
theorem dX11_canSet_25 : decode cX11_canSet 25 = .ok (.iload_n 3, 1) := by decide +kernel
theorem dX11_canSet_26 : decode cX11_canSet 26 = .ok (.iconst 1, 1) := by decide +kernel
theorem dX11_canSet_27 : decode cX11_canSet 27 = .ok (.bipush 99, 2) := by decide +kernel
theorem dX11_canSet_29 : decode cX11_canSet 29 = .ok (.invokevirtual 126, 3) := by decide +kernel
theorem dX11_canSet_32 : decode cX11_canSet 32 = .ok (.ireturn, 1) := by decide +kernel
theorem dX11_canSet_33 : decode cX11_canSet 33 = .ok (.iload_n 1, 1) := by decide +kernel
theorem dX11_canSet_34 : decode cX11_canSet 34 = .ok (.iconst 3, 1) := by decide +kernel
theorem dX11_canSet_35 : decode cX11_canSet 35 = .ok (.if_icmp .ne 12, 3) := by decide +kernel
theorem dX11_canSet_38 : decode cX11_canSet 38 = .ok (.aload_n 0, 1) := by decide +kernel
theorem dX11_canSet_39 : decode cX11_canSet 39 = .ok (.iload_n 3, 1) := by decide +kernel
theorem dX11_canSet_40 : decode cX11_canSet 40 = .ok (.iconst 1, 1) := by decide +kernel
theorem dX11_canSet_41 : decode cX11_canSet 41 = .ok (.bipush 52, 2) := by decide +kernel
theorem dX11_canSet_43 : decode cX11_canSet 43 = .ok (.invokevirtual 126, 3) := by decide +kernel
theorem dX11_canSet_46 : decode cX11_canSet 46 = .ok (.ireturn, 1) := by decide +kernel
theorem dX11_canSet_47 : decode cX11_canSet 47 = .ok (.iload_n 1, 1) := by decide +kernel
theorem dX11_canSet_48 : decode cX11_canSet 48 = .ok (.iconst 4, 1) := by decide +kernel
theorem dX11_canSet_49 : decode cX11_canSet 49 = .ok (.if_icmp .ne 28, 3) := by decide +kernel
theorem dX11_canSet_52 : decode cX11_canSet 52 = .ok (.aload_n 0, 1) := by decide +kernel
theorem dX11_canSet_53 : decode cX11_canSet 53 = .ok (.iload_n 2, 1) := by decide +kernel
theorem dX11_canSet_54 : decode cX11_canSet 54 = .ok (.invokevirtual 141, 3) := by decide +kernel
theorem dX11_canSet_57 : decode cX11_canSet 57 = .ok (.ifCond .eq 18, 3) := by decide +kernel
theorem dX11_canSet_60 : decode cX11_canSet 60 = .ok (.aload_n 0, 1) := by decide +kernel
theorem dX11_canSet_61 : decode cX11_canSet 61 = .ok (.iload_n 3, 1) := by decide +kernel
theorem dX11_canSet_62 : decode cX11_canSet 62 = .ok (.iconst 0, 1) := by decide +kernel
theorem dX11_canSet_63 : decode cX11_canSet 63 = .ok (.bipush 99, 2) := by decide +kernel
theorem dX11_canSet_65 : decode cX11_canSet 65 = .ok (.invokevirtual 126, 3) := by decide +kernel
theorem dX11_canSet_68 : decode cX11_canSet 68 = .ok (.ifCond .eq 7, 3) := by decide +kernel
theorem dX11_canSet_71 : decode cX11_canSet 71 = .ok (.iconst 1, 1) := by decide +kernel
theorem dX11_canSet_72 : decode cX11_canSet 72 = .ok (.goto 4, 3) := by decide +kernel
theorem dX11_canSet_75 : decode cX11_canSet 75 = .ok (.iconst 0, 1) := by decide +kernel
theorem dX11_canSet_76 : decode cX11_canSet 76 = .ok (.ireturn, 1) := by decide +kernel
theorem dX11_canSet_77 : decode cX11_canSet 77 = .ok (.iload_n 1, 1) := by decide +kernel
theorem dX11_canSet_78 : decode cX11_canSet 78 = .ok (.iconst 5, 1) := by decide +kernel
theorem dX11_canSet_79 : decode cX11_canSet 79 = .ok (.if_icmp .ne 28, 3) := by decide +kernel
theorem dX11_canSet_82 : decode cX11_canSet 82 = .ok (.aload_n 0, 1) := by decide +kernel
theorem dX11_canSet_83 : decode cX11_canSet 83 = .ok (.iload_n 2, 1) := by decide +kernel
theorem dX11_canSet_84 : decode cX11_canSet 84 = .ok (.invokevirtual 130, 3) := by decide +kernel
theorem dX11_canSet_87 : decode cX11_canSet 87 = .ok (.ifCond .eq 18, 3) := by decide +kernel
theorem dX11_canSet_90 : decode cX11_canSet 90 = .ok (.aload_n 0, 1) := by decide +kernel
theorem dX11_canSet_91 : decode cX11_canSet 91 = .ok (.iload_n 3, 1) := by decide +kernel
theorem dX11_canSet_92 : decode cX11_canSet 92 = .ok (.iconst 0, 1) := by decide +kernel
theorem dX11_canSet_93 : decode cX11_canSet 93 = .ok (.bipush 20, 2) := by decide +kernel
theorem dX11_canSet_95 : decode cX11_canSet 95 = .ok (.invokevirtual 126, 3) := by decide +kernel
theorem dX11_canSet_98 : decode cX11_canSet 98 = .ok (.ifCond .eq 7, 3) := by decide +kernel
theorem dX11_canSet_101 : decode cX11_canSet 101 = .ok (.iconst 1, 1) := by decide +kernel
theorem dX11_canSet_102 : decode cX11_canSet 102 = .ok (.goto 4, 3) := by decide +kernel
theorem dX11_canSet_105 : decode cX11_canSet 105 = .ok (.iconst 0, 1) := by decide +kernel
theorem dX11_canSet_106 : decode cX11_canSet 106 = .ok (.ireturn, 1) := by decide +kernel
theorem dX11_canSet_107 : decode cX11_canSet 107 = .ok (.aload_n 0, 1) := by decide +kernel
theorem dX11_canSet_108 : decode cX11_canSet 108 = .ok (.iload_n 1, 1) := by decide +kernel
theorem dX11_canSet_109 : decode cX11_canSet 109 = .ok (.bipush 6, 2) := by decide +kernel
theorem dX11_canSet_111 : decode cX11_canSet 111 = .ok (.bipush 7, 2) := by decide +kernel
theorem dX11_canSet_113 : decode cX11_canSet 113 = .ok (.invokevirtual 126, 3) := by decide +kernel
theorem dX11_canSet_116 : decode cX11_canSet 116 = .ok (.ifCond .eq 39, 3) := by decide +kernel
theorem dX11_canSet_119 : decode cX11_canSet 119 = .ok (.aload_n 0, 1) := by decide +kernel
theorem dX11_canSet_120 : decode cX11_canSet 120 = .ok (.iload_n 2, 1) := by decide +kernel
theorem dX11_canSet_121 : decode cX11_canSet 121 = .ok (.invokevirtual 134, 3) := by decide +kernel
theorem dX11_canSet_124 : decode cX11_canSet 124 = .ok (.ifCond .eq 31, 3) := by decide +kernel
theorem dX11_canSet_127 : decode cX11_canSet 127 = .ok (.aload_n 0, 1) := by decide +kernel
theorem dX11_canSet_128 : decode cX11_canSet 128 = .ok (.iload_n 3, 1) := by decide +kernel
theorem dX11_canSet_129 : decode cX11_canSet 129 = .ok (.iconst 0, 1) := by decide +kernel
theorem dX11_canSet_130 : decode cX11_canSet 130 = .ok (.iload_n 1, 1) := by decide +kernel
theorem dX11_canSet_131 : decode cX11_canSet 131 = .ok (.bipush 6, 2) := by decide +kernel
theorem dX11_canSet_133 : decode cX11_canSet 133 = .ok (.if_icmp .ne 9, 3) := by decide +kernel
theorem dX11_canSet_136 : decode cX11_canSet 136 = .ok (.sipush 999, 3) := by decide +kernel
theorem dX11_canSet_139 : decode cX11_canSet 139 = .ok (.goto 6, 3) := by decide +kernel
theorem dX11_canSet_142 : decode cX11_canSet 142 = .ok (.sipush 9999, 3) := by decide +kernel
theorem dX11_canSet_145 : decode cX11_canSet 145 = .ok (.invokevirtual 126, 3) := by decide +kernel
theorem dX11_canSet_148 : decode cX11_canSet 148 = .ok (.ifCond .eq 7, 3) := by decide +kernel
theorem dX11_canSet_151 : decode cX11_canSet 151 = .ok (.iconst 1, 1) := by decide +kernel
theorem dX11_canSet_152 : decode cX11_canSet 152 = .ok (.goto 4, 3) := by decide +kernel
theorem dX11_canSet_155 : decode cX11_canSet 155 = .ok (.iconst 0, 1) := by decide +kernel
theorem dX11_canSet_156 : decode cX11_canSet 156 = .ok (.ireturn, 1) := by decide +kernel
theorem dX11_set_0 : decode cX11_set 0 = .ok (.aload_n 0, 1) := by decide +kernel
theorem dX11_set_1 : decode cX11_set 1 = .ok (.iconst 0, 1) := by decide +kernel
theorem dX11_set_2 : decode cX11_set 2 = .ok (.putfield 86, 3) := by decide +kernel
theorem dX11_set_5 : decode cX11_set 5 = .ok (.aload_n 0, 1) := by decide +kernel
theorem dX11_set_6 : decode cX11_set 6 = .ok (.iload_n 1, 1) := by decide +kernel
theorem dX11_set_7 : decode cX11_set 7 = .ok (.iload_n 2, 1) := by decide +kernel
theorem dX11_set_8 : decode cX11_set 8 = .ok (.iload_n 3, 1) := by decide +kernel
theorem dX11_set_9 : decode cX11_set 9 = .ok (.invokevirtual 144, 3) := by decide +kernel
theorem dX11_set_12 : decode cX11_set 12 = .ok (.ifCond .ne 5, 3) := by decide +kernel
theorem dX11_set_15 : decode cX11_set 15 = .ok (.iconst 0, 1) := by decide +kernel
theorem dX11_set_16 : decode cX11_set 16 = .ok (.ireturn, 1) := by decide +kernel
theorem dX11_set_17 : decode cX11_set 17 = .ok (.iload_n 1, 1) := by decide +kernel
theorem dX11_set_18 : decode cX11_set 18 = .ok (.ifCond .ne 8, 3) := by decide +kernel
theorem dX11_set_21 : decode cX11_set 21 = .ok (.aload_n 0, 1) := by decide +kernel
theorem dX11_set_22 : decode cX11_set 22 = .ok (.iload_n 3, 1) := by decide +kernel
theorem dX11_set_23 : decode cX11_set 23 = .ok (.putfield 147, 3) := by decide +kernel
theorem dX11_set_26 : decode cX11_set 26 = .ok (.iload_n 1, 1) := by decide +kernel
theorem dX11_set_27 : decode cX11_set 27 = .ok (.iconst 1, 1) := by decide +kernel
theorem dX11_set_28 : decode cX11_set 28 = .ok (.if_icmp .ne 8, 3) := by decide +kernel
theorem dX11_set_31 : decode cX11_set 31 = .ok (.aload_n 0, 1) := by decide +kernel
theorem dX11_set_32 : decode cX11_set 32 = .ok (.iload_n 3, 1) := by decide +kernel
theorem dX11_set_33 : decode cX11_set 33 = .ok (.putfield 150, 3) := by decide +kernel
theorem dX11_set_36 : decode cX11_set 36 = .ok (.iload_n 1, 1) := by decide +kernel
theorem dX11_set_37 : decode cX11_set 37 = .ok (.iconst 2, 1) := by decide +kernel
theorem dX11_set_38 : decode cX11_set 38 = .ok (.if_icmp .ne 11, 3) := by decide +kernel
theorem dX11_set_41 : decode cX11_set 41 = .ok (.aload_n 0, 1) := by decide +kernel
theorem dX11_set_42 : decode cX11_set 42 = .ok (.iload_n 3, 1) := by decide +kernel
theorem dX11_set_43 : decode cX11_set 43 = .ok (.bipush 9, 2) := by decide +kernel
theorem dX11_set_45 : decode cX11_set 45 = .ok (.isub, 1) := by decide +kernel
theorem dX11_set_46 : decode cX11_set 46 = .ok (.putfield 110, 3) := by decide +kernel
theorem dX11_set_49 : decode cX11_set 49 = .ok (.iload_n 1, 1) := by decide +kernel
theorem dX11_set_50 : decode cX11_set 50 = .ok (.iconst 3, 1) := by decide +kernel
theorem dX11_set_51 : decode cX11_set 51 = .ok (.if_icmp .ne 10, 3) := by decide +kernel
theorem dX11_set_54 : decode cX11_set 54 = .ok (.aload_n 0, 1) := by decide +kernel
theorem dX11_set_55 : decode cX11_set 55 = .ok (.iload_n 3, 1) := by decide +kernel
theorem dX11_set_56 : decode cX11_set 56 = .ok (.iconst 4, 1) := by decide +kernel
theorem dX11_set_57 : decode cX11_set 57 = .ok (.isub, 1) := by decide +kernel
theorem dX11_set_58 : decode cX11_set 58 = .ok (.putfield 113, 3) := by decide +kernel
theorem dX11_set_61 : decode cX11_set 61 = .ok (.iload_n 1, 1) := by decide +kernel
theorem dX11_set_62 : decode cX11_set 62 = .ok (.iconst 4, 1) := by decide +kernel
theorem dX11_set_63 : decode cX11_set 63 = .ok (.if_icmp .ne 13, 3) := by decide +kernel
theorem dX11_set_66 : decode cX11_set 66 = .ok (.aload_n 0, 1) := by decide +kernel
theorem dX11_set_67 : decode cX11_set 67 = .ok (.getfield 7, 3) := by decide +kernel
theorem dX11_set_70 : decode cX11_set 70 = .ok (.bipush 62, 2) := by decide +kernel
theorem dX11_set_72 : decode cX11_set 72 = .ok (.iload_n 2, 1) := by decide +kernel
theorem dX11_set_73 : decode cX11_set 73 = .ok (.iadd, 1) := by decide +kernel
theorem dX11_set_74 : decode cX11_set 74 = .ok (.iload_n 3, 1) := by decide +kernel
theorem dX11_set_75 : decode cX11_set 75 = .ok (.iastore, 1) := by decide +kernel
theorem dX11_set_76 : decode cX11_set 76 = .ok (.iload_n 1, 1) := by decide +kernel
theorem dX11_set_77 : decode cX11_set 77 = .ok (.iconst 5, 1) := by decide +kernel
theorem dX11_set_78 : decode cX11_set 78 = .ok (.if_icmp .ne 13, 3) := by decide +kernel
theorem dX11_set_81 : decode cX11_set 81 = .ok (.aload_n 0, 1) := by decide +kernel
theorem dX11_set_82 : decode cX11_set 82 = .ok (.getfield 7, 3) := by decide +kernel
theorem dX11_set_85 : decode cX11_set 85 = .ok (.bipush 76, 2) := by decide +kernel
theorem dX11_set_87 : decode cX11_set 87 = .ok (.iload_n 2, 1) := by decide +kernel
theorem dX11_set_88 : decode cX11_set 88 = .ok (.iadd, 1) := by decide +kernel
theorem dX11_set_89 : decode cX11_set 89 = .ok (.iload_n 3, 1) := by decide +kernel
theorem dX11_set_90 : decode cX11_set 90 = .ok (.iastore, 1) := by decide +kernel
theorem dX11_set_91 : decode cX11_set 91 = .ok (.iload_n 1, 1) := by decide +kernel
theorem dX11_set_92 : decode cX11_set 92 = .ok (.bipush 6, 2) := by decide +kernel
theorem dX11_set_94 : decode cX11_set 94 = .ok (.if_icmp .ne 13, 3) := by decide +kernel
theorem dX11_set_97 : decode cX11_set 97 = .ok (.aload_n 0, 1) := by decide +kernel
theorem dX11_set_98 : decode cX11_set 98 = .ok (.getfield 7, 3) := by decide +kernel
theorem dX11_set_101 : decode cX11_set 101 = .ok (.bipush 15, 2) := by decide +kernel
theorem dX11_set_103 : decode cX11_set 103 = .ok (.iload_n 2, 1) := by decide +kernel
theorem dX11_set_104 : decode cX11_set 104 = .ok (.iadd, 1) := by decide +kernel
theorem dX11_set_105 : decode cX11_set 105 = .ok (.iload_n 3, 1) := by decide +kernel
theorem dX11_set_106 : decode cX11_set 106 = .ok (.iastore, 1) := by decide +kernel
theorem dX11_set_107 : decode cX11_set 107 = .ok (.iload_n 1, 1) := by decide +kernel
theorem dX11_set_108 : decode cX11_set 108 = .ok (.bipush 7, 2) := by decide +kernel
theorem dX11_set_110 : decode cX11_set 110 = .ok (.if_icmp .ne 12, 3) := by decide +kernel
theorem dX11_set_113 : decode cX11_set 113 = .ok (.aload_n 0, 1) := by decide +kernel
theorem dX11_set_114 : decode cX11_set 114 = .ok (.getfield 7, 3) := by decide +kernel
theorem dX11_set_117 : decode cX11_set 117 = .ok (.iconst 5, 1) := by decide +kernel
theorem dX11_set_118 : decode cX11_set 118 = .ok (.iload_n 2, 1) := by decide +kernel
theorem dX11_set_119 : decode cX11_set 119 = .ok (.iadd, 1) := by decide +kernel
theorem dX11_set_120 : decode cX11_set 120 = .ok (.iload_n 3, 1) := by decide +kernel
theorem dX11_set_121 : decode cX11_set 121 = .ok (.iastore, 1) := by decide +kernel
theorem dX11_set_122 : decode cX11_set 122 = .ok (.aload_n 0, 1) := by decide +kernel
theorem dX11_set_123 : decode cX11_set 123 = .ok (.iconst 0, 1) := by decide +kernel
theorem dX11_set_124 : decode cX11_set 124 = .ok (.putfield 89, 3) := by decide +kernel
theorem dX11_set_127 : decode cX11_set 127 = .ok (.iconst 1, 1) := by decide +kernel
theorem dX11_set_128 : decode cX11_set 128 = .ok (.ireturn, 1) := by decide +kernel
theorem dX11_types_0 : decode cX11_types 0 = .ok (.bipush 24, 2) := by decide +kernel
theorem dX11_types_2 : decode cX11_types 2 = .ok (.istore_n 2, 1) := by decide +kernel
theorem dX11_types_3 : decode cX11_types 3 = .ok (.iload_n 2, 1) := by decide +kernel
theorem dX11_types_4 : decode cX11_types 4 = .ok (.ifCond .lt 35, 3) := by decide +kernel
theorem dX11_types_7 : decode cX11_types 7 = .ok (.aload_n 0, 1) := by decide +kernel
theorem dX11_types_8 : decode cX11_types 8 = .ok (.getfield 22, 3) := by decide +kernel
theorem dX11_types_11 : decode cX11_types 11 = .ok (.aload_n 0, 1) := by decide +kernel
theorem dX11_types_12 : decode cX11_types 12 = .ok (.getfield 153, 3) := by decide +kernel
theorem dX11_types_15 : decode cX11_types 15 = .ok (.iload_n 1, 1) := by decide +kernel
theorem dX11_types_16 : decode cX11_types 16 = .ok (.iload_n 2, 1) := by decide +kernel
theorem dX11_types_17 : decode cX11_types 17 = .ok (.ishr, 1) := by decide +kernel
theorem dX11_types_18 : decode cX11_types 18 = .ok (.sipush 255, 3) := by decide +kernel
theorem dX11_types_21 : decode cX11_types 21 = .ok (.iand, 1) := by decide +kernel
theorem dX11_types_22 : decode cX11_types 22 = .ok (.iastore, 1) := by decide +kernel
theorem dX11_types_23 : decode cX11_types 23 = .ok (.aload_n 0, 1) := by decide +kernel
theorem dX11_types_24 : decode cX11_types 24 = .ok (.aload_n 0, 1) := by decide +kernel
theorem dX11_types_25 : decode cX11_types 25 = .ok (.getfield 153, 3) := by decide +kernel
theorem dX11_types_28 : decode cX11_types 28 = .ok (.iconst 1, 1) := by decide +kernel
theorem dX11_types_29 : decode cX11_types 29 = .ok (.iadd, 1) := by decide +kernel
theorem dX11_types_30 : decode cX11_types 30 = .ok (.putfield 153, 3) := by decide +kernel
theorem dX11_types_33 : decode cX11_types 33 = .ok (.iinc 2 (-8), 3) := by decide +kernel
theorem dX11_types_36 : decode cX11_types 36 = .ok (.goto (-33), 3) := by decide +kernel
theorem dX11_types_39 : decode cX11_types 39 = .ok (.return_, 1) := by decide +kernel
theorem dX11_feed_0 : decode cX11_feed 0 = .ok (.aload_n 0, 1) := by decide +kernel
theorem dX11_feed_1 : decode cX11_feed 1 = .ok (.iconst 0, 1) := by decide +kernel
theorem dX11_feed_2 : decode cX11_feed 2 = .ok (.putfield 86, 3) := by decide +kernel
theorem dX11_feed_5 : decode cX11_feed 5 = .ok (.aload_n 0, 1) := by decide +kernel
theorem dX11_feed_6 : decode cX11_feed 6 = .ok (.getfield 153, 3) := by decide +kernel
theorem dX11_feed_9 : decode cX11_feed 9 = .ok (.sipush 380, 3) := by decide +kernel
theorem dX11_feed_12 : decode cX11_feed 12 = .ok (.if_icmp .le 5, 3) := by decide +kernel
theorem dX11_feed_15 : decode cX11_feed 15 = .ok (.iconst (-1), 1) := by decide +kernel
theorem dX11_feed_16 : decode cX11_feed 16 = .ok (.ireturn, 1) := by decide +kernel
theorem dX11_feed_17 : decode cX11_feed 17 = .ok (.aload_n 0, 1) := by decide +kernel
theorem dX11_feed_18 : decode cX11_feed 18 = .ok (.iload_n 1, 1) := by decide +kernel
theorem dX11_feed_19 : decode cX11_feed 19 = .ok (.invokevirtual 156, 3) := by decide +kernel
theorem dX11_feed_22 : decode cX11_feed 22 = .ok (.aload_n 0, 1) := by decide +kernel
theorem dX11_feed_23 : decode cX11_feed 23 = .ok (.iload_n 2, 1) := by decide +kernel
theorem dX11_feed_24 : decode cX11_feed 24 = .ok (.invokevirtual 156, 3) := by decide +kernel
theorem dX11_feed_27 : decode cX11_feed 27 = .ok (.aload_n 0, 1) := by decide +kernel
theorem dX11_feed_28 : decode cX11_feed 28 = .ok (.iload_n 3, 1) := by decide +kernel
theorem dX11_feed_29 : decode cX11_feed 29 = .ok (.invokevirtual 156, 3) := by decide +kernel
theorem dX11_feed_32 : decode cX11_feed 32 = .ok (.aload_n 0, 1) := by decide +kernel
theorem dX11_feed_33 : decode cX11_feed 33 = .ok (.iload 4, 2) := by decide +kernel
theorem dX11_feed_35 : decode cX11_feed 35 = .ok (.invokevirtual 156, 3) := by decide +kernel
theorem dX11_feed_38 : decode cX11_feed 38 = .ok (.aload_n 0, 1) := by decide +kernel
theorem dX11_feed_39 : decode cX11_feed 39 = .ok (.iload 5, 2) := by decide +kernel
theorem dX11_feed_41 : decode cX11_feed 41 = .ok (.invokevirtual 156, 3) := by decide +kernel
theorem dX11_feed_44 : decode cX11_feed 44 = .ok (.aload_n 0, 1) := by decide +kernel
theorem dX11_feed_45 : decode cX11_feed 45 = .ok (.getfield 153, 3) := by decide +kernel
theorem dX11_feed_48 : decode cX11_feed 48 = .ok (.ireturn, 1) := by decide +kernel
theorem dX11_end_0 : decode cX11_end 0 = .ok (.aload_n 0, 1) := by decide +kernel
theorem dX11_end_1 : decode cX11_end 1 = .ok (.iconst 0, 1) := by decide +kernel
theorem dX11_end_2 : decode cX11_end 2 = .ok (.putfield 86, 3) := by decide +kernel
theorem dX11_end_5 : decode cX11_end 5 = .ok (.aload_n 0, 1) := by decide +kernel
theorem dX11_end_6 : decode cX11_end 6 = .ok (.iload_n 1, 1) := by decide +kernel
theorem dX11_end_7 : decode cX11_end 7 = .ok (.iconst 0, 1) := by decide +kernel
theorem dX11_end_8 : decode cX11_end 8 = .ok (.aload_n 0, 1) := by decide +kernel
theorem dX11_end_9 : decode cX11_end 9 = .ok (.getfield 153, 3) := by decide +kernel
theorem dX11_end_12 : decode cX11_end 12 = .ok (.invokevirtual 126, 3) := by decide +kernel
theorem dX11_end_15 : decode cX11_end 15 = .ok (.ifCond .ne 5, 3) := by decide +kernel
theorem dX11_end_18 : decode cX11_end 18 = .ok (.iconst 0, 1) := by decide +kernel
theorem dX11_end_19 : decode cX11_end 19 = .ok (.ireturn, 1) := by decide +kernel
theorem dX11_end_20 : decode cX11_end 20 = .ok (.aload_n 0, 1) := by decide +kernel
theorem dX11_end_21 : decode cX11_end 21 = .ok (.iload_n 1, 1) := by decide +kernel
theorem dX11_end_22 : decode cX11_end 22 = .ok (.putfield 153, 3) := by decide +kernel
theorem dX11_end_25 : decode cX11_end 25 = .ok (.iconst 1, 1) := by decide +kernel
theorem dX11_end_26 : decode cX11_end 26 = .ok (.ireturn, 1) := by decide +kernel
theorem dX11_raw_0 : decode cX11_raw 0 = .ok (.iload_n 1, 1) := by decide +kernel
theorem dX11_raw_1 : decode cX11_raw 1 = .ok (.aload_n 0, 1) := by decide +kernel
theorem dX11_raw_2 : decode cX11_raw 2 = .ok (.getfield 153, 3) := by decide +kernel
theorem dX11_raw_5 : decode cX11_raw 5 = .ok (.if_icmp .ge 12, 3) := by decide +kernel
theorem dX11_raw_8 : decode cX11_raw 8 = .ok (.aload_n 0, 1) := by decide +kernel
theorem dX11_raw_9 : decode cX11_raw 9 = .ok (.getfield 22, 3) := by decide +kernel
theorem dX11_raw_12 : decode cX11_raw 12 = .ok (.iload_n 1, 1) := by decide +kernel
theorem dX11_raw_13 : decode cX11_raw 13 = .ok (.iaload, 1) := by decide +kernel
theorem dX11_raw_14 : decode cX11_raw 14 = .ok (.goto 4, 3) := by decide +kernel
theorem dX11_raw_17 : decode cX11_raw 17 = .ok (.iconst (-1), 1) := by decide +kernel
theorem dX11_raw_18 : decode cX11_raw 18 = .ok (.ireturn, 1) := by decide +kernel
theorem dX11_isLetter_0 : decode cX11_isLetter 0 = .ok (.aload_n 0, 1) := by decide +kernel
theorem dX11_isLetter_1 : decode cX11_isLetter 1 = .ok (.iload_n 1, 1) := by decide +kernel
theorem dX11_isLetter_2 : decode cX11_isLetter 2 = .ok (.bipush 97, 2) := by decide +kernel
theorem dX11_isLetter_4 : decode cX11_isLetter 4 = .ok (.bipush 122, 2) := by decide +kernel
theorem dX11_isLetter_6 : decode cX11_isLetter 6 = .ok (.invokevirtual 126, 3) := by decide +kernel
theorem dX11_isLetter_9 : decode cX11_isLetter 9 = .ok (.ifCond .ne 15, 3) := by decide +kernel
theorem dX11_isLetter_12 : decode cX11_isLetter 12 = .ok (.aload_n 0, 1) := by decide +kernel
theorem dX11_isLetter_13 : decode cX11_isLetter 13 = .ok (.iload_n 1, 1) := by decide +kernel
theorem dX11_isLetter_14 : decode cX11_isLetter 14 = .ok (.bipush 65, 2) := by decide +kernel
theorem dX11_isLetter_16 : decode cX11_isLetter 16 = .ok (.bipush 90, 2) := by decide +kernel
theorem dX11_isLetter_18 : decode cX11_isLetter 18 = .ok (.invokevirtual 126, 3) := by decide +kernel
theorem dX11_isLetter_21 : decode cX11_isLetter 21 = .ok (.ifCond .eq 7, 3) := by decide +kernel
theorem dX11_isLetter_24 : decode cX11_isLetter 24 = .ok (.iconst 1, 1) := by decide +kernel
theorem dX11_isLetter_25 : decode cX11_isLetter 25 = .ok (.goto 4, 3) := by decide +kernel
theorem dX11_isLetter_28 : decode cX11_isLetter 28 = .ok (.iconst 0, 1) := by decide +kernel
theorem dX11_isLetter_29 : decode cX11_isLetter 29 = .ok (.ireturn, 1) := by decide +kernel
theorem dX11_isDigit_0 : decode cX11_isDigit 0 = .ok (.aload_n 0, 1) := by decide +kernel
theorem dX11_isDigit_1 : decode cX11_isDigit 1 = .ok (.iload_n 1, 1) := by decide +kernel
theorem dX11_isDigit_2 : decode cX11_isDigit 2 = .ok (.bipush 48, 2) := by decide +kernel
theorem dX11_isDigit_4 : decode cX11_isDigit 4 = .ok (.bipush 57, 2) := by decide +kernel
theorem dX11_isDigit_6 : decode cX11_isDigit 6 = .ok (.invokevirtual 126, 3) := by decide +kernel
theorem dX11_isDigit_9 : decode cX11_isDigit 9 = .ok (.ireturn, 1) := by decide +kernel
theorem dX11_isMarkSign_0 : decode cX11_isMarkSign 0 = .ok (.iload_n 1, 1) := by decide +kernel
theorem dX11_isMarkSign_1 : decode cX11_isMarkSign 1 = .ok (.bipush 59, 2) := by decide +kernel
theorem dX11_isMarkSign_3 : decode cX11_isMarkSign 3 = .ok (.if_icmp .eq 57, 3) := by decide +kernel
theorem dX11_isMarkSign_6 : decode cX11_isMarkSign 6 = .ok (.iload_n 1, 1) := by decide +kernel
theorem dX11_isMarkSign_7 : decode cX11_isMarkSign 7 = .ok (.bipush 43, 2) := by decide +kernel
theorem dX11_isMarkSign_9 : decode cX11_isMarkSign 9 = .ok (.if_icmp .eq 51, 3) := by decide +kernel
theorem dX11_isMarkSign_12 : decode cX11_isMarkSign 12 = .ok (.iload_n 1, 1) := by decide +kernel
theorem dX11_isMarkSign_13 : decode cX11_isMarkSign 13 = .ok (.bipush 45, 2) := by decide +kernel
theorem dX11_isMarkSign_15 : decode cX11_isMarkSign 15 = .ok (.if_icmp .eq 45, 3) := by decide +kernel
theorem dX11_isMarkSign_18 : decode cX11_isMarkSign 18 = .ok (.iload_n 1, 1) := by decide +kernel
theorem dX11_isMarkSign_19 : decode cX11_isMarkSign 19 = .ok (.bipush 42, 2) := by decide +kernel
theorem dX11_isMarkSign_21 : decode cX11_isMarkSign 21 = .ok (.if_icmp .eq 39, 3) := by decide +kernel
theorem dX11_isMarkSign_24 : decode cX11_isMarkSign 24 = .ok (.iload_n 1, 1) := by decide +kernel
theorem dX11_isMarkSign_25 : decode cX11_isMarkSign 25 = .ok (.bipush 47, 2) := by decide +kernel
theorem dX11_isMarkSign_27 : decode cX11_isMarkSign 27 = .ok (.if_icmp .eq 33, 3) := by decide +kernel
theorem dX11_isMarkSign_30 : decode cX11_isMarkSign 30 = .ok (.iload_n 1, 1) := by decide +kernel
theorem dX11_isMarkSign_31 : decode cX11_isMarkSign 31 = .ok (.bipush 40, 2) := by decide +kernel
theorem dX11_isMarkSign_33 : decode cX11_isMarkSign 33 = .ok (.if_icmp .eq 27, 3) := by decide +kernel
theorem dX11_isMarkSign_36 : decode cX11_isMarkSign 36 = .ok (.iload_n 1, 1) := by decide +kernel
theorem dX11_isMarkSign_37 : decode cX11_isMarkSign 37 = .ok (.bipush 41, 2) := by decide +kernel
theorem dX11_isMarkSign_39 : decode cX11_isMarkSign 39 = .ok (.if_icmp .eq 21, 3) := by decide +kernel
theorem dX11_isMarkSign_42 : decode cX11_isMarkSign 42 = .ok (.iload_n 1, 1) := by decide +kernel
theorem dX11_isMarkSign_43 : decode cX11_isMarkSign 43 = .ok (.bipush 60, 2) := by decide +kernel
theorem dX11_isMarkSign_45 : decode cX11_isMarkSign 45 = .ok (.if_icmp .eq 15, 3) := by decide +kernel
theorem dX11_isMarkSign_48 : decode cX11_isMarkSign 48 = .ok (.iload_n 1, 1) := by decide +kernel
theorem dX11_isMarkSign_49 : decode cX11_isMarkSign 49 = .ok (.bipush 61, 2) := by decide +kernel
theorem dX11_isMarkSign_51 : decode cX11_isMarkSign 51 = .ok (.if_icmp .eq 9, 3) := by decide +kernel
theorem dX11_isMarkSign_54 : decode cX11_isMarkSign 54 = .ok (.iload_n 1, 1) := by decide +kernel
theorem dX11_isMarkSign_55 : decode cX11_isMarkSign 55 = .ok (.bipush 62, 2) := by decide +kernel
theorem dX11_isMarkSign_57 : decode cX11_isMarkSign 57 = .ok (.if_icmp .ne 7, 3) := by decide +kernel
theorem dX11_isMarkSign_60 : decode cX11_isMarkSign 60 = .ok (.iconst 1, 1) := by decide +kernel
theorem dX11_isMarkSign_61 : decode cX11_isMarkSign 61 = .ok (.goto 4, 3) := by decide +kernel
theorem dX11_isMarkSign_64 : decode cX11_isMarkSign 64 = .ok (.iconst 0, 1) := by decide +kernel
theorem dX11_isMarkSign_65 : decode cX11_isMarkSign 65 = .ok (.ireturn, 1) := by decide +kernel
theorem dX11_wordAt_0 : decode cX11_wordAt 0 = .ok (.iconst (-1), 1) := by decide +kernel
theorem dX11_wordAt_1 : decode cX11_wordAt 1 = .ok (.istore_n 3, 1) := by decide +kernel
theorem dX11_wordAt_2 : decode cX11_wordAt 2 = .ok (.iconst 0, 1) := by decide +kernel
theorem dX11_wordAt_3 : decode cX11_wordAt 3 = .ok (.istore 4, 2) := by decide +kernel
theorem dX11_wordAt_5 : decode cX11_wordAt 5 = .ok (.iload 4, 2) := by decide +kernel
theorem dX11_wordAt_7 : decode cX11_wordAt 7 = .ok (.sipush 128, 3) := by decide +kernel
theorem dX11_wordAt_10 : decode cX11_wordAt 10 = .ok (.if_icmp .ge 108, 3) := by decide +kernel
theorem dX11_wordAt_13 : decode cX11_wordAt 13 = .ok (.iconst 0, 1) := by decide +kernel
theorem dX11_wordAt_14 : decode cX11_wordAt 14 = .ok (.istore 5, 2) := by decide +kernel
theorem dX11_wordAt_16 : decode cX11_wordAt 16 = .ok (.iload_n 3, 1) := by decide +kernel
theorem dX11_wordAt_17 : decode cX11_wordAt 17 = .ok (.iconst 1, 1) := by decide +kernel
theorem dX11_wordAt_18 : decode cX11_wordAt 18 = .ok (.iadd, 1) := by decide +kernel
theorem dX11_wordAt_19 : decode cX11_wordAt 19 = .ok (.istore_n 3, 1) := by decide +kernel
theorem dX11_wordAt_20 : decode cX11_wordAt 20 = .ok (.iload_n 1, 1) := by decide +kernel
theorem dX11_wordAt_21 : decode cX11_wordAt 21 = .ok (.iload 5, 2) := by decide +kernel
theorem dX11_wordAt_23 : decode cX11_wordAt 23 = .ok (.iadd, 1) := by decide +kernel
theorem dX11_wordAt_24 : decode cX11_wordAt 24 = .ok (.iload_n 2, 1) := by decide +kernel
theorem dX11_wordAt_25 : decode cX11_wordAt 25 = .ok (.if_icmp .ge 36, 3) := by decide +kernel
theorem dX11_wordAt_28 : decode cX11_wordAt 28 = .ok (.aload_n 0, 1) := by decide +kernel
theorem dX11_wordAt_29 : decode cX11_wordAt 29 = .ok (.getfield 25, 3) := by decide +kernel
theorem dX11_wordAt_32 : decode cX11_wordAt 32 = .ok (.iload 4, 2) := by decide +kernel
theorem dX11_wordAt_34 : decode cX11_wordAt 34 = .ok (.iconst 1, 1) := by decide +kernel
theorem dX11_wordAt_35 : decode cX11_wordAt 35 = .ok (.iadd, 1) := by decide +kernel
theorem dX11_wordAt_36 : decode cX11_wordAt 36 = .ok (.iload 5, 2) := by decide +kernel
theorem dX11_wordAt_38 : decode cX11_wordAt 38 = .ok (.iadd, 1) := by decide +kernel
theorem dX11_wordAt_39 : decode cX11_wordAt 39 = .ok (.iaload, 1) := by decide +kernel
theorem dX11_wordAt_40 : decode cX11_wordAt 40 = .ok (.aload_n 0, 1) := by decide +kernel
theorem dX11_wordAt_41 : decode cX11_wordAt 41 = .ok (.getfield 22, 3) := by decide +kernel
theorem dX11_wordAt_44 : decode cX11_wordAt 44 = .ok (.iload_n 1, 1) := by decide +kernel
theorem dX11_wordAt_45 : decode cX11_wordAt 45 = .ok (.iload 5, 2) := by decide +kernel
theorem dX11_wordAt_47 : decode cX11_wordAt 47 = .ok (.iadd, 1) := by decide +kernel
theorem dX11_wordAt_48 : decode cX11_wordAt 48 = .ok (.iaload, 1) := by decide +kernel
theorem dX11_wordAt_49 : decode cX11_wordAt 49 = .ok (.if_icmp .ne 12, 3) := by decide +kernel
theorem dX11_wordAt_52 : decode cX11_wordAt 52 = .ok (.iload 5, 2) := by decide +kernel
theorem dX11_wordAt_54 : decode cX11_wordAt 54 = .ok (.iconst 1, 1) := by decide +kernel
theorem dX11_wordAt_55 : decode cX11_wordAt 55 = .ok (.iadd, 1) := by decide +kernel
theorem dX11_wordAt_56 : decode cX11_wordAt 56 = .ok (.istore 5, 2) := by decide +kernel
theorem dX11_wordAt_58 : decode cX11_wordAt 58 = .ok (.goto (-38), 3) := by decide +kernel
theorem dX11_wordAt_61 : decode cX11_wordAt 61 = .ok (.iload_n 1, 1) := by decide +kernel
theorem dX11_wordAt_62 : decode cX11_wordAt 62 = .ok (.iload 5, 2) := by decide +kernel
theorem dX11_wordAt_64 : decode cX11_wordAt 64 = .ok (.iadd, 1) := by decide +kernel
theorem dX11_wordAt_65 : decode cX11_wordAt 65 = .ok (.iload_n 2, 1) := by decide +kernel
theorem dX11_wordAt_66 : decode cX11_wordAt 66 = .ok (.if_icmp .ne 22, 3) := by decide +kernel
theorem dX11_wordAt_69 : decode cX11_wordAt 69 = .ok (.aload_n 0, 1) := by decide +kernel
theorem dX11_wordAt_70 : decode cX11_wordAt 70 = .ok (.getfield 25, 3) := by decide +kernel
theorem dX11_wordAt_73 : decode cX11_wordAt 73 = .ok (.iload 4, 2) := by decide +kernel
theorem dX11_wordAt_75 : decode cX11_wordAt 75 = .ok (.iconst 1, 1) := by decide +kernel
theorem dX11_wordAt_76 : decode cX11_wordAt 76 = .ok (.iadd, 1) := by decide +kernel
theorem dX11_wordAt_77 : decode cX11_wordAt 77 = .ok (.iload 5, 2) := by decide +kernel
theorem dX11_wordAt_79 : decode cX11_wordAt 79 = .ok (.iadd, 1) := by decide +kernel
theorem dX11_wordAt_80 : decode cX11_wordAt 80 = .ok (.iaload, 1) := by decide +kernel
theorem dX11_wordAt_81 : decode cX11_wordAt 81 = .ok (.bipush 32, 2) := by decide +kernel
theorem dX11_wordAt_83 : decode cX11_wordAt 83 = .ok (.if_icmp .ne 5, 3) := by decide +kernel
theorem dX11_wordAt_86 : decode cX11_wordAt 86 = .ok (.iload_n 3, 1) := by decide +kernel
theorem dX11_wordAt_87 : decode cX11_wordAt 87 = .ok (.ireturn, 1) := by decide +kernel
theorem dX11_wordAt_88 : decode cX11_wordAt 88 = .ok (.iload 4, 2) := by decide +kernel
theorem dX11_wordAt_90 : decode cX11_wordAt 90 = .ok (.iconst 1, 1) := by decide +kernel
theorem dX11_wordAt_91 : decode cX11_wordAt 91 = .ok (.iadd, 1) := by decide +kernel
theorem dX11_wordAt_92 : decode cX11_wordAt 92 = .ok (.istore 4, 2) := by decide +kernel
theorem dX11_wordAt_94 : decode cX11_wordAt 94 = .ok (.aload_n 0, 1) := by decide +kernel
theorem dX11_wordAt_95 : decode cX11_wordAt 95 = .ok (.getfield 25, 3) := by decide +kernel
theorem dX11_wordAt_98 : decode cX11_wordAt 98 = .ok (.iload 4, 2) := by decide +kernel
theorem dX11_wordAt_100 : decode cX11_wordAt 100 = .ok (.iaload, 1) := by decide +kernel
theorem dX11_wordAt_101 : decode cX11_wordAt 101 = .ok (.bipush 32, 2) := by decide +kernel
theorem dX11_wordAt_103 : decode cX11_wordAt 103 = .ok (.if_icmp .eq 12, 3) := by decide +kernel
theorem dX11_wordAt_106 : decode cX11_wordAt 106 = .ok (.iload 4, 2) := by decide +kernel
theorem dX11_wordAt_108 : decode cX11_wordAt 108 = .ok (.iconst 1, 1) := by decide +kernel
theorem dX11_wordAt_109 : decode cX11_wordAt 109 = .ok (.iadd, 1) := by decide +kernel
theorem dX11_wordAt_110 : decode cX11_wordAt 110 = .ok (.istore 4, 2) := by decide +kernel
theorem dX11_wordAt_112 : decode cX11_wordAt 112 = .ok (.goto (-18), 3) := by decide +kernel
theorem dX11_wordAt_115 : decode cX11_wordAt 115 = .ok (.goto (-110), 3) := by decide +kernel
theorem dX11_wordAt_118 : decode cX11_wordAt 118 = .ok (.iconst (-1), 1) := by decide +kernel
theorem dX11_wordAt_119 : decode cX11_wordAt 119 = .ok (.ireturn, 1) := by decide +kernel
theorem dX11_reads_0 : decode cX11_reads 0 = .ok (.aload_n 0, 1) := by decide +kernel
theorem dX11_reads_1 : decode cX11_reads 1 = .ok (.aload_n 0, 1) := by decide +kernel
theorem dX11_reads_2 : decode cX11_reads 2 = .ok (.getfield 160, 3) := by decide +kernel
theorem dX11_reads_5 : decode cX11_reads 5 = .ok (.invokevirtual 163, 3) := by decide +kernel
theorem dX11_reads_8 : decode cX11_reads 8 = .ok (.bipush 32, 2) := by decide +kernel
theorem dX11_reads_10 : decode cX11_reads 10 = .ok (.if_icmp .eq 16, 3) := by decide +kernel
theorem dX11_reads_13 : decode cX11_reads 13 = .ok (.aload_n 0, 1) := by decide +kernel
theorem dX11_reads_14 : decode cX11_reads 14 = .ok (.aload_n 0, 1) := by decide +kernel
theorem dX11_reads_15 : decode cX11_reads 15 = .ok (.getfield 160, 3) := by decide +kernel
theorem dX11_reads_18 : decode cX11_reads 18 = .ok (.invokevirtual 163, 3) := by decide +kernel
theorem dX11_reads_21 : decode cX11_reads 21 = .ok (.bipush 10, 2) := by decide +kernel
theorem dX11_reads_23 : decode cX11_reads 23 = .ok (.if_icmp .ne 16, 3) := by decide +kernel
theorem dX11_reads_26 : decode cX11_reads 26 = .ok (.aload_n 0, 1) := by decide +kernel
theorem dX11_reads_27 : decode cX11_reads 27 = .ok (.aload_n 0, 1) := by decide +kernel
theorem dX11_reads_28 : decode cX11_reads 28 = .ok (.getfield 160, 3) := by decide +kernel
theorem dX11_reads_31 : decode cX11_reads 31 = .ok (.iconst 1, 1) := by decide +kernel
theorem dX11_reads_32 : decode cX11_reads 32 = .ok (.iadd, 1) := by decide +kernel
theorem dX11_reads_33 : decode cX11_reads 33 = .ok (.putfield 160, 3) := by decide +kernel
theorem dX11_reads_36 : decode cX11_reads 36 = .ok (.goto (-36), 3) := by decide +kernel
theorem dX11_reads_39 : decode cX11_reads 39 = .ok (.aload_n 0, 1) := by decide +kernel
theorem dX11_reads_40 : decode cX11_reads 40 = .ok (.aload_n 0, 1) := by decide +kernel
theorem dX11_reads_41 : decode cX11_reads 41 = .ok (.getfield 160, 3) := by decide +kernel
theorem dX11_reads_44 : decode cX11_reads 44 = .ok (.putfield 167, 3) := by decide +kernel
theorem dX11_reads_47 : decode cX11_reads 47 = .ok (.aload_n 0, 1) := by decide +kernel
theorem dX11_reads_48 : decode cX11_reads 48 = .ok (.iconst 1, 1) := by decide +kernel
theorem dX11_reads_49 : decode cX11_reads 49 = .ok (.putfield 170, 3) := by decide +kernel
theorem dX11_reads_52 : decode cX11_reads 52 = .ok (.aload_n 0, 1) := by decide +kernel
theorem dX11_reads_53 : decode cX11_reads 53 = .ok (.aload_n 0, 1) := by decide +kernel
theorem dX11_reads_54 : decode cX11_reads 54 = .ok (.getfield 160, 3) := by decide +kernel
theorem dX11_reads_57 : decode cX11_reads 57 = .ok (.invokevirtual 163, 3) := by decide +kernel
theorem dX11_reads_60 : decode cX11_reads 60 = .ok (.istore_n 1, 1) := by decide +kernel
theorem dX11_reads_61 : decode cX11_reads 61 = .ok (.iload_n 1, 1) := by decide +kernel
theorem dX11_reads_62 : decode cX11_reads 62 = .ok (.iconst (-1), 1) := by decide +kernel
theorem dX11_reads_63 : decode cX11_reads 63 = .ok (.if_icmp .ne 9, 3) := by decide +kernel
theorem dX11_reads_66 : decode cX11_reads 66 = .ok (.aload_n 0, 1) := by decide +kernel
theorem dX11_reads_67 : decode cX11_reads 67 = .ok (.iconst 0, 1) := by decide +kernel
theorem dX11_reads_68 : decode cX11_reads 68 = .ok (.putfield 170, 3) := by decide +kernel
theorem dX11_reads_71 : decode cX11_reads 71 = .ok (.return_, 1) := by decide +kernel
theorem dX11_reads_72 : decode cX11_reads 72 = .ok (.aload_n 0, 1) := by decide +kernel
theorem dX11_reads_73 : decode cX11_reads 73 = .ok (.aload_n 0, 1) := by decide +kernel
theorem dX11_reads_74 : decode cX11_reads 74 = .ok (.getfield 160, 3) := by decide +kernel
theorem dX11_reads_77 : decode cX11_reads 77 = .ok (.iconst 1, 1) := by decide +kernel
theorem dX11_reads_78 : decode cX11_reads 78 = .ok (.iadd, 1) := by decide +kernel
theorem dX11_reads_79 : decode cX11_reads 79 = .ok (.putfield 160, 3) := by decide +kernel
theorem dX11_reads_82 : decode cX11_reads 82 = .ok (.aload_n 0, 1) := by decide +kernel
theorem dX11_reads_83 : decode cX11_reads 83 = .ok (.iload_n 1, 1) := by decide +kernel
theorem dX11_reads_84 : decode cX11_reads 84 = .ok (.putfield 173, 3) := by decide +kernel
theorem dX11_reads_87 : decode cX11_reads 87 = .ok (.aload_n 0, 1) := by decide +kernel
theorem dX11_reads_88 : decode cX11_reads 88 = .ok (.iload_n 1, 1) := by decide +kernel
theorem dX11_reads_89 : decode cX11_reads 89 = .ok (.invokevirtual 176, 3) := by decide +kernel
theorem dX11_reads_92 : decode cX11_reads 92 = .ok (.ifCond .eq 63, 3) := by decide +kernel
theorem dX11_reads_95 : decode cX11_reads 95 = .ok (.aload_n 0, 1) := by decide +kernel
theorem dX11_reads_96 : decode cX11_reads 96 = .ok (.aload_n 0, 1) := by decide +kernel
theorem dX11_reads_97 : decode cX11_reads 97 = .ok (.aload_n 0, 1) := by decide +kernel
theorem dX11_reads_98 : decode cX11_reads 98 = .ok (.getfield 160, 3) := by decide +kernel
theorem dX11_reads_101 : decode cX11_reads 101 = .ok (.invokevirtual 163, 3) := by decide +kernel
theorem dX11_reads_104 : decode cX11_reads 104 = .ok (.invokevirtual 176, 3) := by decide +kernel
theorem dX11_reads_107 : decode cX11_reads 107 = .ok (.ifCond .eq 16, 3) := by decide +kernel
theorem dX11_reads_110 : decode cX11_reads 110 = .ok (.aload_n 0, 1) := by decide +kernel
theorem dX11_reads_111 : decode cX11_reads 111 = .ok (.aload_n 0, 1) := by decide +kernel
theorem dX11_reads_112 : decode cX11_reads 112 = .ok (.getfield 160, 3) := by decide +kernel
theorem dX11_reads_115 : decode cX11_reads 115 = .ok (.iconst 1, 1) := by decide +kernel
theorem dX11_reads_116 : decode cX11_reads 116 = .ok (.iadd, 1) := by decide +kernel
theorem dX11_reads_117 : decode cX11_reads 117 = .ok (.putfield 160, 3) := by decide +kernel
theorem dX11_reads_120 : decode cX11_reads 120 = .ok (.goto (-25), 3) := by decide +kernel
theorem dX11_reads_123 : decode cX11_reads 123 = .ok (.aload_n 0, 1) := by decide +kernel
theorem dX11_reads_124 : decode cX11_reads 124 = .ok (.aload_n 0, 1) := by decide +kernel
theorem dX11_reads_125 : decode cX11_reads 125 = .ok (.aload_n 0, 1) := by decide +kernel
theorem dX11_reads_126 : decode cX11_reads 126 = .ok (.getfield 167, 3) := by decide +kernel
theorem dX11_reads_129 : decode cX11_reads 129 = .ok (.aload_n 0, 1) := by decide +kernel
theorem dX11_reads_130 : decode cX11_reads 130 = .ok (.getfield 160, 3) := by decide +kernel
theorem dX11_reads_133 : decode cX11_reads 133 = .ok (.invokevirtual 179, 3) := by decide +kernel
theorem dX11_reads_136 : decode cX11_reads 136 = .ok (.putfield 173, 3) := by decide +kernel
theorem dX11_reads_139 : decode cX11_reads 139 = .ok (.aload_n 0, 1) := by decide +kernel
theorem dX11_reads_140 : decode cX11_reads 140 = .ok (.getfield 173, 3) := by decide +kernel
theorem dX11_reads_143 : decode cX11_reads 143 = .ok (.iconst (-1), 1) := by decide +kernel
theorem dX11_reads_144 : decode cX11_reads 144 = .ok (.if_icmp .eq 129, 3) := by decide +kernel
theorem dX11_reads_147 : decode cX11_reads 147 = .ok (.aload_n 0, 1) := by decide +kernel
theorem dX11_reads_148 : decode cX11_reads 148 = .ok (.iconst 2, 1) := by decide +kernel
theorem dX11_reads_149 : decode cX11_reads 149 = .ok (.putfield 170, 3) := by decide +kernel
theorem dX11_reads_152 : decode cX11_reads 152 = .ok (.goto 121, 3) := by decide +kernel
theorem dX11_reads_155 : decode cX11_reads 155 = .ok (.aload_n 0, 1) := by decide +kernel
theorem dX11_reads_156 : decode cX11_reads 156 = .ok (.iload_n 1, 1) := by decide +kernel
theorem dX11_reads_157 : decode cX11_reads 157 = .ok (.invokevirtual 183, 3) := by decide +kernel
theorem dX11_reads_160 : decode cX11_reads 160 = .ok (.ifCond .eq 100, 3) := by decide +kernel
theorem dX11_reads_163 : decode cX11_reads 163 = .ok (.aload_n 0, 1) := by decide +kernel
theorem dX11_reads_164 : decode cX11_reads 164 = .ok (.iload_n 1, 1) := by decide +kernel
theorem dX11_reads_165 : decode cX11_reads 165 = .ok (.bipush 48, 2) := by decide +kernel
theorem dX11_reads_167 : decode cX11_reads 167 = .ok (.isub, 1) := by decide +kernel
theorem dX11_reads_168 : decode cX11_reads 168 = .ok (.putfield 173, 3) := by decide +kernel
theorem dX11_reads_171 : decode cX11_reads 171 = .ok (.aload_n 0, 1) := by decide +kernel
theorem dX11_reads_172 : decode cX11_reads 172 = .ok (.aload_n 0, 1) := by decide +kernel
theorem dX11_reads_173 : decode cX11_reads 173 = .ok (.aload_n 0, 1) := by decide +kernel
theorem dX11_reads_174 : decode cX11_reads 174 = .ok (.getfield 160, 3) := by decide +kernel
theorem dX11_reads_177 : decode cX11_reads 177 = .ok (.invokevirtual 163, 3) := by decide +kernel
theorem dX11_reads_180 : decode cX11_reads 180 = .ok (.invokevirtual 183, 3) := by decide +kernel
theorem dX11_reads_183 : decode cX11_reads 183 = .ok (.ifCond .eq 56, 3) := by decide +kernel
theorem dX11_reads_186 : decode cX11_reads 186 = .ok (.aload_n 0, 1) := by decide +kernel
theorem dX11_reads_187 : decode cX11_reads 187 = .ok (.aload_n 0, 1) := by decide +kernel
theorem dX11_reads_188 : decode cX11_reads 188 = .ok (.getfield 173, 3) := by decide +kernel
theorem dX11_reads_191 : decode cX11_reads 191 = .ok (.sipush 10000, 3) := by decide +kernel
theorem dX11_reads_194 : decode cX11_reads 194 = .ok (.if_icmp .ge 25, 3) := by decide +kernel
theorem dX11_reads_197 : decode cX11_reads 197 = .ok (.bipush 10, 2) := by decide +kernel
theorem dX11_reads_199 : decode cX11_reads 199 = .ok (.aload_n 0, 1) := by decide +kernel
theorem dX11_reads_200 : decode cX11_reads 200 = .ok (.getfield 173, 3) := by decide +kernel
theorem dX11_reads_203 : decode cX11_reads 203 = .ok (.imul, 1) := by decide +kernel
theorem dX11_reads_204 : decode cX11_reads 204 = .ok (.aload_n 0, 1) := by decide +kernel
theorem dX11_reads_205 : decode cX11_reads 205 = .ok (.aload_n 0, 1) := by decide +kernel
theorem dX11_reads_206 : decode cX11_reads 206 = .ok (.getfield 160, 3) := by decide +kernel
theorem dX11_reads_209 : decode cX11_reads 209 = .ok (.invokevirtual 163, 3) := by decide +kernel
theorem dX11_reads_212 : decode cX11_reads 212 = .ok (.iadd, 1) := by decide +kernel
theorem dX11_reads_213 : decode cX11_reads 213 = .ok (.bipush 48, 2) := by decide +kernel
theorem dX11_reads_215 : decode cX11_reads 215 = .ok (.isub, 1) := by decide +kernel
theorem dX11_reads_216 : decode cX11_reads 216 = .ok (.goto 7, 3) := by decide +kernel
theorem dX11_reads_219 : decode cX11_reads 219 = .ok (.aload_n 0, 1) := by decide +kernel
theorem dX11_reads_220 : decode cX11_reads 220 = .ok (.getfield 173, 3) := by decide +kernel
theorem dX11_reads_223 : decode cX11_reads 223 = .ok (.putfield 173, 3) := by decide +kernel
theorem dX11_reads_226 : decode cX11_reads 226 = .ok (.aload_n 0, 1) := by decide +kernel
theorem dX11_reads_227 : decode cX11_reads 227 = .ok (.aload_n 0, 1) := by decide +kernel
theorem dX11_reads_228 : decode cX11_reads 228 = .ok (.getfield 160, 3) := by decide +kernel
theorem dX11_reads_231 : decode cX11_reads 231 = .ok (.iconst 1, 1) := by decide +kernel
theorem dX11_reads_232 : decode cX11_reads 232 = .ok (.iadd, 1) := by decide +kernel
theorem dX11_reads_233 : decode cX11_reads 233 = .ok (.putfield 160, 3) := by decide +kernel
theorem dX11_reads_236 : decode cX11_reads 236 = .ok (.goto (-65), 3) := by decide +kernel
theorem dX11_reads_239 : decode cX11_reads 239 = .ok (.aload_n 0, 1) := by decide +kernel
theorem dX11_reads_240 : decode cX11_reads 240 = .ok (.getfield 160, 3) := by decide +kernel
theorem dX11_reads_243 : decode cX11_reads 243 = .ok (.aload_n 0, 1) := by decide +kernel
theorem dX11_reads_244 : decode cX11_reads 244 = .ok (.getfield 167, 3) := by decide +kernel
theorem dX11_reads_247 : decode cX11_reads 247 = .ok (.isub, 1) := by decide +kernel
theorem dX11_reads_248 : decode cX11_reads 248 = .ok (.iconst 5, 1) := by decide +kernel
theorem dX11_reads_249 : decode cX11_reads 249 = .ok (.if_icmp .ge 24, 3) := by decide +kernel
theorem dX11_reads_252 : decode cX11_reads 252 = .ok (.aload_n 0, 1) := by decide +kernel
theorem dX11_reads_253 : decode cX11_reads 253 = .ok (.iconst 3, 1) := by decide +kernel
theorem dX11_reads_254 : decode cX11_reads 254 = .ok (.putfield 170, 3) := by decide +kernel
theorem dX11_reads_257 : decode cX11_reads 257 = .ok (.goto 16, 3) := by decide +kernel
theorem dX11_reads_260 : decode cX11_reads 260 = .ok (.aload_n 0, 1) := by decide +kernel
theorem dX11_reads_261 : decode cX11_reads 261 = .ok (.iload_n 1, 1) := by decide +kernel
theorem dX11_reads_262 : decode cX11_reads 262 = .ok (.invokevirtual 186, 3) := by decide +kernel
theorem dX11_reads_265 : decode cX11_reads 265 = .ok (.ifCond .eq 8, 3) := by decide +kernel
theorem dX11_reads_268 : decode cX11_reads 268 = .ok (.aload_n 0, 1) := by decide +kernel
theorem dX11_reads_269 : decode cX11_reads 269 = .ok (.iconst 4, 1) := by decide +kernel
theorem dX11_reads_270 : decode cX11_reads 270 = .ok (.putfield 170, 3) := by decide +kernel
theorem dX11_reads_273 : decode cX11_reads 273 = .ok (.return_, 1) := by decide +kernel
theorem dX11_errs_0 : decode cX11_errs 0 = .ok (.aload_n 0, 1) := by decide +kernel
theorem dX11_errs_1 : decode cX11_errs 1 = .ok (.iload_n 1, 1) := by decide +kernel
theorem dX11_errs_2 : decode cX11_errs 2 = .ok (.putfield 189, 3) := by decide +kernel
theorem dX11_errs_5 : decode cX11_errs 5 = .ok (.aload_n 0, 1) := by decide +kernel
theorem dX11_errs_6 : decode cX11_errs 6 = .ok (.aload_n 0, 1) := by decide +kernel
theorem dX11_errs_7 : decode cX11_errs 7 = .ok (.getfield 167, 3) := by decide +kernel
theorem dX11_errs_10 : decode cX11_errs 10 = .ok (.putfield 192, 3) := by decide +kernel
theorem dX11_errs_13 : decode cX11_errs 13 = .ok (.iconst (-1), 1) := by decide +kernel
theorem dX11_errs_14 : decode cX11_errs 14 = .ok (.ireturn, 1) := by decide +kernel
theorem dX11_isWord_0 : decode cX11_isWord 0 = .ok (.aload_n 0, 1) := by decide +kernel
theorem dX11_isWord_1 : decode cX11_isWord 1 = .ok (.getfield 170, 3) := by decide +kernel
theorem dX11_isWord_4 : decode cX11_isWord 4 = .ok (.iconst 2, 1) := by decide +kernel
theorem dX11_isWord_5 : decode cX11_isWord 5 = .ok (.if_icmp .ne 15, 3) := by decide +kernel
theorem dX11_isWord_8 : decode cX11_isWord 8 = .ok (.aload_n 0, 1) := by decide +kernel
theorem dX11_isWord_9 : decode cX11_isWord 9 = .ok (.getfield 173, 3) := by decide +kernel
theorem dX11_isWord_12 : decode cX11_isWord 12 = .ok (.iload_n 1, 1) := by decide +kernel
theorem dX11_isWord_13 : decode cX11_isWord 13 = .ok (.if_icmp .ne 7, 3) := by decide +kernel
theorem dX11_isWord_16 : decode cX11_isWord 16 = .ok (.iconst 1, 1) := by decide +kernel
theorem dX11_isWord_17 : decode cX11_isWord 17 = .ok (.goto 4, 3) := by decide +kernel
theorem dX11_isWord_20 : decode cX11_isWord 20 = .ok (.iconst 0, 1) := by decide +kernel
theorem dX11_isWord_21 : decode cX11_isWord 21 = .ok (.ireturn, 1) := by decide +kernel
theorem dX11_isSign_0 : decode cX11_isSign 0 = .ok (.aload_n 0, 1) := by decide +kernel
theorem dX11_isSign_1 : decode cX11_isSign 1 = .ok (.getfield 170, 3) := by decide +kernel
theorem dX11_isSign_4 : decode cX11_isSign 4 = .ok (.iconst 4, 1) := by decide +kernel
theorem dX11_isSign_5 : decode cX11_isSign 5 = .ok (.if_icmp .ne 15, 3) := by decide +kernel
theorem dX11_isSign_8 : decode cX11_isSign 8 = .ok (.aload_n 0, 1) := by decide +kernel
theorem dX11_isSign_9 : decode cX11_isSign 9 = .ok (.getfield 173, 3) := by decide +kernel
theorem dX11_isSign_12 : decode cX11_isSign 12 = .ok (.iload_n 1, 1) := by decide +kernel
theorem dX11_isSign_13 : decode cX11_isSign 13 = .ok (.if_icmp .ne 7, 3) := by decide +kernel
theorem dX11_isSign_16 : decode cX11_isSign 16 = .ok (.iconst 1, 1) := by decide +kernel
theorem dX11_isSign_17 : decode cX11_isSign 17 = .ok (.goto 4, 3) := by decide +kernel
theorem dX11_isSign_20 : decode cX11_isSign 20 = .ok (.iconst 0, 1) := by decide +kernel
theorem dX11_isSign_21 : decode cX11_isSign 21 = .ok (.ireturn, 1) := by decide +kernel
theorem dX11_emits_0 : decode cX11_emits 0 = .ok (.aload_n 0, 1) := by decide +kernel
theorem dX11_emits_1 : decode cX11_emits 1 = .ok (.getfield 43, 3) := by decide +kernel
theorem dX11_emits_4 : decode cX11_emits 4 = .ok (.sipush 800, 3) := by decide +kernel
theorem dX11_emits_7 : decode cX11_emits 7 = .ok (.aload_n 0, 1) := by decide +kernel
theorem dX11_emits_8 : decode cX11_emits 8 = .ok (.getfield 195, 3) := by decide +kernel
theorem dX11_emits_11 : decode cX11_emits 11 = .ok (.iadd, 1) := by decide +kernel
theorem dX11_emits_12 : decode cX11_emits 12 = .ok (.iload_n 1, 1) := by decide +kernel
theorem dX11_emits_13 : decode cX11_emits 13 = .ok (.iastore, 1) := by decide +kernel
theorem dX11_emits_14 : decode cX11_emits 14 = .ok (.aload_n 0, 1) := by decide +kernel
theorem dX11_emits_15 : decode cX11_emits 15 = .ok (.getfield 46, 3) := by decide +kernel
theorem dX11_emits_18 : decode cX11_emits 18 = .ok (.sipush 800, 3) := by decide +kernel
theorem dX11_emits_21 : decode cX11_emits 21 = .ok (.aload_n 0, 1) := by decide +kernel
theorem dX11_emits_22 : decode cX11_emits 22 = .ok (.getfield 195, 3) := by decide +kernel
theorem dX11_emits_25 : decode cX11_emits 25 = .ok (.iadd, 1) := by decide +kernel
theorem dX11_emits_26 : decode cX11_emits 26 = .ok (.iload_n 2, 1) := by decide +kernel
theorem dX11_emits_27 : decode cX11_emits 27 = .ok (.iastore, 1) := by decide +kernel
theorem dX11_emits_28 : decode cX11_emits 28 = .ok (.aload_n 0, 1) := by decide +kernel
theorem dX11_emits_29 : decode cX11_emits 29 = .ok (.aload_n 0, 1) := by decide +kernel
theorem dX11_emits_30 : decode cX11_emits 30 = .ok (.getfield 195, 3) := by decide +kernel
theorem dX11_emits_33 : decode cX11_emits 33 = .ok (.iconst 1, 1) := by decide +kernel
theorem dX11_emits_34 : decode cX11_emits 34 = .ok (.iadd, 1) := by decide +kernel
theorem dX11_emits_35 : decode cX11_emits 35 = .ok (.putfield 195, 3) := by decide +kernel
theorem dX11_emits_38 : decode cX11_emits 38 = .ok (.return_, 1) := by decide +kernel
theorem dX11_canAsk_0 : decode cX11_canAsk 0 = .ok (.aload_n 0, 1) := by decide +kernel
theorem dX11_canAsk_1 : decode cX11_canAsk 1 = .ok (.iload_n 1, 1) := by decide +kernel
theorem dX11_canAsk_2 : decode cX11_canAsk 2 = .ok (.bipush 7, 2) := by decide +kernel
theorem dX11_canAsk_4 : decode cX11_canAsk 4 = .ok (.bipush 15, 2) := by decide +kernel
theorem dX11_canAsk_6 : decode cX11_canAsk 6 = .ok (.invokevirtual 126, 3) := by decide +kernel
theorem dX11_canAsk_9 : decode cX11_canAsk 9 = .ok (.ireturn, 1) := by decide +kernel
theorem dX11_readUnit_0 : decode cX11_readUnit 0 = .ok (.aload_n 0, 1) := by decide +kernel
theorem dX11_readUnit_1 : decode cX11_readUnit 1 = .ok (.getfield 170, 3) := by decide +kernel
theorem dX11_readUnit_4 : decode cX11_readUnit 4 = .ok (.iconst 2, 1) := by decide +kernel
theorem dX11_readUnit_5 : decode cX11_readUnit 5 = .ok (.if_icmp .ne 18, 3) := by decide +kernel
theorem dX11_readUnit_8 : decode cX11_readUnit 8 = .ok (.aload_n 0, 1) := by decide +kernel
theorem dX11_readUnit_9 : decode cX11_readUnit 9 = .ok (.aload_n 0, 1) := by decide +kernel
theorem dX11_readUnit_10 : decode cX11_readUnit 10 = .ok (.getfield 173, 3) := by decide +kernel
theorem dX11_readUnit_13 : decode cX11_readUnit 13 = .ok (.invokevirtual 198, 3) := by decide +kernel
theorem dX11_readUnit_16 : decode cX11_readUnit 16 = .ok (.ifCond .eq 7, 3) := by decide +kernel
theorem dX11_readUnit_19 : decode cX11_readUnit 19 = .ok (.iconst 1, 1) := by decide +kernel
theorem dX11_readUnit_20 : decode cX11_readUnit 20 = .ok (.goto 4, 3) := by decide +kernel
theorem dX11_readUnit_23 : decode cX11_readUnit 23 = .ok (.iconst 0, 1) := by decide +kernel
theorem dX11_readUnit_24 : decode cX11_readUnit 24 = .ok (.istore_n 1, 1) := by decide +kernel
theorem dX11_readUnit_25 : decode cX11_readUnit 25 = .ok (.iload_n 1, 1) := by decide +kernel
theorem dX11_readUnit_26 : decode cX11_readUnit 26 = .ok (.ifCond .ne 17, 3) := by decide +kernel
theorem dX11_readUnit_29 : decode cX11_readUnit 29 = .ok (.aload_n 0, 1) := by decide +kernel
theorem dX11_readUnit_30 : decode cX11_readUnit 30 = .ok (.getfield 170, 3) := by decide +kernel
theorem dX11_readUnit_33 : decode cX11_readUnit 33 = .ok (.iconst 3, 1) := by decide +kernel
theorem dX11_readUnit_34 : decode cX11_readUnit 34 = .ok (.if_icmp .eq 9, 3) := by decide +kernel
theorem dX11_readUnit_37 : decode cX11_readUnit 37 = .ok (.aload_n 0, 1) := by decide +kernel
theorem dX11_readUnit_38 : decode cX11_readUnit 38 = .ok (.iconst 1, 1) := by decide +kernel
theorem dX11_readUnit_39 : decode cX11_readUnit 39 = .ok (.invokevirtual 201, 3) := by decide +kernel
theorem dX11_readUnit_42 : decode cX11_readUnit 42 = .ok (.ireturn, 1) := by decide +kernel
theorem dX11_readUnit_43 : decode cX11_readUnit 43 = .ok (.aload_n 0, 1) := by decide +kernel
theorem dX11_readUnit_44 : decode cX11_readUnit 44 = .ok (.iload_n 1, 1) := by decide +kernel
theorem dX11_readUnit_45 : decode cX11_readUnit 45 = .ok (.ifCond .eq 7, 3) := by decide +kernel
theorem dX11_readUnit_48 : decode cX11_readUnit 48 = .ok (.iconst 1, 1) := by decide +kernel
theorem dX11_readUnit_49 : decode cX11_readUnit 49 = .ok (.goto 4, 3) := by decide +kernel
theorem dX11_readUnit_52 : decode cX11_readUnit 52 = .ok (.iconst 0, 1) := by decide +kernel
theorem dX11_readUnit_53 : decode cX11_readUnit 53 = .ok (.iload_n 1, 1) := by decide +kernel
theorem dX11_readUnit_54 : decode cX11_readUnit 54 = .ok (.ifCond .eq 13, 3) := by decide +kernel
theorem dX11_readUnit_57 : decode cX11_readUnit 57 = .ok (.aload_n 0, 1) := by decide +kernel
theorem dX11_readUnit_58 : decode cX11_readUnit 58 = .ok (.getfield 173, 3) := by decide +kernel
theorem dX11_readUnit_61 : decode cX11_readUnit 61 = .ok (.bipush 7, 2) := by decide +kernel
theorem dX11_readUnit_63 : decode cX11_readUnit 63 = .ok (.isub, 1) := by decide +kernel
theorem dX11_readUnit_64 : decode cX11_readUnit 64 = .ok (.goto 7, 3) := by decide +kernel
theorem dX11_readUnit_67 : decode cX11_readUnit 67 = .ok (.aload_n 0, 1) := by decide +kernel
theorem dX11_readUnit_68 : decode cX11_readUnit 68 = .ok (.getfield 173, 3) := by decide +kernel
theorem dX11_readUnit_71 : decode cX11_readUnit 71 = .ok (.invokevirtual 204, 3) := by decide +kernel
theorem dX11_readUnit_74 : decode cX11_readUnit 74 = .ok (.aload_n 0, 1) := by decide +kernel
theorem dX11_readUnit_75 : decode cX11_readUnit 75 = .ok (.invokevirtual 208, 3) := by decide +kernel
theorem dX11_readUnit_78 : decode cX11_readUnit 78 = .ok (.iconst 0, 1) := by decide +kernel
theorem dX11_readUnit_79 : decode cX11_readUnit 79 = .ok (.ireturn, 1) := by decide +kernel
theorem dX11_readProduct_0 : decode cX11_readProduct 0 = .ok (.aload_n 0, 1) := by decide +kernel
theorem dX11_readProduct_1 : decode cX11_readProduct 1 = .ok (.invokevirtual 211, 3) := by decide +kernel
theorem dX11_readProduct_4 : decode cX11_readProduct 4 = .ok (.iconst (-1), 1) := by decide +kernel
theorem dX11_readProduct_5 : decode cX11_readProduct 5 = .ok (.if_icmp .ne 5, 3) := by decide +kernel
theorem dX11_readProduct_8 : decode cX11_readProduct 8 = .ok (.iconst (-1), 1) := by decide +kernel
theorem dX11_readProduct_9 : decode cX11_readProduct 9 = .ok (.ireturn, 1) := by decide +kernel
theorem dX11_readProduct_10 : decode cX11_readProduct 10 = .ok (.aload_n 0, 1) := by decide +kernel
theorem dX11_readProduct_11 : decode cX11_readProduct 11 = .ok (.bipush 42, 2) := by decide +kernel
theorem dX11_readProduct_13 : decode cX11_readProduct 13 = .ok (.invokevirtual 215, 3) := by decide +kernel
theorem dX11_readProduct_16 : decode cX11_readProduct 16 = .ok (.ifCond .ne 12, 3) := by decide +kernel
theorem dX11_readProduct_19 : decode cX11_readProduct 19 = .ok (.aload_n 0, 1) := by decide +kernel
theorem dX11_readProduct_20 : decode cX11_readProduct 20 = .ok (.bipush 47, 2) := by decide +kernel
theorem dX11_readProduct_22 : decode cX11_readProduct 22 = .ok (.invokevirtual 215, 3) := by decide +kernel
theorem dX11_readProduct_25 : decode cX11_readProduct 25 = .ok (.ifCond .eq 76, 3) := by decide +kernel
theorem dX11_readProduct_28 : decode cX11_readProduct 28 = .ok (.aload_n 0, 1) := by decide +kernel
theorem dX11_readProduct_29 : decode cX11_readProduct 29 = .ok (.bipush 42, 2) := by decide +kernel
theorem dX11_readProduct_31 : decode cX11_readProduct 31 = .ok (.invokevirtual 215, 3) := by decide +kernel
theorem dX11_readProduct_34 : decode cX11_readProduct 34 = .ok (.istore_n 1, 1) := by decide +kernel
theorem dX11_readProduct_35 : decode cX11_readProduct 35 = .ok (.aload_n 0, 1) := by decide +kernel
theorem dX11_readProduct_36 : decode cX11_readProduct 36 = .ok (.invokevirtual 208, 3) := by decide +kernel
theorem dX11_readProduct_39 : decode cX11_readProduct 39 = .ok (.iload_n 1, 1) := by decide +kernel
theorem dX11_readProduct_40 : decode cX11_readProduct 40 = .ok (.ifCond .ne 17, 3) := by decide +kernel
theorem dX11_readProduct_43 : decode cX11_readProduct 43 = .ok (.aload_n 0, 1) := by decide +kernel
theorem dX11_readProduct_44 : decode cX11_readProduct 44 = .ok (.getfield 170, 3) := by decide +kernel
theorem dX11_readProduct_47 : decode cX11_readProduct 47 = .ok (.iconst 3, 1) := by decide +kernel
theorem dX11_readProduct_48 : decode cX11_readProduct 48 = .ok (.if_icmp .eq 9, 3) := by decide +kernel
theorem dX11_readProduct_51 : decode cX11_readProduct 51 = .ok (.aload_n 0, 1) := by decide +kernel
theorem dX11_readProduct_52 : decode cX11_readProduct 52 = .ok (.iconst 1, 1) := by decide +kernel
theorem dX11_readProduct_53 : decode cX11_readProduct 53 = .ok (.invokevirtual 201, 3) := by decide +kernel
theorem dX11_readProduct_56 : decode cX11_readProduct 56 = .ok (.ireturn, 1) := by decide +kernel
theorem dX11_readProduct_57 : decode cX11_readProduct 57 = .ok (.iload_n 1, 1) := by decide +kernel
theorem dX11_readProduct_58 : decode cX11_readProduct 58 = .ok (.ifCond .ne 16, 3) := by decide +kernel
theorem dX11_readProduct_61 : decode cX11_readProduct 61 = .ok (.aload_n 0, 1) := by decide +kernel
theorem dX11_readProduct_62 : decode cX11_readProduct 62 = .ok (.getfield 173, 3) := by decide +kernel
theorem dX11_readProduct_65 : decode cX11_readProduct 65 = .ok (.ifCond .ne 9, 3) := by decide +kernel
theorem dX11_readProduct_68 : decode cX11_readProduct 68 = .ok (.aload_n 0, 1) := by decide +kernel
theorem dX11_readProduct_69 : decode cX11_readProduct 69 = .ok (.iconst 2, 1) := by decide +kernel
theorem dX11_readProduct_70 : decode cX11_readProduct 70 = .ok (.invokevirtual 201, 3) := by decide +kernel
theorem dX11_readProduct_73 : decode cX11_readProduct 73 = .ok (.ireturn, 1) := by decide +kernel
theorem dX11_readProduct_74 : decode cX11_readProduct 74 = .ok (.aload_n 0, 1) := by decide +kernel
theorem dX11_readProduct_75 : decode cX11_readProduct 75 = .ok (.invokevirtual 211, 3) := by decide +kernel
theorem dX11_readProduct_78 : decode cX11_readProduct 78 = .ok (.iconst (-1), 1) := by decide +kernel
theorem dX11_readProduct_79 : decode cX11_readProduct 79 = .ok (.if_icmp .ne 5, 3) := by decide +kernel
theorem dX11_readProduct_82 : decode cX11_readProduct 82 = .ok (.iconst (-1), 1) := by decide +kernel
theorem dX11_readProduct_83 : decode cX11_readProduct 83 = .ok (.ireturn, 1) := by decide +kernel
theorem dX11_readProduct_84 : decode cX11_readProduct 84 = .ok (.aload_n 0, 1) := by decide +kernel
theorem dX11_readProduct_85 : decode cX11_readProduct 85 = .ok (.iload_n 1, 1) := by decide +kernel
theorem dX11_readProduct_86 : decode cX11_readProduct 86 = .ok (.ifCond .eq 7, 3) := by decide +kernel
theorem dX11_readProduct_89 : decode cX11_readProduct 89 = .ok (.iconst 4, 1) := by decide +kernel
theorem dX11_readProduct_90 : decode cX11_readProduct 90 = .ok (.goto 4, 3) := by decide +kernel
theorem dX11_readProduct_93 : decode cX11_readProduct 93 = .ok (.iconst 5, 1) := by decide +kernel
theorem dX11_readProduct_94 : decode cX11_readProduct 94 = .ok (.iconst 0, 1) := by decide +kernel
theorem dX11_readProduct_95 : decode cX11_readProduct 95 = .ok (.invokevirtual 204, 3) := by decide +kernel
theorem dX11_readProduct_98 : decode cX11_readProduct 98 = .ok (.goto (-88), 3) := by decide +kernel
theorem dX11_readProduct_101 : decode cX11_readProduct 101 = .ok (.iconst 0, 1) := by decide +kernel
theorem dX11_readProduct_102 : decode cX11_readProduct 102 = .ok (.ireturn, 1) := by decide +kernel
theorem dX11_readSum_0 : decode cX11_readSum 0 = .ok (.aload_n 0, 1) := by decide +kernel
theorem dX11_readSum_1 : decode cX11_readSum 1 = .ok (.invokevirtual 218, 3) := by decide +kernel
theorem dX11_readSum_4 : decode cX11_readSum 4 = .ok (.iconst (-1), 1) := by decide +kernel
theorem dX11_readSum_5 : decode cX11_readSum 5 = .ok (.if_icmp .ne 5, 3) := by decide +kernel
theorem dX11_readSum_8 : decode cX11_readSum 8 = .ok (.iconst (-1), 1) := by decide +kernel
theorem dX11_readSum_9 : decode cX11_readSum 9 = .ok (.ireturn, 1) := by decide +kernel
theorem dX11_readSum_10 : decode cX11_readSum 10 = .ok (.aload_n 0, 1) := by decide +kernel
theorem dX11_readSum_11 : decode cX11_readSum 11 = .ok (.bipush 43, 2) := by decide +kernel
theorem dX11_readSum_13 : decode cX11_readSum 13 = .ok (.invokevirtual 215, 3) := by decide +kernel
theorem dX11_readSum_16 : decode cX11_readSum 16 = .ok (.ifCond .ne 12, 3) := by decide +kernel
theorem dX11_readSum_19 : decode cX11_readSum 19 = .ok (.aload_n 0, 1) := by decide +kernel
theorem dX11_readSum_20 : decode cX11_readSum 20 = .ok (.bipush 45, 2) := by decide +kernel
theorem dX11_readSum_22 : decode cX11_readSum 22 = .ok (.invokevirtual 215, 3) := by decide +kernel
theorem dX11_readSum_25 : decode cX11_readSum 25 = .ok (.ifCond .eq 41, 3) := by decide +kernel
theorem dX11_readSum_28 : decode cX11_readSum 28 = .ok (.aload_n 0, 1) := by decide +kernel
theorem dX11_readSum_29 : decode cX11_readSum 29 = .ok (.getfield 173, 3) := by decide +kernel
theorem dX11_readSum_32 : decode cX11_readSum 32 = .ok (.bipush 43, 2) := by decide +kernel
theorem dX11_readSum_34 : decode cX11_readSum 34 = .ok (.if_icmp .ne 7, 3) := by decide +kernel
theorem dX11_readSum_37 : decode cX11_readSum 37 = .ok (.iconst 2, 1) := by decide +kernel
theorem dX11_readSum_38 : decode cX11_readSum 38 = .ok (.goto 4, 3) := by decide +kernel
theorem dX11_readSum_41 : decode cX11_readSum 41 = .ok (.iconst 3, 1) := by decide +kernel
theorem dX11_readSum_42 : decode cX11_readSum 42 = .ok (.istore_n 1, 1) := by decide +kernel
theorem dX11_readSum_43 : decode cX11_readSum 43 = .ok (.aload_n 0, 1) := by decide +kernel
theorem dX11_readSum_44 : decode cX11_readSum 44 = .ok (.invokevirtual 208, 3) := by decide +kernel
theorem dX11_readSum_47 : decode cX11_readSum 47 = .ok (.aload_n 0, 1) := by decide +kernel
theorem dX11_readSum_48 : decode cX11_readSum 48 = .ok (.invokevirtual 218, 3) := by decide +kernel
theorem dX11_readSum_51 : decode cX11_readSum 51 = .ok (.iconst (-1), 1) := by decide +kernel
theorem dX11_readSum_52 : decode cX11_readSum 52 = .ok (.if_icmp .ne 5, 3) := by decide +kernel
theorem dX11_readSum_55 : decode cX11_readSum 55 = .ok (.iconst (-1), 1) := by decide +kernel
theorem dX11_readSum_56 : decode cX11_readSum 56 = .ok (.ireturn, 1) := by decide +kernel
theorem dX11_readSum_57 : decode cX11_readSum 57 = .ok (.aload_n 0, 1) := by decide +kernel
theorem dX11_readSum_58 : decode cX11_readSum 58 = .ok (.iload_n 1, 1) := by decide +kernel
theorem dX11_readSum_59 : decode cX11_readSum 59 = .ok (.iconst 0, 1) := by decide +kernel
theorem dX11_readSum_60 : decode cX11_readSum 60 = .ok (.invokevirtual 204, 3) := by decide +kernel
theorem dX11_readSum_63 : decode cX11_readSum 63 = .ok (.goto (-53), 3) := by decide +kernel
theorem dX11_readSum_66 : decode cX11_readSum 66 = .ok (.iconst 0, 1) := by decide +kernel
theorem dX11_readSum_67 : decode cX11_readSum 67 = .ok (.ireturn, 1) := by decide +kernel
theorem dX11_readCompared_0 : decode cX11_readCompared 0 = .ok (.aload_n 0, 1) := by decide +kernel
theorem dX11_readCompared_1 : decode cX11_readCompared 1 = .ok (.invokevirtual 221, 3) := by decide +kernel
theorem dX11_readCompared_4 : decode cX11_readCompared 4 = .ok (.iconst (-1), 1) := by decide +kernel
theorem dX11_readCompared_5 : decode cX11_readCompared 5 = .ok (.if_icmp .ne 5, 3) := by decide +kernel
theorem dX11_readCompared_8 : decode cX11_readCompared 8 = .ok (.iconst (-1), 1) := by decide +kernel
theorem dX11_readCompared_9 : decode cX11_readCompared 9 = .ok (.ireturn, 1) := by decide +kernel
theorem dX11_readCompared_10 : decode cX11_readCompared 10 = .ok (.aload_n 0, 1) := by decide +kernel
theorem dX11_readCompared_11 : decode cX11_readCompared 11 = .ok (.bipush 60, 2) := by decide +kernel
theorem dX11_readCompared_13 : decode cX11_readCompared 13 = .ok (.invokevirtual 215, 3) := by decide +kernel
theorem dX11_readCompared_16 : decode cX11_readCompared 16 = .ok (.ifCond .ne 27, 3) := by decide +kernel
theorem dX11_readCompared_19 : decode cX11_readCompared 19 = .ok (.aload_n 0, 1) := by decide +kernel
theorem dX11_readCompared_20 : decode cX11_readCompared 20 = .ok (.bipush 61, 2) := by decide +kernel
theorem dX11_readCompared_22 : decode cX11_readCompared 22 = .ok (.invokevirtual 215, 3) := by decide +kernel
theorem dX11_readCompared_25 : decode cX11_readCompared 25 = .ok (.ifCond .ne 18, 3) := by decide +kernel
theorem dX11_readCompared_28 : decode cX11_readCompared 28 = .ok (.aload_n 0, 1) := by decide +kernel
theorem dX11_readCompared_29 : decode cX11_readCompared 29 = .ok (.bipush 62, 2) := by decide +kernel
theorem dX11_readCompared_31 : decode cX11_readCompared 31 = .ok (.invokevirtual 215, 3) := by decide +kernel
theorem dX11_readCompared_34 : decode cX11_readCompared 34 = .ok (.ifCond .ne 9, 3) := by decide +kernel
theorem dX11_readCompared_37 : decode cX11_readCompared 37 = .ok (.aload_n 0, 1) := by decide +kernel
theorem dX11_readCompared_38 : decode cX11_readCompared 38 = .ok (.iconst 1, 1) := by decide +kernel
theorem dX11_readCompared_39 : decode cX11_readCompared 39 = .ok (.invokevirtual 201, 3) := by decide +kernel
theorem dX11_readCompared_42 : decode cX11_readCompared 42 = .ok (.ireturn, 1) := by decide +kernel
theorem dX11_readCompared_43 : decode cX11_readCompared 43 = .ok (.aload_n 0, 1) := by decide +kernel
theorem dX11_readCompared_44 : decode cX11_readCompared 44 = .ok (.getfield 173, 3) := by decide +kernel
theorem dX11_readCompared_47 : decode cX11_readCompared 47 = .ok (.bipush 60, 2) := by decide +kernel
theorem dX11_readCompared_49 : decode cX11_readCompared 49 = .ok (.if_icmp .ne 8, 3) := by decide +kernel
theorem dX11_readCompared_52 : decode cX11_readCompared 52 = .ok (.bipush 6, 2) := by decide +kernel
theorem dX11_readCompared_54 : decode cX11_readCompared 54 = .ok (.goto 19, 3) := by decide +kernel
theorem dX11_readCompared_57 : decode cX11_readCompared 57 = .ok (.aload_n 0, 1) := by decide +kernel
theorem dX11_readCompared_58 : decode cX11_readCompared 58 = .ok (.getfield 173, 3) := by decide +kernel
theorem dX11_readCompared_61 : decode cX11_readCompared 61 = .ok (.bipush 61, 2) := by decide +kernel
theorem dX11_readCompared_63 : decode cX11_readCompared 63 = .ok (.if_icmp .ne 8, 3) := by decide +kernel
theorem dX11_readCompared_66 : decode cX11_readCompared 66 = .ok (.bipush 7, 2) := by decide +kernel
theorem dX11_readCompared_68 : decode cX11_readCompared 68 = .ok (.goto 5, 3) := by decide +kernel
theorem dX11_readCompared_71 : decode cX11_readCompared 71 = .ok (.bipush 8, 2) := by decide +kernel
theorem dX11_readCompared_73 : decode cX11_readCompared 73 = .ok (.istore_n 1, 1) := by decide +kernel
theorem dX11_readCompared_74 : decode cX11_readCompared 74 = .ok (.aload_n 0, 1) := by decide +kernel
theorem dX11_readCompared_75 : decode cX11_readCompared 75 = .ok (.invokevirtual 208, 3) := by decide +kernel
theorem dX11_readCompared_78 : decode cX11_readCompared 78 = .ok (.aload_n 0, 1) := by decide +kernel
theorem dX11_readCompared_79 : decode cX11_readCompared 79 = .ok (.invokevirtual 221, 3) := by decide +kernel
theorem dX11_readCompared_82 : decode cX11_readCompared 82 = .ok (.iconst (-1), 1) := by decide +kernel
theorem dX11_readCompared_83 : decode cX11_readCompared 83 = .ok (.if_icmp .ne 5, 3) := by decide +kernel
theorem dX11_readCompared_86 : decode cX11_readCompared 86 = .ok (.iconst (-1), 1) := by decide +kernel
theorem dX11_readCompared_87 : decode cX11_readCompared 87 = .ok (.ireturn, 1) := by decide +kernel
theorem dX11_readCompared_88 : decode cX11_readCompared 88 = .ok (.aload_n 0, 1) := by decide +kernel
theorem dX11_readCompared_89 : decode cX11_readCompared 89 = .ok (.iload_n 1, 1) := by decide +kernel
theorem dX11_readCompared_90 : decode cX11_readCompared 90 = .ok (.iconst 0, 1) := by decide +kernel
theorem dX11_readCompared_91 : decode cX11_readCompared 91 = .ok (.invokevirtual 204, 3) := by decide +kernel
theorem dX11_readCompared_94 : decode cX11_readCompared 94 = .ok (.iconst 0, 1) := by decide +kernel
theorem dX11_readCompared_95 : decode cX11_readCompared 95 = .ok (.ireturn, 1) := by decide +kernel
theorem dX11_waits_0 : decode cX11_waits 0 = .ok (.aload_n 0, 1) := by decide +kernel
theorem dX11_waits_1 : decode cX11_waits 1 = .ok (.getfield 49, 3) := by decide +kernel
theorem dX11_waits_4 : decode cX11_waits 4 = .ok (.aload_n 0, 1) := by decide +kernel
theorem dX11_waits_5 : decode cX11_waits 5 = .ok (.getfield 224, 3) := by decide +kernel
theorem dX11_waits_8 : decode cX11_waits 8 = .ok (.iload_n 1, 1) := by decide +kernel
theorem dX11_waits_9 : decode cX11_waits 9 = .ok (.iastore, 1) := by decide +kernel
theorem dX11_waits_10 : decode cX11_waits 10 = .ok (.aload_n 0, 1) := by decide +kernel
theorem dX11_waits_11 : decode cX11_waits 11 = .ok (.aload_n 0, 1) := by decide +kernel
theorem dX11_waits_12 : decode cX11_waits 12 = .ok (.getfield 224, 3) := by decide +kernel
theorem dX11_waits_15 : decode cX11_waits 15 = .ok (.iconst 1, 1) := by decide +kernel
theorem dX11_waits_16 : decode cX11_waits 16 = .ok (.iadd, 1) := by decide +kernel
theorem dX11_waits_17 : decode cX11_waits 17 = .ok (.putfield 224, 3) := by decide +kernel
theorem dX11_waits_20 : decode cX11_waits 20 = .ok (.return_, 1) := by decide +kernel
theorem dX11_settles_0 : decode cX11_settles 0 = .ok (.aload_n 0, 1) := by decide +kernel
theorem dX11_settles_1 : decode cX11_settles 1 = .ok (.getfield 224, 3) := by decide +kernel
theorem dX11_settles_4 : decode cX11_settles 4 = .ok (.ifCond .le 53, 3) := by decide +kernel
theorem dX11_settles_7 : decode cX11_settles 7 = .ok (.aload_n 0, 1) := by decide +kernel
theorem dX11_settles_8 : decode cX11_settles 8 = .ok (.getfield 49, 3) := by decide +kernel
theorem dX11_settles_11 : decode cX11_settles 11 = .ok (.aload_n 0, 1) := by decide +kernel
theorem dX11_settles_12 : decode cX11_settles 12 = .ok (.getfield 224, 3) := by decide +kernel
theorem dX11_settles_15 : decode cX11_settles 15 = .ok (.iconst 1, 1) := by decide +kernel
theorem dX11_settles_16 : decode cX11_settles 16 = .ok (.isub, 1) := by decide +kernel
theorem dX11_settles_17 : decode cX11_settles 17 = .ok (.iaload, 1) := by decide +kernel
theorem dX11_settles_18 : decode cX11_settles 18 = .ok (.iload_n 1, 1) := by decide +kernel
theorem dX11_settles_19 : decode cX11_settles 19 = .ok (.if_icmp .ne 38, 3) := by decide +kernel
theorem dX11_settles_22 : decode cX11_settles 22 = .ok (.aload_n 0, 1) := by decide +kernel
theorem dX11_settles_23 : decode cX11_settles 23 = .ok (.aload_n 0, 1) := by decide +kernel
theorem dX11_settles_24 : decode cX11_settles 24 = .ok (.getfield 224, 3) := by decide +kernel
theorem dX11_settles_27 : decode cX11_settles 27 = .ok (.iconst 1, 1) := by decide +kernel
theorem dX11_settles_28 : decode cX11_settles 28 = .ok (.isub, 1) := by decide +kernel
theorem dX11_settles_29 : decode cX11_settles 29 = .ok (.putfield 224, 3) := by decide +kernel
theorem dX11_settles_32 : decode cX11_settles 32 = .ok (.aload_n 0, 1) := by decide +kernel
theorem dX11_settles_33 : decode cX11_settles 33 = .ok (.iload_n 1, 1) := by decide +kernel
theorem dX11_settles_34 : decode cX11_settles 34 = .ok (.iconst 0, 1) := by decide +kernel
theorem dX11_settles_35 : decode cX11_settles 35 = .ok (.invokevirtual 204, 3) := by decide +kernel
theorem dX11_settles_38 : decode cX11_settles 38 = .ok (.iload_n 1, 1) := by decide +kernel
theorem dX11_settles_39 : decode cX11_settles 39 = .ok (.bipush 9, 2) := by decide +kernel
theorem dX11_settles_41 : decode cX11_settles 41 = .ok (.if_icmp .ne (-41), 3) := by decide +kernel
theorem dX11_settles_44 : decode cX11_settles 44 = .ok (.aload_n 0, 1) := by decide +kernel
theorem dX11_settles_45 : decode cX11_settles 45 = .ok (.aload_n 0, 1) := by decide +kernel
theorem dX11_settles_46 : decode cX11_settles 46 = .ok (.getfield 227, 3) := by decide +kernel
theorem dX11_settles_49 : decode cX11_settles 49 = .ok (.iconst 1, 1) := by decide +kernel
theorem dX11_settles_50 : decode cX11_settles 50 = .ok (.isub, 1) := by decide +kernel
theorem dX11_settles_51 : decode cX11_settles 51 = .ok (.putfield 227, 3) := by decide +kernel
theorem dX11_settles_54 : decode cX11_settles 54 = .ok (.goto (-54), 3) := by decide +kernel
theorem dX11_settles_57 : decode cX11_settles 57 = .ok (.return_, 1) := by decide +kernel
theorem dX11_readAny_0 : decode cX11_readAny 0 = .ok (.iconst 0, 1) := by decide +kernel
theorem dX11_readAny_1 : decode cX11_readAny 1 = .ok (.istore_n 1, 1) := by decide +kernel
theorem dX11_readAny_2 : decode cX11_readAny 2 = .ok (.aload_n 0, 1) := by decide +kernel
theorem dX11_readAny_3 : decode cX11_readAny 3 = .ok (.iconst 0, 1) := by decide +kernel
theorem dX11_readAny_4 : decode cX11_readAny 4 = .ok (.putfield 224, 3) := by decide +kernel
theorem dX11_readAny_7 : decode cX11_readAny 7 = .ok (.iconst 1, 1) := by decide +kernel
theorem dX11_readAny_8 : decode cX11_readAny 8 = .ok (.istore_n 2, 1) := by decide +kernel
theorem dX11_readAny_9 : decode cX11_readAny 9 = .ok (.iload_n 2, 1) := by decide +kernel
theorem dX11_readAny_10 : decode cX11_readAny 10 = .ok (.ifCond .eq 99, 3) := by decide +kernel
theorem dX11_readAny_13 : decode cX11_readAny 13 = .ok (.aload_n 0, 1) := by decide +kernel
theorem dX11_readAny_14 : decode cX11_readAny 14 = .ok (.bipush 6, 2) := by decide +kernel
theorem dX11_readAny_16 : decode cX11_readAny 16 = .ok (.invokevirtual 230, 3) := by decide +kernel
theorem dX11_readAny_19 : decode cX11_readAny 19 = .ok (.istore_n 3, 1) := by decide +kernel
theorem dX11_readAny_20 : decode cX11_readAny 20 = .ok (.iload_n 3, 1) := by decide +kernel
theorem dX11_readAny_21 : decode cX11_readAny 21 = .ok (.ifCond .ne 12, 3) := by decide +kernel
theorem dX11_readAny_24 : decode cX11_readAny 24 = .ok (.aload_n 0, 1) := by decide +kernel
theorem dX11_readAny_25 : decode cX11_readAny 25 = .ok (.bipush 40, 2) := by decide +kernel
theorem dX11_readAny_27 : decode cX11_readAny 27 = .ok (.invokevirtual 215, 3) := by decide +kernel
theorem dX11_readAny_30 : decode cX11_readAny 30 = .ok (.ifCond .eq 58, 3) := by decide +kernel
theorem dX11_readAny_33 : decode cX11_readAny 33 = .ok (.aload_n 0, 1) := by decide +kernel
theorem dX11_readAny_34 : decode cX11_readAny 34 = .ok (.getfield 227, 3) := by decide +kernel
theorem dX11_readAny_37 : decode cX11_readAny 37 = .ok (.bipush 8, 2) := by decide +kernel
theorem dX11_readAny_39 : decode cX11_readAny 39 = .ok (.if_icmp .ne 9, 3) := by decide +kernel
theorem dX11_readAny_42 : decode cX11_readAny 42 = .ok (.aload_n 0, 1) := by decide +kernel
theorem dX11_readAny_43 : decode cX11_readAny 43 = .ok (.iconst 3, 1) := by decide +kernel
theorem dX11_readAny_44 : decode cX11_readAny 44 = .ok (.invokevirtual 201, 3) := by decide +kernel
theorem dX11_readAny_47 : decode cX11_readAny 47 = .ok (.ireturn, 1) := by decide +kernel
theorem dX11_readAny_48 : decode cX11_readAny 48 = .ok (.aload_n 0, 1) := by decide +kernel
theorem dX11_readAny_49 : decode cX11_readAny 49 = .ok (.aload_n 0, 1) := by decide +kernel
theorem dX11_readAny_50 : decode cX11_readAny 50 = .ok (.getfield 227, 3) := by decide +kernel
theorem dX11_readAny_53 : decode cX11_readAny 53 = .ok (.iconst 1, 1) := by decide +kernel
theorem dX11_readAny_54 : decode cX11_readAny 54 = .ok (.iadd, 1) := by decide +kernel
theorem dX11_readAny_55 : decode cX11_readAny 55 = .ok (.putfield 227, 3) := by decide +kernel
theorem dX11_readAny_58 : decode cX11_readAny 58 = .ok (.iload_n 3, 1) := by decide +kernel
theorem dX11_readAny_59 : decode cX11_readAny 59 = .ok (.ifCond .ne 7, 3) := by decide +kernel
theorem dX11_readAny_62 : decode cX11_readAny 62 = .ok (.iload_n 1, 1) := by decide +kernel
theorem dX11_readAny_63 : decode cX11_readAny 63 = .ok (.iconst 1, 1) := by decide +kernel
theorem dX11_readAny_64 : decode cX11_readAny 64 = .ok (.iadd, 1) := by decide +kernel
theorem dX11_readAny_65 : decode cX11_readAny 65 = .ok (.istore_n 1, 1) := by decide +kernel
theorem dX11_readAny_66 : decode cX11_readAny 66 = .ok (.aload_n 0, 1) := by decide +kernel
theorem dX11_readAny_67 : decode cX11_readAny 67 = .ok (.iload_n 3, 1) := by decide +kernel
theorem dX11_readAny_68 : decode cX11_readAny 68 = .ok (.ifCond .eq 8, 3) := by decide +kernel
theorem dX11_readAny_71 : decode cX11_readAny 71 = .ok (.bipush 9, 2) := by decide +kernel
theorem dX11_readAny_73 : decode cX11_readAny 73 = .ok (.goto 5, 3) := by decide +kernel
theorem dX11_readAny_76 : decode cX11_readAny 76 = .ok (.bipush 12, 2) := by decide +kernel
theorem dX11_readAny_78 : decode cX11_readAny 78 = .ok (.invokevirtual 233, 3) := by decide +kernel
theorem dX11_readAny_81 : decode cX11_readAny 81 = .ok (.aload_n 0, 1) := by decide +kernel
theorem dX11_readAny_82 : decode cX11_readAny 82 = .ok (.invokevirtual 208, 3) := by decide +kernel
theorem dX11_readAny_85 : decode cX11_readAny 85 = .ok (.goto (-76), 3) := by decide +kernel
theorem dX11_readAny_88 : decode cX11_readAny 88 = .ok (.aload_n 0, 1) := by decide +kernel
theorem dX11_readAny_89 : decode cX11_readAny 89 = .ok (.invokevirtual 236, 3) := by decide +kernel
theorem dX11_readAny_92 : decode cX11_readAny 92 = .ok (.iconst (-1), 1) := by decide +kernel
theorem dX11_readAny_93 : decode cX11_readAny 93 = .ok (.if_icmp .ne 5, 3) := by decide +kernel
theorem dX11_readAny_96 : decode cX11_readAny 96 = .ok (.iconst (-1), 1) := by decide +kernel
theorem dX11_readAny_97 : decode cX11_readAny 97 = .ok (.ireturn, 1) := by decide +kernel
theorem dX11_readAny_98 : decode cX11_readAny 98 = .ok (.aload_n 0, 1) := by decide +kernel
theorem dX11_readAny_99 : decode cX11_readAny 99 = .ok (.bipush 9, 2) := by decide +kernel
theorem dX11_readAny_101 : decode cX11_readAny 101 = .ok (.invokevirtual 239, 3) := by decide +kernel
theorem dX11_readAny_104 : decode cX11_readAny 104 = .ok (.iconst 0, 1) := by decide +kernel
theorem dX11_readAny_105 : decode cX11_readAny 105 = .ok (.istore_n 2, 1) := by decide +kernel
theorem dX11_readAny_106 : decode cX11_readAny 106 = .ok (.goto (-97), 3) := by decide +kernel
theorem dX11_readAny_109 : decode cX11_readAny 109 = .ok (.aload_n 0, 1) := by decide +kernel
theorem dX11_readAny_110 : decode cX11_readAny 110 = .ok (.iconst 5, 1) := by decide +kernel
theorem dX11_readAny_111 : decode cX11_readAny 111 = .ok (.invokevirtual 230, 3) := by decide +kernel
theorem dX11_readAny_114 : decode cX11_readAny 114 = .ok (.ifCond .eq 24, 3) := by decide +kernel
theorem dX11_readAny_117 : decode cX11_readAny 117 = .ok (.aload_n 0, 1) := by decide +kernel
theorem dX11_readAny_118 : decode cX11_readAny 118 = .ok (.bipush 10, 2) := by decide +kernel
theorem dX11_readAny_120 : decode cX11_readAny 120 = .ok (.invokevirtual 239, 3) := by decide +kernel
theorem dX11_readAny_123 : decode cX11_readAny 123 = .ok (.aload_n 0, 1) := by decide +kernel
theorem dX11_readAny_124 : decode cX11_readAny 124 = .ok (.bipush 10, 2) := by decide +kernel
theorem dX11_readAny_126 : decode cX11_readAny 126 = .ok (.invokevirtual 233, 3) := by decide +kernel
theorem dX11_readAny_129 : decode cX11_readAny 129 = .ok (.aload_n 0, 1) := by decide +kernel
theorem dX11_readAny_130 : decode cX11_readAny 130 = .ok (.invokevirtual 208, 3) := by decide +kernel
theorem dX11_readAny_133 : decode cX11_readAny 133 = .ok (.iconst 1, 1) := by decide +kernel
theorem dX11_readAny_134 : decode cX11_readAny 134 = .ok (.istore_n 2, 1) := by decide +kernel
theorem dX11_readAny_135 : decode cX11_readAny 135 = .ok (.goto (-126), 3) := by decide +kernel
theorem dX11_readAny_138 : decode cX11_readAny 138 = .ok (.aload_n 0, 1) := by decide +kernel
theorem dX11_readAny_139 : decode cX11_readAny 139 = .ok (.iconst 4, 1) := by decide +kernel
theorem dX11_readAny_140 : decode cX11_readAny 140 = .ok (.invokevirtual 230, 3) := by decide +kernel
theorem dX11_readAny_143 : decode cX11_readAny 143 = .ok (.ifCond .eq 30, 3) := by decide +kernel
theorem dX11_readAny_146 : decode cX11_readAny 146 = .ok (.aload_n 0, 1) := by decide +kernel
theorem dX11_readAny_147 : decode cX11_readAny 147 = .ok (.bipush 10, 2) := by decide +kernel
theorem dX11_readAny_149 : decode cX11_readAny 149 = .ok (.invokevirtual 239, 3) := by decide +kernel
theorem dX11_readAny_152 : decode cX11_readAny 152 = .ok (.aload_n 0, 1) := by decide +kernel
theorem dX11_readAny_153 : decode cX11_readAny 153 = .ok (.bipush 11, 2) := by decide +kernel
theorem dX11_readAny_155 : decode cX11_readAny 155 = .ok (.invokevirtual 239, 3) := by decide +kernel
theorem dX11_readAny_158 : decode cX11_readAny 158 = .ok (.aload_n 0, 1) := by decide +kernel
theorem dX11_readAny_159 : decode cX11_readAny 159 = .ok (.bipush 11, 2) := by decide +kernel
theorem dX11_readAny_161 : decode cX11_readAny 161 = .ok (.invokevirtual 233, 3) := by decide +kernel
theorem dX11_readAny_164 : decode cX11_readAny 164 = .ok (.aload_n 0, 1) := by decide +kernel
theorem dX11_readAny_165 : decode cX11_readAny 165 = .ok (.invokevirtual 208, 3) := by decide +kernel
theorem dX11_readAny_168 : decode cX11_readAny 168 = .ok (.iconst 1, 1) := by decide +kernel
theorem dX11_readAny_169 : decode cX11_readAny 169 = .ok (.istore_n 2, 1) := by decide +kernel
theorem dX11_readAny_170 : decode cX11_readAny 170 = .ok (.goto (-161), 3) := by decide +kernel
theorem dX11_readAny_173 : decode cX11_readAny 173 = .ok (.aload_n 0, 1) := by decide +kernel
theorem dX11_readAny_174 : decode cX11_readAny 174 = .ok (.bipush 10, 2) := by decide +kernel
theorem dX11_readAny_176 : decode cX11_readAny 176 = .ok (.invokevirtual 239, 3) := by decide +kernel
theorem dX11_readAny_179 : decode cX11_readAny 179 = .ok (.aload_n 0, 1) := by decide +kernel
theorem dX11_readAny_180 : decode cX11_readAny 180 = .ok (.bipush 11, 2) := by decide +kernel
theorem dX11_readAny_182 : decode cX11_readAny 182 = .ok (.invokevirtual 239, 3) := by decide +kernel
theorem dX11_readAny_185 : decode cX11_readAny 185 = .ok (.iload_n 1, 1) := by decide +kernel
theorem dX11_readAny_186 : decode cX11_readAny 186 = .ok (.ifCond .ne 5, 3) := by decide +kernel
theorem dX11_readAny_189 : decode cX11_readAny 189 = .ok (.iconst 0, 1) := by decide +kernel
theorem dX11_readAny_190 : decode cX11_readAny 190 = .ok (.ireturn, 1) := by decide +kernel
theorem dX11_readAny_191 : decode cX11_readAny 191 = .ok (.aload_n 0, 1) := by decide +kernel
theorem dX11_readAny_192 : decode cX11_readAny 192 = .ok (.bipush 41, 2) := by decide +kernel
theorem dX11_readAny_194 : decode cX11_readAny 194 = .ok (.invokevirtual 215, 3) := by decide +kernel
theorem dX11_readAny_197 : decode cX11_readAny 197 = .ok (.ifCond .ne 9, 3) := by decide +kernel
theorem dX11_readAny_200 : decode cX11_readAny 200 = .ok (.aload_n 0, 1) := by decide +kernel
theorem dX11_readAny_201 : decode cX11_readAny 201 = .ok (.iconst 1, 1) := by decide +kernel
theorem dX11_readAny_202 : decode cX11_readAny 202 = .ok (.invokevirtual 201, 3) := by decide +kernel
theorem dX11_readAny_205 : decode cX11_readAny 205 = .ok (.ireturn, 1) := by decide +kernel
theorem dX11_readAny_206 : decode cX11_readAny 206 = .ok (.aload_n 0, 1) := by decide +kernel
theorem dX11_readAny_207 : decode cX11_readAny 207 = .ok (.aload_n 0, 1) := by decide +kernel
theorem dX11_readAny_208 : decode cX11_readAny 208 = .ok (.getfield 224, 3) := by decide +kernel
theorem dX11_readAny_211 : decode cX11_readAny 211 = .ok (.iconst 1, 1) := by decide +kernel
theorem dX11_readAny_212 : decode cX11_readAny 212 = .ok (.isub, 1) := by decide +kernel
theorem dX11_readAny_213 : decode cX11_readAny 213 = .ok (.putfield 224, 3) := by decide +kernel
theorem dX11_readAny_216 : decode cX11_readAny 216 = .ok (.iload_n 1, 1) := by decide +kernel
theorem dX11_readAny_217 : decode cX11_readAny 217 = .ok (.iconst 1, 1) := by decide +kernel
theorem dX11_readAny_218 : decode cX11_readAny 218 = .ok (.isub, 1) := by decide +kernel
theorem dX11_readAny_219 : decode cX11_readAny 219 = .ok (.istore_n 1, 1) := by decide +kernel
theorem dX11_readAny_220 : decode cX11_readAny 220 = .ok (.aload_n 0, 1) := by decide +kernel
theorem dX11_readAny_221 : decode cX11_readAny 221 = .ok (.aload_n 0, 1) := by decide +kernel
theorem dX11_readAny_222 : decode cX11_readAny 222 = .ok (.getfield 227, 3) := by decide +kernel
theorem dX11_readAny_225 : decode cX11_readAny 225 = .ok (.iconst 1, 1) := by decide +kernel
theorem dX11_readAny_226 : decode cX11_readAny 226 = .ok (.isub, 1) := by decide +kernel
theorem dX11_readAny_227 : decode cX11_readAny 227 = .ok (.putfield 227, 3) := by decide +kernel
theorem dX11_readAny_230 : decode cX11_readAny 230 = .ok (.aload_n 0, 1) := by decide +kernel
theorem dX11_readAny_231 : decode cX11_readAny 231 = .ok (.bipush 9, 2) := by decide +kernel
theorem dX11_readAny_233 : decode cX11_readAny 233 = .ok (.invokevirtual 239, 3) := by decide +kernel
theorem dX11_readAny_236 : decode cX11_readAny 236 = .ok (.aload_n 0, 1) := by decide +kernel
theorem dX11_readAny_237 : decode cX11_readAny 237 = .ok (.invokevirtual 208, 3) := by decide +kernel
theorem dX11_readAny_240 : decode cX11_readAny 240 = .ok (.goto (-231), 3) := by decide +kernel
theorem dX11_isLineWord_0 : decode cX11_isLineWord 0 = .ok (.aload_n 0, 1) := by decide +kernel
theorem dX11_isLineWord_1 : decode cX11_isLineWord 1 = .ok (.iconst 0, 1) := by decide +kernel
theorem dX11_isLineWord_2 : decode cX11_isLineWord 2 = .ok (.invokevirtual 230, 3) := by decide +kernel
theorem dX11_isLineWord_5 : decode cX11_isLineWord 5 = .ok (.ifCond .ne 19, 3) := by decide +kernel
theorem dX11_isLineWord_8 : decode cX11_isLineWord 8 = .ok (.aload_n 0, 1) := by decide +kernel
theorem dX11_isLineWord_9 : decode cX11_isLineWord 9 = .ok (.iconst 1, 1) := by decide +kernel
theorem dX11_isLineWord_10 : decode cX11_isLineWord 10 = .ok (.invokevirtual 230, 3) := by decide +kernel
theorem dX11_isLineWord_13 : decode cX11_isLineWord 13 = .ok (.ifCond .ne 11, 3) := by decide +kernel
theorem dX11_isLineWord_16 : decode cX11_isLineWord 16 = .ok (.aload_n 0, 1) := by decide +kernel
theorem dX11_isLineWord_17 : decode cX11_isLineWord 17 = .ok (.iconst 2, 1) := by decide +kernel
theorem dX11_isLineWord_18 : decode cX11_isLineWord 18 = .ok (.invokevirtual 230, 3) := by decide +kernel
theorem dX11_isLineWord_21 : decode cX11_isLineWord 21 = .ok (.ifCond .eq 7, 3) := by decide +kernel
theorem dX11_isLineWord_24 : decode cX11_isLineWord 24 = .ok (.iconst 1, 1) := by decide +kernel
theorem dX11_isLineWord_25 : decode cX11_isLineWord 25 = .ok (.goto 4, 3) := by decide +kernel
theorem dX11_isLineWord_28 : decode cX11_isLineWord 28 = .ok (.iconst 0, 1) := by decide +kernel
theorem dX11_isLineWord_29 : decode cX11_isLineWord 29 = .ok (.ireturn, 1) := by decide +kernel
theorem dX11_readLaw_0 : decode cX11_readLaw 0 = .ok (.iconst 0, 1) := by decide +kernel
theorem dX11_readLaw_1 : decode cX11_readLaw 1 = .ok (.istore_n 1, 1) := by decide +kernel
theorem dX11_readLaw_2 : decode cX11_readLaw 2 = .ok (.aload_n 0, 1) := by decide +kernel
theorem dX11_readLaw_3 : decode cX11_readLaw 3 = .ok (.invokevirtual 242, 3) := by decide +kernel
theorem dX11_readLaw_6 : decode cX11_readLaw 6 = .ok (.ifCond .eq 122, 3) := by decide +kernel
theorem dX11_readLaw_9 : decode cX11_readLaw 9 = .ok (.iload_n 1, 1) := by decide +kernel
theorem dX11_readLaw_10 : decode cX11_readLaw 10 = .ok (.bipush 16, 2) := by decide +kernel
theorem dX11_readLaw_12 : decode cX11_readLaw 12 = .ok (.if_icmp .ne 9, 3) := by decide +kernel
theorem dX11_readLaw_15 : decode cX11_readLaw 15 = .ok (.aload_n 0, 1) := by decide +kernel
theorem dX11_readLaw_16 : decode cX11_readLaw 16 = .ok (.iconst 3, 1) := by decide +kernel
theorem dX11_readLaw_17 : decode cX11_readLaw 17 = .ok (.invokevirtual 201, 3) := by decide +kernel
theorem dX11_readLaw_20 : decode cX11_readLaw 20 = .ok (.ireturn, 1) := by decide +kernel
theorem dX11_readLaw_21 : decode cX11_readLaw 21 = .ok (.bipush 32, 2) := by decide +kernel
theorem dX11_readLaw_23 : decode cX11_readLaw 23 = .ok (.iload_n 1, 1) := by decide +kernel
theorem dX11_readLaw_24 : decode cX11_readLaw 24 = .ok (.iadd, 1) := by decide +kernel
theorem dX11_readLaw_25 : decode cX11_readLaw 25 = .ok (.istore_n 2, 1) := by decide +kernel
theorem dX11_readLaw_26 : decode cX11_readLaw 26 = .ok (.aload_n 0, 1) := by decide +kernel
theorem dX11_readLaw_27 : decode cX11_readLaw 27 = .ok (.getfield 31, 3) := by decide +kernel
theorem dX11_readLaw_30 : decode cX11_readLaw 30 = .ok (.iload_n 2, 1) := by decide +kernel
theorem dX11_readLaw_31 : decode cX11_readLaw 31 = .ok (.aload_n 0, 1) := by decide +kernel
theorem dX11_readLaw_32 : decode cX11_readLaw 32 = .ok (.getfield 173, 3) := by decide +kernel
theorem dX11_readLaw_35 : decode cX11_readLaw 35 = .ok (.iastore, 1) := by decide +kernel
theorem dX11_readLaw_36 : decode cX11_readLaw 36 = .ok (.aload_n 0, 1) := by decide +kernel
theorem dX11_readLaw_37 : decode cX11_readLaw 37 = .ok (.invokevirtual 208, 3) := by decide +kernel
theorem dX11_readLaw_40 : decode cX11_readLaw 40 = .ok (.aload_n 0, 1) := by decide +kernel
theorem dX11_readLaw_41 : decode cX11_readLaw 41 = .ok (.getfield 34, 3) := by decide +kernel
theorem dX11_readLaw_44 : decode cX11_readLaw 44 = .ok (.iload_n 2, 1) := by decide +kernel
theorem dX11_readLaw_45 : decode cX11_readLaw 45 = .ok (.aload_n 0, 1) := by decide +kernel
theorem dX11_readLaw_46 : decode cX11_readLaw 46 = .ok (.getfield 195, 3) := by decide +kernel
theorem dX11_readLaw_49 : decode cX11_readLaw 49 = .ok (.iastore, 1) := by decide +kernel
theorem dX11_readLaw_50 : decode cX11_readLaw 50 = .ok (.aload_n 0, 1) := by decide +kernel
theorem dX11_readLaw_51 : decode cX11_readLaw 51 = .ok (.invokevirtual 221, 3) := by decide +kernel
theorem dX11_readLaw_54 : decode cX11_readLaw 54 = .ok (.iconst (-1), 1) := by decide +kernel
theorem dX11_readLaw_55 : decode cX11_readLaw 55 = .ok (.if_icmp .ne 5, 3) := by decide +kernel
theorem dX11_readLaw_58 : decode cX11_readLaw 58 = .ok (.iconst (-1), 1) := by decide +kernel
theorem dX11_readLaw_59 : decode cX11_readLaw 59 = .ok (.ireturn, 1) := by decide +kernel
theorem dX11_readLaw_60 : decode cX11_readLaw 60 = .ok (.aload_n 0, 1) := by decide +kernel
theorem dX11_readLaw_61 : decode cX11_readLaw 61 = .ok (.getfield 37, 3) := by decide +kernel
theorem dX11_readLaw_64 : decode cX11_readLaw 64 = .ok (.iload_n 2, 1) := by decide +kernel
theorem dX11_readLaw_65 : decode cX11_readLaw 65 = .ok (.aload_n 0, 1) := by decide +kernel
theorem dX11_readLaw_66 : decode cX11_readLaw 66 = .ok (.getfield 195, 3) := by decide +kernel
theorem dX11_readLaw_69 : decode cX11_readLaw 69 = .ok (.iastore, 1) := by decide +kernel
theorem dX11_readLaw_70 : decode cX11_readLaw 70 = .ok (.aload_n 0, 1) := by decide +kernel
theorem dX11_readLaw_71 : decode cX11_readLaw 71 = .ok (.iconst 3, 1) := by decide +kernel
theorem dX11_readLaw_72 : decode cX11_readLaw 72 = .ok (.invokevirtual 230, 3) := by decide +kernel
theorem dX11_readLaw_75 : decode cX11_readLaw 75 = .ok (.ifCond .eq 17, 3) := by decide +kernel
theorem dX11_readLaw_78 : decode cX11_readLaw 78 = .ok (.aload_n 0, 1) := by decide +kernel
theorem dX11_readLaw_79 : decode cX11_readLaw 79 = .ok (.invokevirtual 208, 3) := by decide +kernel
theorem dX11_readLaw_82 : decode cX11_readLaw 82 = .ok (.aload_n 0, 1) := by decide +kernel
theorem dX11_readLaw_83 : decode cX11_readLaw 83 = .ok (.invokevirtual 246, 3) := by decide +kernel
theorem dX11_readLaw_86 : decode cX11_readLaw 86 = .ok (.iconst (-1), 1) := by decide +kernel
theorem dX11_readLaw_87 : decode cX11_readLaw 87 = .ok (.if_icmp .ne 5, 3) := by decide +kernel
theorem dX11_readLaw_90 : decode cX11_readLaw 90 = .ok (.iconst (-1), 1) := by decide +kernel
theorem dX11_readLaw_91 : decode cX11_readLaw 91 = .ok (.ireturn, 1) := by decide +kernel
theorem dX11_readLaw_92 : decode cX11_readLaw 92 = .ok (.aload_n 0, 1) := by decide +kernel
theorem dX11_readLaw_93 : decode cX11_readLaw 93 = .ok (.getfield 40, 3) := by decide +kernel
theorem dX11_readLaw_96 : decode cX11_readLaw 96 = .ok (.iload_n 2, 1) := by decide +kernel
theorem dX11_readLaw_97 : decode cX11_readLaw 97 = .ok (.aload_n 0, 1) := by decide +kernel
theorem dX11_readLaw_98 : decode cX11_readLaw 98 = .ok (.getfield 195, 3) := by decide +kernel
theorem dX11_readLaw_101 : decode cX11_readLaw 101 = .ok (.iastore, 1) := by decide +kernel
theorem dX11_readLaw_102 : decode cX11_readLaw 102 = .ok (.aload_n 0, 1) := by decide +kernel
theorem dX11_readLaw_103 : decode cX11_readLaw 103 = .ok (.bipush 59, 2) := by decide +kernel
theorem dX11_readLaw_105 : decode cX11_readLaw 105 = .ok (.invokevirtual 215, 3) := by decide +kernel
theorem dX11_readLaw_108 : decode cX11_readLaw 108 = .ok (.ifCond .ne 9, 3) := by decide +kernel
theorem dX11_readLaw_111 : decode cX11_readLaw 111 = .ok (.aload_n 0, 1) := by decide +kernel
theorem dX11_readLaw_112 : decode cX11_readLaw 112 = .ok (.iconst 1, 1) := by decide +kernel
theorem dX11_readLaw_113 : decode cX11_readLaw 113 = .ok (.invokevirtual 201, 3) := by decide +kernel
theorem dX11_readLaw_116 : decode cX11_readLaw 116 = .ok (.ireturn, 1) := by decide +kernel
theorem dX11_readLaw_117 : decode cX11_readLaw 117 = .ok (.aload_n 0, 1) := by decide +kernel
theorem dX11_readLaw_118 : decode cX11_readLaw 118 = .ok (.invokevirtual 208, 3) := by decide +kernel
theorem dX11_readLaw_121 : decode cX11_readLaw 121 = .ok (.iload_n 1, 1) := by decide +kernel
theorem dX11_readLaw_122 : decode cX11_readLaw 122 = .ok (.iconst 1, 1) := by decide +kernel
theorem dX11_readLaw_123 : decode cX11_readLaw 123 = .ok (.iadd, 1) := by decide +kernel
theorem dX11_readLaw_124 : decode cX11_readLaw 124 = .ok (.istore_n 1, 1) := by decide +kernel
theorem dX11_readLaw_125 : decode cX11_readLaw 125 = .ok (.goto (-123), 3) := by decide +kernel
theorem dX11_readLaw_128 : decode cX11_readLaw 128 = .ok (.aload_n 0, 1) := by decide +kernel
theorem dX11_readLaw_129 : decode cX11_readLaw 129 = .ok (.getfield 170, 3) := by decide +kernel
theorem dX11_readLaw_132 : decode cX11_readLaw 132 = .ok (.ifCond .ne 7, 3) := by decide +kernel
theorem dX11_readLaw_135 : decode cX11_readLaw 135 = .ok (.iload_n 1, 1) := by decide +kernel
theorem dX11_readLaw_136 : decode cX11_readLaw 136 = .ok (.goto 8, 3) := by decide +kernel
theorem dX11_readLaw_139 : decode cX11_readLaw 139 = .ok (.aload_n 0, 1) := by decide +kernel
theorem dX11_readLaw_140 : decode cX11_readLaw 140 = .ok (.iconst 1, 1) := by decide +kernel
theorem dX11_readLaw_141 : decode cX11_readLaw 141 = .ok (.invokevirtual 201, 3) := by decide +kernel
theorem dX11_readLaw_144 : decode cX11_readLaw 144 = .ok (.ireturn, 1) := by decide +kernel
theorem dX11_takesLaw_0 : decode cX11_takesLaw 0 = .ok (.iconst 0, 1) := by decide +kernel
theorem dX11_takesLaw_1 : decode cX11_takesLaw 1 = .ok (.istore_n 2, 1) := by decide +kernel
theorem dX11_takesLaw_2 : decode cX11_takesLaw 2 = .ok (.iload_n 2, 1) := by decide +kernel
theorem dX11_takesLaw_3 : decode cX11_takesLaw 3 = .ok (.iload_n 1, 1) := by decide +kernel
theorem dX11_takesLaw_4 : decode cX11_takesLaw 4 = .ok (.if_icmp .ge 101, 3) := by decide +kernel
theorem dX11_takesLaw_7 : decode cX11_takesLaw 7 = .ok (.aload_n 0, 1) := by decide +kernel
theorem dX11_takesLaw_8 : decode cX11_takesLaw 8 = .ok (.getfield 31, 3) := by decide +kernel
theorem dX11_takesLaw_11 : decode cX11_takesLaw 11 = .ok (.bipush 16, 2) := by decide +kernel
theorem dX11_takesLaw_13 : decode cX11_takesLaw 13 = .ok (.aload_n 0, 1) := by decide +kernel
theorem dX11_takesLaw_14 : decode cX11_takesLaw 14 = .ok (.getfield 249, 3) := by decide +kernel
theorem dX11_takesLaw_17 : decode cX11_takesLaw 17 = .ok (.imul, 1) := by decide +kernel
theorem dX11_takesLaw_18 : decode cX11_takesLaw 18 = .ok (.iload_n 2, 1) := by decide +kernel
theorem dX11_takesLaw_19 : decode cX11_takesLaw 19 = .ok (.iadd, 1) := by decide +kernel
theorem dX11_takesLaw_20 : decode cX11_takesLaw 20 = .ok (.aload_n 0, 1) := by decide +kernel
theorem dX11_takesLaw_21 : decode cX11_takesLaw 21 = .ok (.getfield 31, 3) := by decide +kernel
theorem dX11_takesLaw_24 : decode cX11_takesLaw 24 = .ok (.bipush 32, 2) := by decide +kernel
theorem dX11_takesLaw_26 : decode cX11_takesLaw 26 = .ok (.iload_n 2, 1) := by decide +kernel
theorem dX11_takesLaw_27 : decode cX11_takesLaw 27 = .ok (.iadd, 1) := by decide +kernel
theorem dX11_takesLaw_28 : decode cX11_takesLaw 28 = .ok (.iaload, 1) := by decide +kernel
theorem dX11_takesLaw_29 : decode cX11_takesLaw 29 = .ok (.iastore, 1) := by decide +kernel
theorem dX11_takesLaw_30 : decode cX11_takesLaw 30 = .ok (.aload_n 0, 1) := by decide +kernel
theorem dX11_takesLaw_31 : decode cX11_takesLaw 31 = .ok (.getfield 34, 3) := by decide +kernel
theorem dX11_takesLaw_34 : decode cX11_takesLaw 34 = .ok (.bipush 16, 2) := by decide +kernel
theorem dX11_takesLaw_36 : decode cX11_takesLaw 36 = .ok (.aload_n 0, 1) := by decide +kernel
theorem dX11_takesLaw_37 : decode cX11_takesLaw 37 = .ok (.getfield 249, 3) := by decide +kernel
theorem dX11_takesLaw_40 : decode cX11_takesLaw 40 = .ok (.imul, 1) := by decide +kernel
theorem dX11_takesLaw_41 : decode cX11_takesLaw 41 = .ok (.iload_n 2, 1) := by decide +kernel
theorem dX11_takesLaw_42 : decode cX11_takesLaw 42 = .ok (.iadd, 1) := by decide +kernel
theorem dX11_takesLaw_43 : decode cX11_takesLaw 43 = .ok (.aload_n 0, 1) := by decide +kernel
theorem dX11_takesLaw_44 : decode cX11_takesLaw 44 = .ok (.getfield 34, 3) := by decide +kernel
theorem dX11_takesLaw_47 : decode cX11_takesLaw 47 = .ok (.bipush 32, 2) := by decide +kernel
theorem dX11_takesLaw_49 : decode cX11_takesLaw 49 = .ok (.iload_n 2, 1) := by decide +kernel
theorem dX11_takesLaw_50 : decode cX11_takesLaw 50 = .ok (.iadd, 1) := by decide +kernel
theorem dX11_takesLaw_51 : decode cX11_takesLaw 51 = .ok (.iaload, 1) := by decide +kernel
theorem dX11_takesLaw_52 : decode cX11_takesLaw 52 = .ok (.iastore, 1) := by decide +kernel
theorem dX11_takesLaw_53 : decode cX11_takesLaw 53 = .ok (.aload_n 0, 1) := by decide +kernel
theorem dX11_takesLaw_54 : decode cX11_takesLaw 54 = .ok (.getfield 37, 3) := by decide +kernel
theorem dX11_takesLaw_57 : decode cX11_takesLaw 57 = .ok (.bipush 16, 2) := by decide +kernel
theorem dX11_takesLaw_59 : decode cX11_takesLaw 59 = .ok (.aload_n 0, 1) := by decide +kernel
theorem dX11_takesLaw_60 : decode cX11_takesLaw 60 = .ok (.getfield 249, 3) := by decide +kernel
theorem dX11_takesLaw_63 : decode cX11_takesLaw 63 = .ok (.imul, 1) := by decide +kernel
theorem dX11_takesLaw_64 : decode cX11_takesLaw 64 = .ok (.iload_n 2, 1) := by decide +kernel
theorem dX11_takesLaw_65 : decode cX11_takesLaw 65 = .ok (.iadd, 1) := by decide +kernel
theorem dX11_takesLaw_66 : decode cX11_takesLaw 66 = .ok (.aload_n 0, 1) := by decide +kernel
theorem dX11_takesLaw_67 : decode cX11_takesLaw 67 = .ok (.getfield 37, 3) := by decide +kernel
theorem dX11_takesLaw_70 : decode cX11_takesLaw 70 = .ok (.bipush 32, 2) := by decide +kernel
theorem dX11_takesLaw_72 : decode cX11_takesLaw 72 = .ok (.iload_n 2, 1) := by decide +kernel
theorem dX11_takesLaw_73 : decode cX11_takesLaw 73 = .ok (.iadd, 1) := by decide +kernel
theorem dX11_takesLaw_74 : decode cX11_takesLaw 74 = .ok (.iaload, 1) := by decide +kernel
theorem dX11_takesLaw_75 : decode cX11_takesLaw 75 = .ok (.iastore, 1) := by decide +kernel
theorem dX11_takesLaw_76 : decode cX11_takesLaw 76 = .ok (.aload_n 0, 1) := by decide +kernel
theorem dX11_takesLaw_77 : decode cX11_takesLaw 77 = .ok (.getfield 40, 3) := by decide +kernel
theorem dX11_takesLaw_80 : decode cX11_takesLaw 80 = .ok (.bipush 16, 2) := by decide +kernel
theorem dX11_takesLaw_82 : decode cX11_takesLaw 82 = .ok (.aload_n 0, 1) := by decide +kernel
theorem dX11_takesLaw_83 : decode cX11_takesLaw 83 = .ok (.getfield 249, 3) := by decide +kernel
theorem dX11_takesLaw_86 : decode cX11_takesLaw 86 = .ok (.imul, 1) := by decide +kernel
theorem dX11_takesLaw_87 : decode cX11_takesLaw 87 = .ok (.iload_n 2, 1) := by decide +kernel
theorem dX11_takesLaw_88 : decode cX11_takesLaw 88 = .ok (.iadd, 1) := by decide +kernel
theorem dX11_takesLaw_89 : decode cX11_takesLaw 89 = .ok (.aload_n 0, 1) := by decide +kernel
theorem dX11_takesLaw_90 : decode cX11_takesLaw 90 = .ok (.getfield 40, 3) := by decide +kernel
theorem dX11_takesLaw_93 : decode cX11_takesLaw 93 = .ok (.bipush 32, 2) := by decide +kernel
theorem dX11_takesLaw_95 : decode cX11_takesLaw 95 = .ok (.iload_n 2, 1) := by decide +kernel
theorem dX11_takesLaw_96 : decode cX11_takesLaw 96 = .ok (.iadd, 1) := by decide +kernel
theorem dX11_takesLaw_97 : decode cX11_takesLaw 97 = .ok (.iaload, 1) := by decide +kernel
theorem dX11_takesLaw_98 : decode cX11_takesLaw 98 = .ok (.iastore, 1) := by decide +kernel
theorem dX11_takesLaw_99 : decode cX11_takesLaw 99 = .ok (.iinc 2 1, 3) := by decide +kernel
theorem dX11_takesLaw_102 : decode cX11_takesLaw 102 = .ok (.goto (-100), 3) := by decide +kernel
theorem dX11_takesLaw_105 : decode cX11_takesLaw 105 = .ok (.iconst 0, 1) := by decide +kernel
theorem dX11_takesLaw_106 : decode cX11_takesLaw 106 = .ok (.istore_n 2, 1) := by decide +kernel
theorem dX11_takesLaw_107 : decode cX11_takesLaw 107 = .ok (.iload_n 2, 1) := by decide +kernel
theorem dX11_takesLaw_108 : decode cX11_takesLaw 108 = .ok (.aload_n 0, 1) := by decide +kernel
theorem dX11_takesLaw_109 : decode cX11_takesLaw 109 = .ok (.getfield 195, 3) := by decide +kernel
theorem dX11_takesLaw_112 : decode cX11_takesLaw 112 = .ok (.if_icmp .ge 59, 3) := by decide +kernel
theorem dX11_takesLaw_115 : decode cX11_takesLaw 115 = .ok (.aload_n 0, 1) := by decide +kernel
theorem dX11_takesLaw_116 : decode cX11_takesLaw 116 = .ok (.getfield 43, 3) := by decide +kernel
theorem dX11_takesLaw_119 : decode cX11_takesLaw 119 = .ok (.sipush 400, 3) := by decide +kernel
theorem dX11_takesLaw_122 : decode cX11_takesLaw 122 = .ok (.aload_n 0, 1) := by decide +kernel
theorem dX11_takesLaw_123 : decode cX11_takesLaw 123 = .ok (.getfield 249, 3) := by decide +kernel
theorem dX11_takesLaw_126 : decode cX11_takesLaw 126 = .ok (.imul, 1) := by decide +kernel
theorem dX11_takesLaw_127 : decode cX11_takesLaw 127 = .ok (.iload_n 2, 1) := by decide +kernel
theorem dX11_takesLaw_128 : decode cX11_takesLaw 128 = .ok (.iadd, 1) := by decide +kernel
theorem dX11_takesLaw_129 : decode cX11_takesLaw 129 = .ok (.aload_n 0, 1) := by decide +kernel
theorem dX11_takesLaw_130 : decode cX11_takesLaw 130 = .ok (.getfield 43, 3) := by decide +kernel
theorem dX11_takesLaw_133 : decode cX11_takesLaw 133 = .ok (.sipush 800, 3) := by decide +kernel
theorem dX11_takesLaw_136 : decode cX11_takesLaw 136 = .ok (.iload_n 2, 1) := by decide +kernel
theorem dX11_takesLaw_137 : decode cX11_takesLaw 137 = .ok (.iadd, 1) := by decide +kernel
theorem dX11_takesLaw_138 : decode cX11_takesLaw 138 = .ok (.iaload, 1) := by decide +kernel
theorem dX11_takesLaw_139 : decode cX11_takesLaw 139 = .ok (.iastore, 1) := by decide +kernel
theorem dX11_takesLaw_140 : decode cX11_takesLaw 140 = .ok (.aload_n 0, 1) := by decide +kernel
theorem dX11_takesLaw_141 : decode cX11_takesLaw 141 = .ok (.getfield 46, 3) := by decide +kernel
theorem dX11_takesLaw_144 : decode cX11_takesLaw 144 = .ok (.sipush 400, 3) := by decide +kernel
theorem dX11_takesLaw_147 : decode cX11_takesLaw 147 = .ok (.aload_n 0, 1) := by decide +kernel
theorem dX11_takesLaw_148 : decode cX11_takesLaw 148 = .ok (.getfield 249, 3) := by decide +kernel
theorem dX11_takesLaw_151 : decode cX11_takesLaw 151 = .ok (.imul, 1) := by decide +kernel
theorem dX11_takesLaw_152 : decode cX11_takesLaw 152 = .ok (.iload_n 2, 1) := by decide +kernel
theorem dX11_takesLaw_153 : decode cX11_takesLaw 153 = .ok (.iadd, 1) := by decide +kernel
theorem dX11_takesLaw_154 : decode cX11_takesLaw 154 = .ok (.aload_n 0, 1) := by decide +kernel
theorem dX11_takesLaw_155 : decode cX11_takesLaw 155 = .ok (.getfield 46, 3) := by decide +kernel
theorem dX11_takesLaw_158 : decode cX11_takesLaw 158 = .ok (.sipush 800, 3) := by decide +kernel
theorem dX11_takesLaw_161 : decode cX11_takesLaw 161 = .ok (.iload_n 2, 1) := by decide +kernel
theorem dX11_takesLaw_162 : decode cX11_takesLaw 162 = .ok (.iadd, 1) := by decide +kernel
theorem dX11_takesLaw_163 : decode cX11_takesLaw 163 = .ok (.iaload, 1) := by decide +kernel
theorem dX11_takesLaw_164 : decode cX11_takesLaw 164 = .ok (.iastore, 1) := by decide +kernel
theorem dX11_takesLaw_165 : decode cX11_takesLaw 165 = .ok (.iinc 2 1, 3) := by decide +kernel
theorem dX11_takesLaw_168 : decode cX11_takesLaw 168 = .ok (.goto (-61), 3) := by decide +kernel
theorem dX11_takesLaw_171 : decode cX11_takesLaw 171 = .ok (.aload_n 0, 1) := by decide +kernel
theorem dX11_takesLaw_172 : decode cX11_takesLaw 172 = .ok (.getfield 28, 3) := by decide +kernel
theorem dX11_takesLaw_175 : decode cX11_takesLaw 175 = .ok (.aload_n 0, 1) := by decide +kernel
theorem dX11_takesLaw_176 : decode cX11_takesLaw 176 = .ok (.getfield 249, 3) := by decide +kernel
theorem dX11_takesLaw_179 : decode cX11_takesLaw 179 = .ok (.iload_n 1, 1) := by decide +kernel
theorem dX11_takesLaw_180 : decode cX11_takesLaw 180 = .ok (.iastore, 1) := by decide +kernel
theorem dX11_takesLaw_181 : decode cX11_takesLaw 181 = .ok (.return_, 1) := by decide +kernel
theorem dX11_readNumber_0 : decode cX11_readNumber 0 = .ok (.aload_n 0, 1) := by decide +kernel
theorem dX11_readNumber_1 : decode cX11_readNumber 1 = .ok (.getfield 170, 3) := by decide +kernel
theorem dX11_readNumber_4 : decode cX11_readNumber 4 = .ok (.iconst 3, 1) := by decide +kernel
theorem dX11_readNumber_5 : decode cX11_readNumber 5 = .ok (.if_icmp .eq 9, 3) := by decide +kernel
theorem dX11_readNumber_8 : decode cX11_readNumber 8 = .ok (.aload_n 0, 1) := by decide +kernel
theorem dX11_readNumber_9 : decode cX11_readNumber 9 = .ok (.iconst 1, 1) := by decide +kernel
theorem dX11_readNumber_10 : decode cX11_readNumber 10 = .ok (.invokevirtual 201, 3) := by decide +kernel
theorem dX11_readNumber_13 : decode cX11_readNumber 13 = .ok (.ireturn, 1) := by decide +kernel
theorem dX11_readNumber_14 : decode cX11_readNumber 14 = .ok (.aload_n 0, 1) := by decide +kernel
theorem dX11_readNumber_15 : decode cX11_readNumber 15 = .ok (.aload_n 0, 1) := by decide +kernel
theorem dX11_readNumber_16 : decode cX11_readNumber 16 = .ok (.getfield 173, 3) := by decide +kernel
theorem dX11_readNumber_19 : decode cX11_readNumber 19 = .ok (.iload_n 1, 1) := by decide +kernel
theorem dX11_readNumber_20 : decode cX11_readNumber 20 = .ok (.iload_n 2, 1) := by decide +kernel
theorem dX11_readNumber_21 : decode cX11_readNumber 21 = .ok (.invokevirtual 126, 3) := by decide +kernel
theorem dX11_readNumber_24 : decode cX11_readNumber 24 = .ok (.ifCond .ne 9, 3) := by decide +kernel
theorem dX11_readNumber_27 : decode cX11_readNumber 27 = .ok (.aload_n 0, 1) := by decide +kernel
theorem dX11_readNumber_28 : decode cX11_readNumber 28 = .ok (.iconst 2, 1) := by decide +kernel
theorem dX11_readNumber_29 : decode cX11_readNumber 29 = .ok (.invokevirtual 201, 3) := by decide +kernel
theorem dX11_readNumber_32 : decode cX11_readNumber 32 = .ok (.ireturn, 1) := by decide +kernel
theorem dX11_readNumber_33 : decode cX11_readNumber 33 = .ok (.aload_n 0, 1) := by decide +kernel
theorem dX11_readNumber_34 : decode cX11_readNumber 34 = .ok (.getfield 173, 3) := by decide +kernel
theorem dX11_readNumber_37 : decode cX11_readNumber 37 = .ok (.istore_n 3, 1) := by decide +kernel
theorem dX11_readNumber_38 : decode cX11_readNumber 38 = .ok (.aload_n 0, 1) := by decide +kernel
theorem dX11_readNumber_39 : decode cX11_readNumber 39 = .ok (.invokevirtual 208, 3) := by decide +kernel
theorem dX11_readNumber_42 : decode cX11_readNumber 42 = .ok (.iload_n 3, 1) := by decide +kernel
theorem dX11_readNumber_43 : decode cX11_readNumber 43 = .ok (.ireturn, 1) := by decide +kernel
theorem dX11_readMark_0 : decode cX11_readMark 0 = .ok (.aload_n 0, 1) := by decide +kernel
theorem dX11_readMark_1 : decode cX11_readMark 1 = .ok (.iload_n 1, 1) := by decide +kernel
theorem dX11_readMark_2 : decode cX11_readMark 2 = .ok (.invokevirtual 215, 3) := by decide +kernel
theorem dX11_readMark_5 : decode cX11_readMark 5 = .ok (.ifCond .ne 9, 3) := by decide +kernel
theorem dX11_readMark_8 : decode cX11_readMark 8 = .ok (.aload_n 0, 1) := by decide +kernel
theorem dX11_readMark_9 : decode cX11_readMark 9 = .ok (.iconst 1, 1) := by decide +kernel
theorem dX11_readMark_10 : decode cX11_readMark 10 = .ok (.invokevirtual 201, 3) := by decide +kernel
theorem dX11_readMark_13 : decode cX11_readMark 13 = .ok (.ireturn, 1) := by decide +kernel
theorem dX11_readMark_14 : decode cX11_readMark 14 = .ok (.aload_n 0, 1) := by decide +kernel
theorem dX11_readMark_15 : decode cX11_readMark 15 = .ok (.invokevirtual 208, 3) := by decide +kernel
theorem dX11_readMark_18 : decode cX11_readMark 18 = .ok (.iconst 0, 1) := by decide +kernel
theorem dX11_readMark_19 : decode cX11_readMark 19 = .ok (.ireturn, 1) := by decide +kernel
theorem dX11_readTold_0 : decode cX11_readTold 0 = .ok (.aload_n 0, 1) := by decide +kernel
theorem dX11_readTold_1 : decode cX11_readTold 1 = .ok (.iload_n 1, 1) := by decide +kernel
theorem dX11_readTold_2 : decode cX11_readTold 2 = .ok (.invokevirtual 230, 3) := by decide +kernel
theorem dX11_readTold_5 : decode cX11_readTold 5 = .ok (.ifCond .ne 9, 3) := by decide +kernel
theorem dX11_readTold_8 : decode cX11_readTold 8 = .ok (.aload_n 0, 1) := by decide +kernel
theorem dX11_readTold_9 : decode cX11_readTold 9 = .ok (.iconst 1, 1) := by decide +kernel
theorem dX11_readTold_10 : decode cX11_readTold 10 = .ok (.invokevirtual 201, 3) := by decide +kernel
theorem dX11_readTold_13 : decode cX11_readTold 13 = .ok (.ireturn, 1) := by decide +kernel
theorem dX11_readTold_14 : decode cX11_readTold 14 = .ok (.aload_n 0, 1) := by decide +kernel
theorem dX11_readTold_15 : decode cX11_readTold 15 = .ok (.invokevirtual 208, 3) := by decide +kernel
theorem dX11_readTold_18 : decode cX11_readTold 18 = .ok (.aload_n 0, 1) := by decide +kernel
theorem dX11_readTold_19 : decode cX11_readTold 19 = .ok (.iload_n 2, 1) := by decide +kernel
theorem dX11_readTold_20 : decode cX11_readTold 20 = .ok (.iload_n 3, 1) := by decide +kernel
theorem dX11_readTold_21 : decode cX11_readTold 21 = .ok (.invokevirtual 252, 3) := by decide +kernel
theorem dX11_readTold_24 : decode cX11_readTold 24 = .ok (.ireturn, 1) := by decide +kernel
theorem dX11_readPath_0 : decode cX11_readPath 0 = .ok (.aload_n 0, 1) := by decide +kernel
theorem dX11_readPath_1 : decode cX11_readPath 1 = .ok (.bipush 16, 2) := by decide +kernel
theorem dX11_readPath_3 : decode cX11_readPath 3 = .ok (.iconst 0, 1) := by decide +kernel
theorem dX11_readPath_4 : decode cX11_readPath 4 = .ok (.aload_n 0, 1) := by decide +kernel
theorem dX11_readPath_5 : decode cX11_readPath 5 = .ok (.getfield 119, 3) := by decide +kernel
theorem dX11_readPath_8 : decode cX11_readPath 8 = .ok (.iconst 1, 1) := by decide +kernel
theorem dX11_readPath_9 : decode cX11_readPath 9 = .ok (.isub, 1) := by decide +kernel
theorem dX11_readPath_10 : decode cX11_readPath 10 = .ok (.invokevirtual 255, 3) := by decide +kernel
theorem dX11_readPath_13 : decode cX11_readPath 13 = .ok (.istore_n 1, 1) := by decide +kernel
theorem dX11_readPath_14 : decode cX11_readPath 14 = .ok (.iload_n 1, 1) := by decide +kernel
theorem dX11_readPath_15 : decode cX11_readPath 15 = .ok (.iconst (-1), 1) := by decide +kernel
theorem dX11_readPath_16 : decode cX11_readPath 16 = .ok (.if_icmp .ne 5, 3) := by decide +kernel
theorem dX11_readPath_19 : decode cX11_readPath 19 = .ok (.iconst (-1), 1) := by decide +kernel
theorem dX11_readPath_20 : decode cX11_readPath 20 = .ok (.ireturn, 1) := by decide +kernel
theorem dX11_readPath_21 : decode cX11_readPath 21 = .ok (.aload_n 0, 1) := by decide +kernel
theorem dX11_readPath_22 : decode cX11_readPath 22 = .ok (.bipush 17, 2) := by decide +kernel
theorem dX11_readPath_24 : decode cX11_readPath 24 = .ok (.invokevirtual 230, 3) := by decide +kernel
theorem dX11_readPath_27 : decode cX11_readPath 27 = .ok (.ifCond .ne 9, 3) := by decide +kernel
theorem dX11_readPath_30 : decode cX11_readPath 30 = .ok (.aload_n 0, 1) := by decide +kernel
theorem dX11_readPath_31 : decode cX11_readPath 31 = .ok (.iconst 1, 1) := by decide +kernel
theorem dX11_readPath_32 : decode cX11_readPath 32 = .ok (.invokevirtual 201, 3) := by decide +kernel
theorem dX11_readPath_35 : decode cX11_readPath 35 = .ok (.ireturn, 1) := by decide +kernel
theorem dX11_readPath_36 : decode cX11_readPath 36 = .ok (.aload_n 0, 1) := by decide +kernel
theorem dX11_readPath_37 : decode cX11_readPath 37 = .ok (.invokevirtual 208, 3) := by decide +kernel
theorem dX11_readPath_40 : decode cX11_readPath 40 = .ok (.bipush 90, 2) := by decide +kernel
theorem dX11_readPath_42 : decode cX11_readPath 42 = .ok (.bipush 9, 2) := by decide +kernel
theorem dX11_readPath_44 : decode cX11_readPath 44 = .ok (.iload_n 1, 1) := by decide +kernel
theorem dX11_readPath_45 : decode cX11_readPath 45 = .ok (.imul, 1) := by decide +kernel
theorem dX11_readPath_46 : decode cX11_readPath 46 = .ok (.iadd, 1) := by decide +kernel
theorem dX11_readPath_47 : decode cX11_readPath 47 = .ok (.istore_n 2, 1) := by decide +kernel
theorem dX11_readPath_48 : decode cX11_readPath 48 = .ok (.aload_n 0, 1) := by decide +kernel
theorem dX11_readPath_49 : decode cX11_readPath 49 = .ok (.getfield 56, 3) := by decide +kernel
theorem dX11_readPath_52 : decode cX11_readPath 52 = .ok (.iload_n 2, 1) := by decide +kernel
theorem dX11_readPath_53 : decode cX11_readPath 53 = .ok (.iconst 0, 1) := by decide +kernel
theorem dX11_readPath_54 : decode cX11_readPath 54 = .ok (.iastore, 1) := by decide +kernel
theorem dX11_readPath_55 : decode cX11_readPath 55 = .ok (.aload_n 0, 1) := by decide +kernel
theorem dX11_readPath_56 : decode cX11_readPath 56 = .ok (.getfield 56, 3) := by decide +kernel
theorem dX11_readPath_59 : decode cX11_readPath 59 = .ok (.iload_n 2, 1) := by decide +kernel
theorem dX11_readPath_60 : decode cX11_readPath 60 = .ok (.iaload, 1) := by decide +kernel
theorem dX11_readPath_61 : decode cX11_readPath 61 = .ok (.ifCond .eq 11, 3) := by decide +kernel
theorem dX11_readPath_64 : decode cX11_readPath 64 = .ok (.aload_n 0, 1) := by decide +kernel
theorem dX11_readPath_65 : decode cX11_readPath 65 = .ok (.getfield 170, 3) := by decide +kernel
theorem dX11_readPath_68 : decode cX11_readPath 68 = .ok (.iconst 3, 1) := by decide +kernel
theorem dX11_readPath_69 : decode cX11_readPath 69 = .ok (.if_icmp .ne 83, 3) := by decide +kernel
theorem dX11_readPath_72 : decode cX11_readPath 72 = .ok (.aload_n 0, 1) := by decide +kernel
theorem dX11_readPath_73 : decode cX11_readPath 73 = .ok (.getfield 170, 3) := by decide +kernel
theorem dX11_readPath_76 : decode cX11_readPath 76 = .ok (.iconst 3, 1) := by decide +kernel
theorem dX11_readPath_77 : decode cX11_readPath 77 = .ok (.if_icmp .ne 29, 3) := by decide +kernel
theorem dX11_readPath_80 : decode cX11_readPath 80 = .ok (.aload_n 0, 1) := by decide +kernel
theorem dX11_readPath_81 : decode cX11_readPath 81 = .ok (.getfield 173, 3) := by decide +kernel
theorem dX11_readPath_84 : decode cX11_readPath 84 = .ok (.bipush 10, 2) := by decide +kernel
theorem dX11_readPath_86 : decode cX11_readPath 86 = .ok (.if_icmp .ge 20, 3) := by decide +kernel
theorem dX11_readPath_89 : decode cX11_readPath 89 = .ok (.aload_n 0, 1) := by decide +kernel
theorem dX11_readPath_90 : decode cX11_readPath 90 = .ok (.getfield 56, 3) := by decide +kernel
theorem dX11_readPath_93 : decode cX11_readPath 93 = .ok (.iload_n 2, 1) := by decide +kernel
theorem dX11_readPath_94 : decode cX11_readPath 94 = .ok (.iaload, 1) := by decide +kernel
theorem dX11_readPath_95 : decode cX11_readPath 95 = .ok (.bipush 8, 2) := by decide +kernel
theorem dX11_readPath_97 : decode cX11_readPath 97 = .ok (.if_icmp .ne 9, 3) := by decide +kernel
theorem dX11_readPath_100 : decode cX11_readPath 100 = .ok (.aload_n 0, 1) := by decide +kernel
theorem dX11_readPath_101 : decode cX11_readPath 101 = .ok (.iconst 3, 1) := by decide +kernel
theorem dX11_readPath_102 : decode cX11_readPath 102 = .ok (.invokevirtual 201, 3) := by decide +kernel
theorem dX11_readPath_105 : decode cX11_readPath 105 = .ok (.ireturn, 1) := by decide +kernel
theorem dX11_readPath_106 : decode cX11_readPath 106 = .ok (.aload_n 0, 1) := by decide +kernel
theorem dX11_readPath_107 : decode cX11_readPath 107 = .ok (.iconst 0, 1) := by decide +kernel
theorem dX11_readPath_108 : decode cX11_readPath 108 = .ok (.bipush 9, 2) := by decide +kernel
theorem dX11_readPath_110 : decode cX11_readPath 110 = .ok (.invokevirtual 252, 3) := by decide +kernel
theorem dX11_readPath_113 : decode cX11_readPath 113 = .ok (.istore_n 3, 1) := by decide +kernel
theorem dX11_readPath_114 : decode cX11_readPath 114 = .ok (.iload_n 3, 1) := by decide +kernel
theorem dX11_readPath_115 : decode cX11_readPath 115 = .ok (.iconst (-1), 1) := by decide +kernel
theorem dX11_readPath_116 : decode cX11_readPath 116 = .ok (.if_icmp .ne 5, 3) := by decide +kernel
theorem dX11_readPath_119 : decode cX11_readPath 119 = .ok (.iconst (-1), 1) := by decide +kernel
theorem dX11_readPath_120 : decode cX11_readPath 120 = .ok (.ireturn, 1) := by decide +kernel
theorem dX11_readPath_121 : decode cX11_readPath 121 = .ok (.aload_n 0, 1) := by decide +kernel
theorem dX11_readPath_122 : decode cX11_readPath 122 = .ok (.getfield 56, 3) := by decide +kernel
theorem dX11_readPath_125 : decode cX11_readPath 125 = .ok (.iload_n 2, 1) := by decide +kernel
theorem dX11_readPath_126 : decode cX11_readPath 126 = .ok (.aload_n 0, 1) := by decide +kernel
theorem dX11_readPath_127 : decode cX11_readPath 127 = .ok (.getfield 56, 3) := by decide +kernel
theorem dX11_readPath_130 : decode cX11_readPath 130 = .ok (.iload_n 2, 1) := by decide +kernel
theorem dX11_readPath_131 : decode cX11_readPath 131 = .ok (.iaload, 1) := by decide +kernel
theorem dX11_readPath_132 : decode cX11_readPath 132 = .ok (.iconst 1, 1) := by decide +kernel
theorem dX11_readPath_133 : decode cX11_readPath 133 = .ok (.iadd, 1) := by decide +kernel
theorem dX11_readPath_134 : decode cX11_readPath 134 = .ok (.iastore, 1) := by decide +kernel
theorem dX11_readPath_135 : decode cX11_readPath 135 = .ok (.aload_n 0, 1) := by decide +kernel
theorem dX11_readPath_136 : decode cX11_readPath 136 = .ok (.getfield 56, 3) := by decide +kernel
theorem dX11_readPath_139 : decode cX11_readPath 139 = .ok (.iload_n 2, 1) := by decide +kernel
theorem dX11_readPath_140 : decode cX11_readPath 140 = .ok (.aload_n 0, 1) := by decide +kernel
theorem dX11_readPath_141 : decode cX11_readPath 141 = .ok (.getfield 56, 3) := by decide +kernel
theorem dX11_readPath_144 : decode cX11_readPath 144 = .ok (.iload_n 2, 1) := by decide +kernel
theorem dX11_readPath_145 : decode cX11_readPath 145 = .ok (.iaload, 1) := by decide +kernel
theorem dX11_readPath_146 : decode cX11_readPath 146 = .ok (.iadd, 1) := by decide +kernel
theorem dX11_readPath_147 : decode cX11_readPath 147 = .ok (.iload_n 3, 1) := by decide +kernel
theorem dX11_readPath_148 : decode cX11_readPath 148 = .ok (.iastore, 1) := by decide +kernel
theorem dX11_readPath_149 : decode cX11_readPath 149 = .ok (.goto (-94), 3) := by decide +kernel
theorem dX11_readPath_152 : decode cX11_readPath 152 = .ok (.aload_n 0, 1) := by decide +kernel
theorem dX11_readPath_153 : decode cX11_readPath 153 = .ok (.bipush 59, 2) := by decide +kernel
theorem dX11_readPath_155 : decode cX11_readPath 155 = .ok (.invokevirtual 258, 3) := by decide +kernel
theorem dX11_readPath_158 : decode cX11_readPath 158 = .ok (.ireturn, 1) := by decide +kernel
theorem dX11_readPaths_0 : decode cX11_readPaths 0 = .ok (.iconst 0, 1) := by decide +kernel
theorem dX11_readPaths_1 : decode cX11_readPaths 1 = .ok (.istore_n 1, 1) := by decide +kernel
theorem dX11_readPaths_2 : decode cX11_readPaths 2 = .ok (.iload_n 1, 1) := by decide +kernel
theorem dX11_readPaths_3 : decode cX11_readPaths 3 = .ok (.bipush 10, 2) := by decide +kernel
theorem dX11_readPaths_5 : decode cX11_readPaths 5 = .ok (.if_icmp .ge 22, 3) := by decide +kernel
theorem dX11_readPaths_8 : decode cX11_readPaths 8 = .ok (.aload_n 0, 1) := by decide +kernel
theorem dX11_readPaths_9 : decode cX11_readPaths 9 = .ok (.getfield 56, 3) := by decide +kernel
theorem dX11_readPaths_12 : decode cX11_readPaths 12 = .ok (.bipush 90, 2) := by decide +kernel
theorem dX11_readPaths_14 : decode cX11_readPaths 14 = .ok (.bipush 9, 2) := by decide +kernel
theorem dX11_readPaths_16 : decode cX11_readPaths 16 = .ok (.iload_n 1, 1) := by decide +kernel
theorem dX11_readPaths_17 : decode cX11_readPaths 17 = .ok (.imul, 1) := by decide +kernel
theorem dX11_readPaths_18 : decode cX11_readPaths 18 = .ok (.iadd, 1) := by decide +kernel
theorem dX11_readPaths_19 : decode cX11_readPaths 19 = .ok (.iconst 0, 1) := by decide +kernel
theorem dX11_readPaths_20 : decode cX11_readPaths 20 = .ok (.iastore, 1) := by decide +kernel
theorem dX11_readPaths_21 : decode cX11_readPaths 21 = .ok (.iinc 1 1, 3) := by decide +kernel
theorem dX11_readPaths_24 : decode cX11_readPaths 24 = .ok (.goto (-22), 3) := by decide +kernel
theorem dX11_readPaths_27 : decode cX11_readPaths 27 = .ok (.iconst 0, 1) := by decide +kernel
theorem dX11_readPaths_28 : decode cX11_readPaths 28 = .ok (.istore_n 1, 1) := by decide +kernel
theorem dX11_readPaths_29 : decode cX11_readPaths 29 = .ok (.aload_n 0, 1) := by decide +kernel
theorem dX11_readPaths_30 : decode cX11_readPaths 30 = .ok (.bipush 16, 2) := by decide +kernel
theorem dX11_readPaths_32 : decode cX11_readPaths 32 = .ok (.invokevirtual 230, 3) := by decide +kernel
theorem dX11_readPaths_35 : decode cX11_readPaths 35 = .ok (.ifCond .eq 32, 3) := by decide +kernel
theorem dX11_readPaths_38 : decode cX11_readPaths 38 = .ok (.iload_n 1, 1) := by decide +kernel
theorem dX11_readPaths_39 : decode cX11_readPaths 39 = .ok (.bipush 16, 2) := by decide +kernel
theorem dX11_readPaths_41 : decode cX11_readPaths 41 = .ok (.if_icmp .ne 9, 3) := by decide +kernel
theorem dX11_readPaths_44 : decode cX11_readPaths 44 = .ok (.aload_n 0, 1) := by decide +kernel
theorem dX11_readPaths_45 : decode cX11_readPaths 45 = .ok (.iconst 3, 1) := by decide +kernel
theorem dX11_readPaths_46 : decode cX11_readPaths 46 = .ok (.invokevirtual 201, 3) := by decide +kernel
theorem dX11_readPaths_49 : decode cX11_readPaths 49 = .ok (.ireturn, 1) := by decide +kernel
theorem dX11_readPaths_50 : decode cX11_readPaths 50 = .ok (.aload_n 0, 1) := by decide +kernel
theorem dX11_readPaths_51 : decode cX11_readPaths 51 = .ok (.invokevirtual 261, 3) := by decide +kernel
theorem dX11_readPaths_54 : decode cX11_readPaths 54 = .ok (.iconst (-1), 1) := by decide +kernel
theorem dX11_readPaths_55 : decode cX11_readPaths 55 = .ok (.if_icmp .ne 5, 3) := by decide +kernel
theorem dX11_readPaths_58 : decode cX11_readPaths 58 = .ok (.iconst (-1), 1) := by decide +kernel
theorem dX11_readPaths_59 : decode cX11_readPaths 59 = .ok (.ireturn, 1) := by decide +kernel
theorem dX11_readPaths_60 : decode cX11_readPaths 60 = .ok (.iload_n 1, 1) := by decide +kernel
theorem dX11_readPaths_61 : decode cX11_readPaths 61 = .ok (.iconst 1, 1) := by decide +kernel
theorem dX11_readPaths_62 : decode cX11_readPaths 62 = .ok (.iadd, 1) := by decide +kernel
theorem dX11_readPaths_63 : decode cX11_readPaths 63 = .ok (.istore_n 1, 1) := by decide +kernel
theorem dX11_readPaths_64 : decode cX11_readPaths 64 = .ok (.goto (-35), 3) := by decide +kernel
theorem dX11_readPaths_67 : decode cX11_readPaths 67 = .ok (.aload_n 0, 1) := by decide +kernel
theorem dX11_readPaths_68 : decode cX11_readPaths 68 = .ok (.getfield 170, 3) := by decide +kernel
theorem dX11_readPaths_71 : decode cX11_readPaths 71 = .ok (.ifCond .ne 7, 3) := by decide +kernel
theorem dX11_readPaths_74 : decode cX11_readPaths 74 = .ok (.iload_n 1, 1) := by decide +kernel
theorem dX11_readPaths_75 : decode cX11_readPaths 75 = .ok (.goto 8, 3) := by decide +kernel
theorem dX11_readPaths_78 : decode cX11_readPaths 78 = .ok (.aload_n 0, 1) := by decide +kernel
theorem dX11_readPaths_79 : decode cX11_readPaths 79 = .ok (.iconst 1, 1) := by decide +kernel
theorem dX11_readPaths_80 : decode cX11_readPaths 80 = .ok (.invokevirtual 201, 3) := by decide +kernel
theorem dX11_readPaths_83 : decode cX11_readPaths 83 = .ok (.ireturn, 1) := by decide +kernel
theorem dX11_readDeed_0 : decode cX11_readDeed 0 = .ok (.iload_n 2, 1) := by decide +kernel
theorem dX11_readDeed_1 : decode cX11_readDeed 1 = .ok (.bipush 19, 2) := by decide +kernel
theorem dX11_readDeed_3 : decode cX11_readDeed 3 = .ok (.if_icmp .eq 9, 3) := by decide +kernel
theorem dX11_readDeed_6 : decode cX11_readDeed 6 = .ok (.iload_n 2, 1) := by decide +kernel
theorem dX11_readDeed_7 : decode cX11_readDeed 7 = .ok (.bipush 23, 2) := by decide +kernel
theorem dX11_readDeed_9 : decode cX11_readDeed 9 = .ok (.if_icmp .ne 25, 3) := by decide +kernel
theorem dX11_readDeed_12 : decode cX11_readDeed 12 = .ok (.aload_n 0, 1) := by decide +kernel
theorem dX11_readDeed_13 : decode cX11_readDeed 13 = .ok (.getfield 59, 3) := by decide +kernel
theorem dX11_readDeed_16 : decode cX11_readDeed 16 = .ok (.iload_n 1, 1) := by decide +kernel
theorem dX11_readDeed_17 : decode cX11_readDeed 17 = .ok (.iconst 2, 1) := by decide +kernel
theorem dX11_readDeed_18 : decode cX11_readDeed 18 = .ok (.iadd, 1) := by decide +kernel
theorem dX11_readDeed_19 : decode cX11_readDeed 19 = .ok (.aload_n 0, 1) := by decide +kernel
theorem dX11_readDeed_20 : decode cX11_readDeed 20 = .ok (.iconst 0, 1) := by decide +kernel
theorem dX11_readDeed_21 : decode cX11_readDeed 21 = .ok (.aload_n 0, 1) := by decide +kernel
theorem dX11_readDeed_22 : decode cX11_readDeed 22 = .ok (.getfield 116, 3) := by decide +kernel
theorem dX11_readDeed_25 : decode cX11_readDeed 25 = .ok (.iconst 1, 1) := by decide +kernel
theorem dX11_readDeed_26 : decode cX11_readDeed 26 = .ok (.isub, 1) := by decide +kernel
theorem dX11_readDeed_27 : decode cX11_readDeed 27 = .ok (.invokevirtual 252, 3) := by decide +kernel
theorem dX11_readDeed_30 : decode cX11_readDeed 30 = .ok (.iastore, 1) := by decide +kernel
theorem dX11_readDeed_31 : decode cX11_readDeed 31 = .ok (.goto 33, 3) := by decide +kernel
theorem dX11_readDeed_34 : decode cX11_readDeed 34 = .ok (.aload_n 0, 1) := by decide +kernel
theorem dX11_readDeed_35 : decode cX11_readDeed 35 = .ok (.getfield 59, 3) := by decide +kernel
theorem dX11_readDeed_38 : decode cX11_readDeed 38 = .ok (.iload_n 1, 1) := by decide +kernel
theorem dX11_readDeed_39 : decode cX11_readDeed 39 = .ok (.iconst 2, 1) := by decide +kernel
theorem dX11_readDeed_40 : decode cX11_readDeed 40 = .ok (.iadd, 1) := by decide +kernel
theorem dX11_readDeed_41 : decode cX11_readDeed 41 = .ok (.aload_n 0, 1) := by decide +kernel
theorem dX11_readDeed_42 : decode cX11_readDeed 42 = .ok (.iconst 0, 1) := by decide +kernel
theorem dX11_readDeed_43 : decode cX11_readDeed 43 = .ok (.iload_n 2, 1) := by decide +kernel
theorem dX11_readDeed_44 : decode cX11_readDeed 44 = .ok (.bipush 24, 2) := by decide +kernel
theorem dX11_readDeed_46 : decode cX11_readDeed 46 = .ok (.if_icmp .ne 12, 3) := by decide +kernel
theorem dX11_readDeed_49 : decode cX11_readDeed 49 = .ok (.aload_n 0, 1) := by decide +kernel
theorem dX11_readDeed_50 : decode cX11_readDeed 50 = .ok (.getfield 119, 3) := by decide +kernel
theorem dX11_readDeed_53 : decode cX11_readDeed 53 = .ok (.iconst 1, 1) := by decide +kernel
theorem dX11_readDeed_54 : decode cX11_readDeed 54 = .ok (.isub, 1) := by decide +kernel
theorem dX11_readDeed_55 : decode cX11_readDeed 55 = .ok (.goto 5, 3) := by decide +kernel
theorem dX11_readDeed_58 : decode cX11_readDeed 58 = .ok (.bipush 9, 2) := by decide +kernel
theorem dX11_readDeed_60 : decode cX11_readDeed 60 = .ok (.invokevirtual 252, 3) := by decide +kernel
theorem dX11_readDeed_63 : decode cX11_readDeed 63 = .ok (.iastore, 1) := by decide +kernel
theorem dX11_readDeed_64 : decode cX11_readDeed 64 = .ok (.aload_n 0, 1) := by decide +kernel
theorem dX11_readDeed_65 : decode cX11_readDeed 65 = .ok (.getfield 59, 3) := by decide +kernel
theorem dX11_readDeed_68 : decode cX11_readDeed 68 = .ok (.iload_n 1, 1) := by decide +kernel
theorem dX11_readDeed_69 : decode cX11_readDeed 69 = .ok (.iconst 2, 1) := by decide +kernel
theorem dX11_readDeed_70 : decode cX11_readDeed 70 = .ok (.iadd, 1) := by decide +kernel
theorem dX11_readDeed_71 : decode cX11_readDeed 71 = .ok (.iaload, 1) := by decide +kernel
theorem dX11_readDeed_72 : decode cX11_readDeed 72 = .ok (.iconst (-1), 1) := by decide +kernel
theorem dX11_readDeed_73 : decode cX11_readDeed 73 = .ok (.if_icmp .ne 5, 3) := by decide +kernel
theorem dX11_readDeed_76 : decode cX11_readDeed 76 = .ok (.iconst (-1), 1) := by decide +kernel
theorem dX11_readDeed_77 : decode cX11_readDeed 77 = .ok (.ireturn, 1) := by decide +kernel
theorem dX11_readDeed_78 : decode cX11_readDeed 78 = .ok (.aload_n 0, 1) := by decide +kernel
theorem dX11_readDeed_79 : decode cX11_readDeed 79 = .ok (.getfield 59, 3) := by decide +kernel
theorem dX11_readDeed_82 : decode cX11_readDeed 82 = .ok (.iload_n 1, 1) := by decide +kernel
theorem dX11_readDeed_83 : decode cX11_readDeed 83 = .ok (.iconst 3, 1) := by decide +kernel
theorem dX11_readDeed_84 : decode cX11_readDeed 84 = .ok (.iadd, 1) := by decide +kernel
theorem dX11_readDeed_85 : decode cX11_readDeed 85 = .ok (.iload_n 2, 1) := by decide +kernel
theorem dX11_readDeed_86 : decode cX11_readDeed 86 = .ok (.bipush 19, 2) := by decide +kernel
theorem dX11_readDeed_88 : decode cX11_readDeed 88 = .ok (.if_icmp .ne 15, 3) := by decide +kernel
theorem dX11_readDeed_91 : decode cX11_readDeed 91 = .ok (.aload_n 0, 1) := by decide +kernel
theorem dX11_readDeed_92 : decode cX11_readDeed 92 = .ok (.bipush 20, 2) := by decide +kernel
theorem dX11_readDeed_94 : decode cX11_readDeed 94 = .ok (.iconst 0, 1) := by decide +kernel
theorem dX11_readDeed_95 : decode cX11_readDeed 95 = .ok (.bipush 9, 2) := by decide +kernel
theorem dX11_readDeed_97 : decode cX11_readDeed 97 = .ok (.invokevirtual 255, 3) := by decide +kernel
theorem dX11_readDeed_100 : decode cX11_readDeed 100 = .ok (.goto 20, 3) := by decide +kernel
theorem dX11_readDeed_103 : decode cX11_readDeed 103 = .ok (.iload_n 2, 1) := by decide +kernel
theorem dX11_readDeed_104 : decode cX11_readDeed 104 = .ok (.bipush 23, 2) := by decide +kernel
theorem dX11_readDeed_106 : decode cX11_readDeed 106 = .ok (.if_icmp .ne 13, 3) := by decide +kernel
theorem dX11_readDeed_109 : decode cX11_readDeed 109 = .ok (.aload_n 0, 1) := by decide +kernel
theorem dX11_readDeed_110 : decode cX11_readDeed 110 = .ok (.iconst 1, 1) := by decide +kernel
theorem dX11_readDeed_111 : decode cX11_readDeed 111 = .ok (.bipush 99, 2) := by decide +kernel
theorem dX11_readDeed_113 : decode cX11_readDeed 113 = .ok (.invokevirtual 252, 3) := by decide +kernel
theorem dX11_readDeed_116 : decode cX11_readDeed 116 = .ok (.goto 4, 3) := by decide +kernel
theorem dX11_readDeed_119 : decode cX11_readDeed 119 = .ok (.iconst 0, 1) := by decide +kernel
theorem dX11_readDeed_120 : decode cX11_readDeed 120 = .ok (.iastore, 1) := by decide +kernel
theorem dX11_readDeed_121 : decode cX11_readDeed 121 = .ok (.aload_n 0, 1) := by decide +kernel
theorem dX11_readDeed_122 : decode cX11_readDeed 122 = .ok (.getfield 59, 3) := by decide +kernel
theorem dX11_readDeed_125 : decode cX11_readDeed 125 = .ok (.iload_n 1, 1) := by decide +kernel
theorem dX11_readDeed_126 : decode cX11_readDeed 126 = .ok (.iconst 3, 1) := by decide +kernel
theorem dX11_readDeed_127 : decode cX11_readDeed 127 = .ok (.iadd, 1) := by decide +kernel
theorem dX11_readDeed_128 : decode cX11_readDeed 128 = .ok (.iaload, 1) := by decide +kernel
theorem dX11_readDeed_129 : decode cX11_readDeed 129 = .ok (.ireturn, 1) := by decide +kernel
theorem dX11_readPlanLine_0 : decode cX11_readPlanLine 0 = .ok (.aload_n 0, 1) := by decide +kernel
theorem dX11_readPlanLine_1 : decode cX11_readPlanLine 1 = .ok (.getfield 59, 3) := by decide +kernel
theorem dX11_readPlanLine_4 : decode cX11_readPlanLine 4 = .ok (.iload_n 1, 1) := by decide +kernel
theorem dX11_readPlanLine_5 : decode cX11_readPlanLine 5 = .ok (.aload_n 0, 1) := by decide +kernel
theorem dX11_readPlanLine_6 : decode cX11_readPlanLine 6 = .ok (.bipush 18, 2) := by decide +kernel
theorem dX11_readPlanLine_8 : decode cX11_readPlanLine 8 = .ok (.iconst 0, 1) := by decide +kernel
theorem dX11_readPlanLine_9 : decode cX11_readPlanLine 9 = .ok (.sipush 999, 3) := by decide +kernel
theorem dX11_readPlanLine_12 : decode cX11_readPlanLine 12 = .ok (.invokevirtual 255, 3) := by decide +kernel
theorem dX11_readPlanLine_15 : decode cX11_readPlanLine 15 = .ok (.iastore, 1) := by decide +kernel
theorem dX11_readPlanLine_16 : decode cX11_readPlanLine 16 = .ok (.aload_n 0, 1) := by decide +kernel
theorem dX11_readPlanLine_17 : decode cX11_readPlanLine 17 = .ok (.getfield 59, 3) := by decide +kernel
theorem dX11_readPlanLine_20 : decode cX11_readPlanLine 20 = .ok (.iload_n 1, 1) := by decide +kernel
theorem dX11_readPlanLine_21 : decode cX11_readPlanLine 21 = .ok (.iaload, 1) := by decide +kernel
theorem dX11_readPlanLine_22 : decode cX11_readPlanLine 22 = .ok (.iconst (-1), 1) := by decide +kernel
theorem dX11_readPlanLine_23 : decode cX11_readPlanLine 23 = .ok (.if_icmp .ne 5, 3) := by decide +kernel
theorem dX11_readPlanLine_26 : decode cX11_readPlanLine 26 = .ok (.iconst (-1), 1) := by decide +kernel
theorem dX11_readPlanLine_27 : decode cX11_readPlanLine 27 = .ok (.ireturn, 1) := by decide +kernel
theorem dX11_readPlanLine_28 : decode cX11_readPlanLine 28 = .ok (.aload_n 0, 1) := by decide +kernel
theorem dX11_readPlanLine_29 : decode cX11_readPlanLine 29 = .ok (.getfield 170, 3) := by decide +kernel
theorem dX11_readPlanLine_32 : decode cX11_readPlanLine 32 = .ok (.iconst 2, 1) := by decide +kernel
theorem dX11_readPlanLine_33 : decode cX11_readPlanLine 33 = .ok (.if_icmp .ne 10, 3) := by decide +kernel
theorem dX11_readPlanLine_36 : decode cX11_readPlanLine 36 = .ok (.aload_n 0, 1) := by decide +kernel
theorem dX11_readPlanLine_37 : decode cX11_readPlanLine 37 = .ok (.getfield 173, 3) := by decide +kernel
theorem dX11_readPlanLine_40 : decode cX11_readPlanLine 40 = .ok (.goto 4, 3) := by decide +kernel
theorem dX11_readPlanLine_43 : decode cX11_readPlanLine 43 = .ok (.iconst (-1), 1) := by decide +kernel
theorem dX11_readPlanLine_44 : decode cX11_readPlanLine 44 = .ok (.istore_n 2, 1) := by decide +kernel
theorem dX11_readPlanLine_45 : decode cX11_readPlanLine 45 = .ok (.iload_n 2, 1) := by decide +kernel
theorem dX11_readPlanLine_46 : decode cX11_readPlanLine 46 = .ok (.bipush 19, 2) := by decide +kernel
theorem dX11_readPlanLine_48 : decode cX11_readPlanLine 48 = .ok (.if_icmp .eq 21, 3) := by decide +kernel
theorem dX11_readPlanLine_51 : decode cX11_readPlanLine 51 = .ok (.aload_n 0, 1) := by decide +kernel
theorem dX11_readPlanLine_52 : decode cX11_readPlanLine 52 = .ok (.iload_n 2, 1) := by decide +kernel
theorem dX11_readPlanLine_53 : decode cX11_readPlanLine 53 = .ok (.bipush 21, 2) := by decide +kernel
theorem dX11_readPlanLine_55 : decode cX11_readPlanLine 55 = .ok (.bipush 24, 2) := by decide +kernel
theorem dX11_readPlanLine_57 : decode cX11_readPlanLine 57 = .ok (.invokevirtual 126, 3) := by decide +kernel
theorem dX11_readPlanLine_60 : decode cX11_readPlanLine 60 = .ok (.ifCond .ne 9, 3) := by decide +kernel
theorem dX11_readPlanLine_63 : decode cX11_readPlanLine 63 = .ok (.aload_n 0, 1) := by decide +kernel
theorem dX11_readPlanLine_64 : decode cX11_readPlanLine 64 = .ok (.iconst 1, 1) := by decide +kernel
theorem dX11_readPlanLine_65 : decode cX11_readPlanLine 65 = .ok (.invokevirtual 201, 3) := by decide +kernel
theorem dX11_readPlanLine_68 : decode cX11_readPlanLine 68 = .ok (.ireturn, 1) := by decide +kernel
theorem dX11_readPlanLine_69 : decode cX11_readPlanLine 69 = .ok (.aload_n 0, 1) := by decide +kernel
theorem dX11_readPlanLine_70 : decode cX11_readPlanLine 70 = .ok (.invokevirtual 208, 3) := by decide +kernel
theorem dX11_readPlanLine_73 : decode cX11_readPlanLine 73 = .ok (.aload_n 0, 1) := by decide +kernel
theorem dX11_readPlanLine_74 : decode cX11_readPlanLine 74 = .ok (.getfield 59, 3) := by decide +kernel
theorem dX11_readPlanLine_77 : decode cX11_readPlanLine 77 = .ok (.iload_n 1, 1) := by decide +kernel
theorem dX11_readPlanLine_78 : decode cX11_readPlanLine 78 = .ok (.iconst 1, 1) := by decide +kernel
theorem dX11_readPlanLine_79 : decode cX11_readPlanLine 79 = .ok (.iadd, 1) := by decide +kernel
theorem dX11_readPlanLine_80 : decode cX11_readPlanLine 80 = .ok (.iload_n 2, 1) := by decide +kernel
theorem dX11_readPlanLine_81 : decode cX11_readPlanLine 81 = .ok (.bipush 19, 2) := by decide +kernel
theorem dX11_readPlanLine_83 : decode cX11_readPlanLine 83 = .ok (.if_icmp .ne 7, 3) := by decide +kernel
theorem dX11_readPlanLine_86 : decode cX11_readPlanLine 86 = .ok (.iconst 0, 1) := by decide +kernel
theorem dX11_readPlanLine_87 : decode cX11_readPlanLine 87 = .ok (.goto 9, 3) := by decide +kernel
theorem dX11_readPlanLine_90 : decode cX11_readPlanLine 90 = .ok (.iconst 1, 1) := by decide +kernel
theorem dX11_readPlanLine_91 : decode cX11_readPlanLine 91 = .ok (.iload_n 2, 1) := by decide +kernel
theorem dX11_readPlanLine_92 : decode cX11_readPlanLine 92 = .ok (.iadd, 1) := by decide +kernel
theorem dX11_readPlanLine_93 : decode cX11_readPlanLine 93 = .ok (.bipush 21, 2) := by decide +kernel
theorem dX11_readPlanLine_95 : decode cX11_readPlanLine 95 = .ok (.isub, 1) := by decide +kernel
theorem dX11_readPlanLine_96 : decode cX11_readPlanLine 96 = .ok (.iastore, 1) := by decide +kernel
theorem dX11_readPlanLine_97 : decode cX11_readPlanLine 97 = .ok (.aload_n 0, 1) := by decide +kernel
theorem dX11_readPlanLine_98 : decode cX11_readPlanLine 98 = .ok (.iload_n 1, 1) := by decide +kernel
theorem dX11_readPlanLine_99 : decode cX11_readPlanLine 99 = .ok (.iload_n 2, 1) := by decide +kernel
theorem dX11_readPlanLine_100 : decode cX11_readPlanLine 100 = .ok (.invokevirtual 264, 3) := by decide +kernel
theorem dX11_readPlanLine_103 : decode cX11_readPlanLine 103 = .ok (.iconst (-1), 1) := by decide +kernel
theorem dX11_readPlanLine_104 : decode cX11_readPlanLine 104 = .ok (.if_icmp .ne 7, 3) := by decide +kernel
theorem dX11_readPlanLine_107 : decode cX11_readPlanLine 107 = .ok (.iconst (-1), 1) := by decide +kernel
theorem dX11_readPlanLine_108 : decode cX11_readPlanLine 108 = .ok (.goto 9, 3) := by decide +kernel
theorem dX11_readPlanLine_111 : decode cX11_readPlanLine 111 = .ok (.aload_n 0, 1) := by decide +kernel
theorem dX11_readPlanLine_112 : decode cX11_readPlanLine 112 = .ok (.bipush 59, 2) := by decide +kernel
theorem dX11_readPlanLine_114 : decode cX11_readPlanLine 114 = .ok (.invokevirtual 258, 3) := by decide +kernel
theorem dX11_readPlanLine_117 : decode cX11_readPlanLine 117 = .ok (.ireturn, 1) := by decide +kernel
theorem dX11_readPlan_0 : decode cX11_readPlan 0 = .ok (.iconst 0, 1) := by decide +kernel
theorem dX11_readPlan_1 : decode cX11_readPlan 1 = .ok (.istore_n 1, 1) := by decide +kernel
theorem dX11_readPlan_2 : decode cX11_readPlan 2 = .ok (.aload_n 0, 1) := by decide +kernel
theorem dX11_readPlan_3 : decode cX11_readPlan 3 = .ok (.bipush 18, 2) := by decide +kernel
theorem dX11_readPlan_5 : decode cX11_readPlan 5 = .ok (.invokevirtual 230, 3) := by decide +kernel
theorem dX11_readPlan_8 : decode cX11_readPlan 8 = .ok (.ifCond .eq 38, 3) := by decide +kernel
theorem dX11_readPlan_11 : decode cX11_readPlan 11 = .ok (.iload_n 1, 1) := by decide +kernel
theorem dX11_readPlan_12 : decode cX11_readPlan 12 = .ok (.bipush 16, 2) := by decide +kernel
theorem dX11_readPlan_14 : decode cX11_readPlan 14 = .ok (.if_icmp .ne 9, 3) := by decide +kernel
theorem dX11_readPlan_17 : decode cX11_readPlan 17 = .ok (.aload_n 0, 1) := by decide +kernel
theorem dX11_readPlan_18 : decode cX11_readPlan 18 = .ok (.iconst 3, 1) := by decide +kernel
theorem dX11_readPlan_19 : decode cX11_readPlan 19 = .ok (.invokevirtual 201, 3) := by decide +kernel
theorem dX11_readPlan_22 : decode cX11_readPlan 22 = .ok (.ireturn, 1) := by decide +kernel
theorem dX11_readPlan_23 : decode cX11_readPlan 23 = .ok (.aload_n 0, 1) := by decide +kernel
theorem dX11_readPlan_24 : decode cX11_readPlan 24 = .ok (.bipush 64, 2) := by decide +kernel
theorem dX11_readPlan_26 : decode cX11_readPlan 26 = .ok (.iconst 4, 1) := by decide +kernel
theorem dX11_readPlan_27 : decode cX11_readPlan 27 = .ok (.iload_n 1, 1) := by decide +kernel
theorem dX11_readPlan_28 : decode cX11_readPlan 28 = .ok (.imul, 1) := by decide +kernel
theorem dX11_readPlan_29 : decode cX11_readPlan 29 = .ok (.iadd, 1) := by decide +kernel
theorem dX11_readPlan_30 : decode cX11_readPlan 30 = .ok (.invokevirtual 267, 3) := by decide +kernel
theorem dX11_readPlan_33 : decode cX11_readPlan 33 = .ok (.iconst (-1), 1) := by decide +kernel
theorem dX11_readPlan_34 : decode cX11_readPlan 34 = .ok (.if_icmp .ne 5, 3) := by decide +kernel
theorem dX11_readPlan_37 : decode cX11_readPlan 37 = .ok (.iconst (-1), 1) := by decide +kernel
theorem dX11_readPlan_38 : decode cX11_readPlan 38 = .ok (.ireturn, 1) := by decide +kernel
theorem dX11_readPlan_39 : decode cX11_readPlan 39 = .ok (.iload_n 1, 1) := by decide +kernel
theorem dX11_readPlan_40 : decode cX11_readPlan 40 = .ok (.iconst 1, 1) := by decide +kernel
theorem dX11_readPlan_41 : decode cX11_readPlan 41 = .ok (.iadd, 1) := by decide +kernel
theorem dX11_readPlan_42 : decode cX11_readPlan 42 = .ok (.istore_n 1, 1) := by decide +kernel
theorem dX11_readPlan_43 : decode cX11_readPlan 43 = .ok (.goto (-41), 3) := by decide +kernel
theorem dX11_readPlan_46 : decode cX11_readPlan 46 = .ok (.aload_n 0, 1) := by decide +kernel
theorem dX11_readPlan_47 : decode cX11_readPlan 47 = .ok (.getfield 170, 3) := by decide +kernel
theorem dX11_readPlan_50 : decode cX11_readPlan 50 = .ok (.ifCond .ne 7, 3) := by decide +kernel
theorem dX11_readPlan_53 : decode cX11_readPlan 53 = .ok (.iload_n 1, 1) := by decide +kernel
theorem dX11_readPlan_54 : decode cX11_readPlan 54 = .ok (.goto 8, 3) := by decide +kernel
theorem dX11_readPlan_57 : decode cX11_readPlan 57 = .ok (.aload_n 0, 1) := by decide +kernel
theorem dX11_readPlan_58 : decode cX11_readPlan 58 = .ok (.iconst 1, 1) := by decide +kernel
theorem dX11_readPlan_59 : decode cX11_readPlan 59 = .ok (.invokevirtual 201, 3) := by decide +kernel
theorem dX11_readPlan_62 : decode cX11_readPlan 62 = .ok (.ireturn, 1) := by decide +kernel
theorem dX11_readsText_0 : decode cX11_readsText 0 = .ok (.aload_n 0, 1) := by decide +kernel
theorem dX11_readsText_1 : decode cX11_readsText 1 = .ok (.iconst 0, 1) := by decide +kernel
theorem dX11_readsText_2 : decode cX11_readsText 2 = .ok (.putfield 249, 3) := by decide +kernel
theorem dX11_readsText_5 : decode cX11_readsText 5 = .ok (.aload_n 0, 1) := by decide +kernel
theorem dX11_readsText_6 : decode cX11_readsText 6 = .ok (.invokevirtual 208, 3) := by decide +kernel
theorem dX11_readsText_9 : decode cX11_readsText 9 = .ok (.iload_n 1, 1) := by decide +kernel
theorem dX11_readsText_10 : decode cX11_readsText 10 = .ok (.iconst 1, 1) := by decide +kernel
theorem dX11_readsText_11 : decode cX11_readsText 11 = .ok (.if_icmp .ne 8, 3) := by decide +kernel
theorem dX11_readsText_14 : decode cX11_readsText 14 = .ok (.aload_n 0, 1) := by decide +kernel
theorem dX11_readsText_15 : decode cX11_readsText 15 = .ok (.invokevirtual 270, 3) := by decide +kernel
theorem dX11_readsText_18 : decode cX11_readsText 18 = .ok (.ireturn, 1) := by decide +kernel
theorem dX11_readsText_19 : decode cX11_readsText 19 = .ok (.iload_n 1, 1) := by decide +kernel
theorem dX11_readsText_20 : decode cX11_readsText 20 = .ok (.iconst 2, 1) := by decide +kernel
theorem dX11_readsText_21 : decode cX11_readsText 21 = .ok (.if_icmp .ne 10, 3) := by decide +kernel
theorem dX11_readsText_24 : decode cX11_readsText 24 = .ok (.aload_n 0, 1) := by decide +kernel
theorem dX11_readsText_25 : decode cX11_readsText 25 = .ok (.invokevirtual 273, 3) := by decide +kernel
theorem dX11_readsText_28 : decode cX11_readsText 28 = .ok (.goto 7, 3) := by decide +kernel
theorem dX11_readsText_31 : decode cX11_readsText 31 = .ok (.aload_n 0, 1) := by decide +kernel
theorem dX11_readsText_32 : decode cX11_readsText 32 = .ok (.invokevirtual 276, 3) := by decide +kernel
theorem dX11_readsText_35 : decode cX11_readsText 35 = .ok (.ireturn, 1) := by decide +kernel
theorem dX11_takesOther_0 : decode cX11_takesOther 0 = .ok (.iload_n 1, 1) := by decide +kernel
theorem dX11_takesOther_1 : decode cX11_takesOther 1 = .ok (.iconst 1, 1) := by decide +kernel
theorem dX11_takesOther_2 : decode cX11_takesOther 2 = .ok (.if_icmp .ne 40, 3) := by decide +kernel
theorem dX11_takesOther_5 : decode cX11_takesOther 5 = .ok (.iconst 0, 1) := by decide +kernel
theorem dX11_takesOther_6 : decode cX11_takesOther 6 = .ok (.istore_n 3, 1) := by decide +kernel
theorem dX11_takesOther_7 : decode cX11_takesOther 7 = .ok (.iload_n 3, 1) := by decide +kernel
theorem dX11_takesOther_8 : decode cX11_takesOther 8 = .ok (.bipush 90, 2) := by decide +kernel
theorem dX11_takesOther_10 : decode cX11_takesOther 10 = .ok (.if_icmp .ge 24, 3) := by decide +kernel
theorem dX11_takesOther_13 : decode cX11_takesOther 13 = .ok (.aload_n 0, 1) := by decide +kernel
theorem dX11_takesOther_14 : decode cX11_takesOther 14 = .ok (.getfield 56, 3) := by decide +kernel
theorem dX11_takesOther_17 : decode cX11_takesOther 17 = .ok (.iload_n 3, 1) := by decide +kernel
theorem dX11_takesOther_18 : decode cX11_takesOther 18 = .ok (.aload_n 0, 1) := by decide +kernel
theorem dX11_takesOther_19 : decode cX11_takesOther 19 = .ok (.getfield 56, 3) := by decide +kernel
theorem dX11_takesOther_22 : decode cX11_takesOther 22 = .ok (.bipush 90, 2) := by decide +kernel
theorem dX11_takesOther_24 : decode cX11_takesOther 24 = .ok (.iload_n 3, 1) := by decide +kernel
theorem dX11_takesOther_25 : decode cX11_takesOther 25 = .ok (.iadd, 1) := by decide +kernel
theorem dX11_takesOther_26 : decode cX11_takesOther 26 = .ok (.iaload, 1) := by decide +kernel
theorem dX11_takesOther_27 : decode cX11_takesOther 27 = .ok (.iastore, 1) := by decide +kernel
theorem dX11_takesOther_28 : decode cX11_takesOther 28 = .ok (.iinc 3 1, 3) := by decide +kernel
theorem dX11_takesOther_31 : decode cX11_takesOther 31 = .ok (.goto (-24), 3) := by decide +kernel
theorem dX11_takesOther_34 : decode cX11_takesOther 34 = .ok (.aload_n 0, 1) := by decide +kernel
theorem dX11_takesOther_35 : decode cX11_takesOther 35 = .ok (.iload_n 2, 1) := by decide +kernel
theorem dX11_takesOther_36 : decode cX11_takesOther 36 = .ok (.putfield 279, 3) := by decide +kernel
theorem dX11_takesOther_39 : decode cX11_takesOther 39 = .ok (.goto 38, 3) := by decide +kernel
theorem dX11_takesOther_42 : decode cX11_takesOther 42 = .ok (.iconst 0, 1) := by decide +kernel
theorem dX11_takesOther_43 : decode cX11_takesOther 43 = .ok (.istore_n 3, 1) := by decide +kernel
theorem dX11_takesOther_44 : decode cX11_takesOther 44 = .ok (.iload_n 3, 1) := by decide +kernel
theorem dX11_takesOther_45 : decode cX11_takesOther 45 = .ok (.iconst 4, 1) := by decide +kernel
theorem dX11_takesOther_46 : decode cX11_takesOther 46 = .ok (.iload_n 2, 1) := by decide +kernel
theorem dX11_takesOther_47 : decode cX11_takesOther 47 = .ok (.imul, 1) := by decide +kernel
theorem dX11_takesOther_48 : decode cX11_takesOther 48 = .ok (.if_icmp .ge 24, 3) := by decide +kernel
theorem dX11_takesOther_51 : decode cX11_takesOther 51 = .ok (.aload_n 0, 1) := by decide +kernel
theorem dX11_takesOther_52 : decode cX11_takesOther 52 = .ok (.getfield 59, 3) := by decide +kernel
theorem dX11_takesOther_55 : decode cX11_takesOther 55 = .ok (.iload_n 3, 1) := by decide +kernel
theorem dX11_takesOther_56 : decode cX11_takesOther 56 = .ok (.aload_n 0, 1) := by decide +kernel
theorem dX11_takesOther_57 : decode cX11_takesOther 57 = .ok (.getfield 59, 3) := by decide +kernel
theorem dX11_takesOther_60 : decode cX11_takesOther 60 = .ok (.bipush 64, 2) := by decide +kernel
theorem dX11_takesOther_62 : decode cX11_takesOther 62 = .ok (.iload_n 3, 1) := by decide +kernel
theorem dX11_takesOther_63 : decode cX11_takesOther 63 = .ok (.iadd, 1) := by decide +kernel
theorem dX11_takesOther_64 : decode cX11_takesOther 64 = .ok (.iaload, 1) := by decide +kernel
theorem dX11_takesOther_65 : decode cX11_takesOther 65 = .ok (.iastore, 1) := by decide +kernel
theorem dX11_takesOther_66 : decode cX11_takesOther 66 = .ok (.iinc 3 1, 3) := by decide +kernel
theorem dX11_takesOther_69 : decode cX11_takesOther 69 = .ok (.goto (-25), 3) := by decide +kernel
theorem dX11_takesOther_72 : decode cX11_takesOther 72 = .ok (.aload_n 0, 1) := by decide +kernel
theorem dX11_takesOther_73 : decode cX11_takesOther 73 = .ok (.iload_n 2, 1) := by decide +kernel
theorem dX11_takesOther_74 : decode cX11_takesOther 74 = .ok (.putfield 282, 3) := by decide +kernel
theorem dX11_takesOther_77 : decode cX11_takesOther 77 = .ok (.aload_n 0, 1) := by decide +kernel
theorem dX11_takesOther_78 : decode cX11_takesOther 78 = .ok (.iconst 0, 1) := by decide +kernel
theorem dX11_takesOther_79 : decode cX11_takesOther 79 = .ok (.putfield 89, 3) := by decide +kernel
theorem dX11_takesOther_82 : decode cX11_takesOther 82 = .ok (.return_, 1) := by decide +kernel
theorem dX11_text_0 : decode cX11_text 0 = .ok (.aload_n 0, 1) := by decide +kernel
theorem dX11_text_1 : decode cX11_text 1 = .ok (.iconst 0, 1) := by decide +kernel
theorem dX11_text_2 : decode cX11_text 2 = .ok (.putfield 86, 3) := by decide +kernel
theorem dX11_text_5 : decode cX11_text 5 = .ok (.aload_n 0, 1) := by decide +kernel
theorem dX11_text_6 : decode cX11_text 6 = .ok (.iconst 0, 1) := by decide +kernel
theorem dX11_text_7 : decode cX11_text 7 = .ok (.putfield 285, 3) := by decide +kernel
theorem dX11_text_10 : decode cX11_text 10 = .ok (.aload_n 0, 1) := by decide +kernel
theorem dX11_text_11 : decode cX11_text 11 = .ok (.iconst (-1), 1) := by decide +kernel
theorem dX11_text_12 : decode cX11_text 12 = .ok (.putfield 52, 3) := by decide +kernel
theorem dX11_text_15 : decode cX11_text 15 = .ok (.aload_n 0, 1) := by decide +kernel
theorem dX11_text_16 : decode cX11_text 16 = .ok (.iconst 0, 1) := by decide +kernel
theorem dX11_text_17 : decode cX11_text 17 = .ok (.putfield 160, 3) := by decide +kernel
theorem dX11_text_20 : decode cX11_text 20 = .ok (.aload_n 0, 1) := by decide +kernel
theorem dX11_text_21 : decode cX11_text 21 = .ok (.iconst 0, 1) := by decide +kernel
theorem dX11_text_22 : decode cX11_text 22 = .ok (.putfield 195, 3) := by decide +kernel
theorem dX11_text_25 : decode cX11_text 25 = .ok (.aload_n 0, 1) := by decide +kernel
theorem dX11_text_26 : decode cX11_text 26 = .ok (.iconst 0, 1) := by decide +kernel
theorem dX11_text_27 : decode cX11_text 27 = .ok (.putfield 227, 3) := by decide +kernel
theorem dX11_text_30 : decode cX11_text 30 = .ok (.iconst (-1), 1) := by decide +kernel
theorem dX11_text_31 : decode cX11_text 31 = .ok (.istore_n 2, 1) := by decide +kernel
theorem dX11_text_32 : decode cX11_text 32 = .ok (.aload_n 0, 1) := by decide +kernel
theorem dX11_text_33 : decode cX11_text 33 = .ok (.iload_n 1, 1) := by decide +kernel
theorem dX11_text_34 : decode cX11_text 34 = .ok (.iconst 0, 1) := by decide +kernel
theorem dX11_text_35 : decode cX11_text 35 = .ok (.iconst 2, 1) := by decide +kernel
theorem dX11_text_36 : decode cX11_text 36 = .ok (.invokevirtual 126, 3) := by decide +kernel
theorem dX11_text_39 : decode cX11_text 39 = .ok (.ifCond .eq 30, 3) := by decide +kernel
theorem dX11_text_42 : decode cX11_text 42 = .ok (.aload_n 0, 1) := by decide +kernel
theorem dX11_text_43 : decode cX11_text 43 = .ok (.iload_n 1, 1) := by decide +kernel
theorem dX11_text_44 : decode cX11_text 44 = .ok (.invokevirtual 288, 3) := by decide +kernel
theorem dX11_text_47 : decode cX11_text 47 = .ok (.istore_n 2, 1) := by decide +kernel
theorem dX11_text_48 : decode cX11_text 48 = .ok (.iload_n 2, 1) := by decide +kernel
theorem dX11_text_49 : decode cX11_text 49 = .ok (.iconst (-1), 1) := by decide +kernel
theorem dX11_text_50 : decode cX11_text 50 = .ok (.if_icmp .ne 19, 3) := by decide +kernel
theorem dX11_text_53 : decode cX11_text 53 = .ok (.aload_n 0, 1) := by decide +kernel
theorem dX11_text_54 : decode cX11_text 54 = .ok (.aload_n 0, 1) := by decide +kernel
theorem dX11_text_55 : decode cX11_text 55 = .ok (.getfield 189, 3) := by decide +kernel
theorem dX11_text_58 : decode cX11_text 58 = .ok (.putfield 285, 3) := by decide +kernel
theorem dX11_text_61 : decode cX11_text 61 = .ok (.aload_n 0, 1) := by decide +kernel
theorem dX11_text_62 : decode cX11_text 62 = .ok (.aload_n 0, 1) := by decide +kernel
theorem dX11_text_63 : decode cX11_text 63 = .ok (.getfield 192, 3) := by decide +kernel
theorem dX11_text_66 : decode cX11_text 66 = .ok (.putfield 52, 3) := by decide +kernel
theorem dX11_text_69 : decode cX11_text 69 = .ok (.aload_n 0, 1) := by decide +kernel
theorem dX11_text_70 : decode cX11_text 70 = .ok (.iconst 0, 1) := by decide +kernel
theorem dX11_text_71 : decode cX11_text 71 = .ok (.putfield 153, 3) := by decide +kernel
theorem dX11_text_74 : decode cX11_text 74 = .ok (.iload_n 2, 1) := by decide +kernel
theorem dX11_text_75 : decode cX11_text 75 = .ok (.iconst (-1), 1) := by decide +kernel
theorem dX11_text_76 : decode cX11_text 76 = .ok (.if_icmp .ne 5, 3) := by decide +kernel
theorem dX11_text_79 : decode cX11_text 79 = .ok (.iconst (-1), 1) := by decide +kernel
theorem dX11_text_80 : decode cX11_text 80 = .ok (.ireturn, 1) := by decide +kernel
theorem dX11_text_81 : decode cX11_text 81 = .ok (.iload_n 1, 1) := by decide +kernel
theorem dX11_text_82 : decode cX11_text 82 = .ok (.ifCond .ne 11, 3) := by decide +kernel
theorem dX11_text_85 : decode cX11_text 85 = .ok (.aload_n 0, 1) := by decide +kernel
theorem dX11_text_86 : decode cX11_text 86 = .ok (.iload_n 2, 1) := by decide +kernel
theorem dX11_text_87 : decode cX11_text 87 = .ok (.invokevirtual 291, 3) := by decide +kernel
theorem dX11_text_90 : decode cX11_text 90 = .ok (.goto 9, 3) := by decide +kernel
theorem dX11_text_93 : decode cX11_text 93 = .ok (.aload_n 0, 1) := by decide +kernel
theorem dX11_text_94 : decode cX11_text 94 = .ok (.iload_n 1, 1) := by decide +kernel
theorem dX11_text_95 : decode cX11_text 95 = .ok (.iload_n 2, 1) := by decide +kernel
theorem dX11_text_96 : decode cX11_text 96 = .ok (.invokevirtual 294, 3) := by decide +kernel
theorem dX11_text_99 : decode cX11_text 99 = .ok (.iload_n 2, 1) := by decide +kernel
theorem dX11_text_100 : decode cX11_text 100 = .ok (.ireturn, 1) := by decide +kernel
theorem dX11_fault_0 : decode cX11_fault 0 = .ok (.aload_n 0, 1) := by decide +kernel
theorem dX11_fault_1 : decode cX11_fault 1 = .ok (.iconst 0, 1) := by decide +kernel
theorem dX11_fault_2 : decode cX11_fault 2 = .ok (.putfield 86, 3) := by decide +kernel
theorem dX11_fault_5 : decode cX11_fault 5 = .ok (.iload_n 1, 1) := by decide +kernel
theorem dX11_fault_6 : decode cX11_fault 6 = .ok (.ifCond .ne 10, 3) := by decide +kernel
theorem dX11_fault_9 : decode cX11_fault 9 = .ok (.aload_n 0, 1) := by decide +kernel
theorem dX11_fault_10 : decode cX11_fault 10 = .ok (.getfield 285, 3) := by decide +kernel
theorem dX11_fault_13 : decode cX11_fault 13 = .ok (.goto 16, 3) := by decide +kernel
theorem dX11_fault_16 : decode cX11_fault 16 = .ok (.iload_n 1, 1) := by decide +kernel
theorem dX11_fault_17 : decode cX11_fault 17 = .ok (.iconst 1, 1) := by decide +kernel
theorem dX11_fault_18 : decode cX11_fault 18 = .ok (.if_icmp .ne 10, 3) := by decide +kernel
theorem dX11_fault_21 : decode cX11_fault 21 = .ok (.aload_n 0, 1) := by decide +kernel
theorem dX11_fault_22 : decode cX11_fault 22 = .ok (.getfield 52, 3) := by decide +kernel
theorem dX11_fault_25 : decode cX11_fault 25 = .ok (.goto 4, 3) := by decide +kernel
theorem dX11_fault_28 : decode cX11_fault 28 = .ok (.iconst (-1), 1) := by decide +kernel
theorem dX11_fault_29 : decode cX11_fault 29 = .ok (.ireturn, 1) := by decide +kernel
theorem dX11_twoOf_0 : decode cX11_twoOf 0 = .ok (.iload_n 1, 1) := by decide +kernel
theorem dX11_twoOf_1 : decode cX11_twoOf 1 = .ok (.iconst 2, 1) := by decide +kernel
theorem dX11_twoOf_2 : decode cX11_twoOf 2 = .ok (.if_icmp .ne 7, 3) := by decide +kernel
theorem dX11_twoOf_5 : decode cX11_twoOf 5 = .ok (.iload_n 2, 1) := by decide +kernel
theorem dX11_twoOf_6 : decode cX11_twoOf 6 = .ok (.iload_n 3, 1) := by decide +kernel
theorem dX11_twoOf_7 : decode cX11_twoOf 7 = .ok (.iadd, 1) := by decide +kernel
theorem dX11_twoOf_8 : decode cX11_twoOf 8 = .ok (.ireturn, 1) := by decide +kernel
theorem dX11_twoOf_9 : decode cX11_twoOf 9 = .ok (.iload_n 1, 1) := by decide +kernel
theorem dX11_twoOf_10 : decode cX11_twoOf 10 = .ok (.iconst 3, 1) := by decide +kernel
theorem dX11_twoOf_11 : decode cX11_twoOf 11 = .ok (.if_icmp .ne 7, 3) := by decide +kernel
theorem dX11_twoOf_14 : decode cX11_twoOf 14 = .ok (.iload_n 2, 1) := by decide +kernel
theorem dX11_twoOf_15 : decode cX11_twoOf 15 = .ok (.iload_n 3, 1) := by decide +kernel
theorem dX11_twoOf_16 : decode cX11_twoOf 16 = .ok (.isub, 1) := by decide +kernel
theorem dX11_twoOf_17 : decode cX11_twoOf 17 = .ok (.ireturn, 1) := by decide +kernel
theorem dX11_twoOf_18 : decode cX11_twoOf 18 = .ok (.iload_n 1, 1) := by decide +kernel
theorem dX11_twoOf_19 : decode cX11_twoOf 19 = .ok (.iconst 4, 1) := by decide +kernel
theorem dX11_twoOf_20 : decode cX11_twoOf 20 = .ok (.if_icmp .ne 7, 3) := by decide +kernel
theorem dX11_twoOf_23 : decode cX11_twoOf 23 = .ok (.iload_n 2, 1) := by decide +kernel
theorem dX11_twoOf_24 : decode cX11_twoOf 24 = .ok (.iload_n 3, 1) := by decide +kernel
theorem dX11_twoOf_25 : decode cX11_twoOf 25 = .ok (.imul, 1) := by decide +kernel
theorem dX11_twoOf_26 : decode cX11_twoOf 26 = .ok (.ireturn, 1) := by decide +kernel
theorem dX11_twoOf_27 : decode cX11_twoOf 27 = .ok (.iload_n 1, 1) := by decide +kernel
theorem dX11_twoOf_28 : decode cX11_twoOf 28 = .ok (.iconst 5, 1) := by decide +kernel
theorem dX11_twoOf_29 : decode cX11_twoOf 29 = .ok (.if_icmp .ne 7, 3) := by decide +kernel
theorem dX11_twoOf_32 : decode cX11_twoOf 32 = .ok (.iload_n 2, 1) := by decide +kernel
theorem dX11_twoOf_33 : decode cX11_twoOf 33 = .ok (.iload_n 3, 1) := by decide +kernel
theorem dX11_twoOf_34 : decode cX11_twoOf 34 = .ok (.idiv, 1) := by decide +kernel
theorem dX11_twoOf_35 : decode cX11_twoOf 35 = .ok (.ireturn, 1) := by decide +kernel
theorem dX11_twoOf_36 : decode cX11_twoOf 36 = .ok (.iload_n 1, 1) := by decide +kernel
theorem dX11_twoOf_37 : decode cX11_twoOf 37 = .ok (.bipush 6, 2) := by decide +kernel
theorem dX11_twoOf_39 : decode cX11_twoOf 39 = .ok (.if_icmp .ne 14, 3) := by decide +kernel
theorem dX11_twoOf_42 : decode cX11_twoOf 42 = .ok (.iload_n 2, 1) := by decide +kernel
theorem dX11_twoOf_43 : decode cX11_twoOf 43 = .ok (.iload_n 3, 1) := by decide +kernel
theorem dX11_twoOf_44 : decode cX11_twoOf 44 = .ok (.if_icmp .ge 7, 3) := by decide +kernel
theorem dX11_twoOf_47 : decode cX11_twoOf 47 = .ok (.iconst 1, 1) := by decide +kernel
theorem dX11_twoOf_48 : decode cX11_twoOf 48 = .ok (.goto 4, 3) := by decide +kernel
theorem dX11_twoOf_51 : decode cX11_twoOf 51 = .ok (.iconst 0, 1) := by decide +kernel
theorem dX11_twoOf_52 : decode cX11_twoOf 52 = .ok (.ireturn, 1) := by decide +kernel
theorem dX11_twoOf_53 : decode cX11_twoOf 53 = .ok (.iload_n 1, 1) := by decide +kernel
theorem dX11_twoOf_54 : decode cX11_twoOf 54 = .ok (.bipush 7, 2) := by decide +kernel
theorem dX11_twoOf_56 : decode cX11_twoOf 56 = .ok (.if_icmp .ne 14, 3) := by decide +kernel
theorem dX11_twoOf_59 : decode cX11_twoOf 59 = .ok (.iload_n 2, 1) := by decide +kernel
theorem dX11_twoOf_60 : decode cX11_twoOf 60 = .ok (.iload_n 3, 1) := by decide +kernel
theorem dX11_twoOf_61 : decode cX11_twoOf 61 = .ok (.if_icmp .ne 7, 3) := by decide +kernel
theorem dX11_twoOf_64 : decode cX11_twoOf 64 = .ok (.iconst 1, 1) := by decide +kernel
theorem dX11_twoOf_65 : decode cX11_twoOf 65 = .ok (.goto 4, 3) := by decide +kernel
theorem dX11_twoOf_68 : decode cX11_twoOf 68 = .ok (.iconst 0, 1) := by decide +kernel
theorem dX11_twoOf_69 : decode cX11_twoOf 69 = .ok (.ireturn, 1) := by decide +kernel
theorem dX11_twoOf_70 : decode cX11_twoOf 70 = .ok (.iload_n 1, 1) := by decide +kernel
theorem dX11_twoOf_71 : decode cX11_twoOf 71 = .ok (.bipush 8, 2) := by decide +kernel
theorem dX11_twoOf_73 : decode cX11_twoOf 73 = .ok (.if_icmp .ne 14, 3) := by decide +kernel
theorem dX11_twoOf_76 : decode cX11_twoOf 76 = .ok (.iload_n 2, 1) := by decide +kernel
theorem dX11_twoOf_77 : decode cX11_twoOf 77 = .ok (.iload_n 3, 1) := by decide +kernel
theorem dX11_twoOf_78 : decode cX11_twoOf 78 = .ok (.if_icmp .le 7, 3) := by decide +kernel
theorem dX11_twoOf_81 : decode cX11_twoOf 81 = .ok (.iconst 1, 1) := by decide +kernel
theorem dX11_twoOf_82 : decode cX11_twoOf 82 = .ok (.goto 4, 3) := by decide +kernel
theorem dX11_twoOf_85 : decode cX11_twoOf 85 = .ok (.iconst 0, 1) := by decide +kernel
theorem dX11_twoOf_86 : decode cX11_twoOf 86 = .ok (.ireturn, 1) := by decide +kernel
theorem dX11_twoOf_87 : decode cX11_twoOf 87 = .ok (.iload_n 1, 1) := by decide +kernel
theorem dX11_twoOf_88 : decode cX11_twoOf 88 = .ok (.bipush 10, 2) := by decide +kernel
theorem dX11_twoOf_90 : decode cX11_twoOf 90 = .ok (.if_icmp .ne 9, 3) := by decide +kernel
theorem dX11_twoOf_93 : decode cX11_twoOf 93 = .ok (.iload_n 2, 1) := by decide +kernel
theorem dX11_twoOf_94 : decode cX11_twoOf 94 = .ok (.iload_n 3, 1) := by decide +kernel
theorem dX11_twoOf_95 : decode cX11_twoOf 95 = .ok (.imul, 1) := by decide +kernel
theorem dX11_twoOf_96 : decode cX11_twoOf 96 = .ok (.goto 14, 3) := by decide +kernel
theorem dX11_twoOf_99 : decode cX11_twoOf 99 = .ok (.iload_n 2, 1) := by decide +kernel
theorem dX11_twoOf_100 : decode cX11_twoOf 100 = .ok (.iload_n 3, 1) := by decide +kernel
theorem dX11_twoOf_101 : decode cX11_twoOf 101 = .ok (.iadd, 1) := by decide +kernel
theorem dX11_twoOf_102 : decode cX11_twoOf 102 = .ok (.ifCond .le 7, 3) := by decide +kernel
theorem dX11_twoOf_105 : decode cX11_twoOf 105 = .ok (.iconst 1, 1) := by decide +kernel
theorem dX11_twoOf_106 : decode cX11_twoOf 106 = .ok (.goto 4, 3) := by decide +kernel
theorem dX11_twoOf_109 : decode cX11_twoOf 109 = .ok (.iconst 0, 1) := by decide +kernel
theorem dX11_twoOf_110 : decode cX11_twoOf 110 = .ok (.ireturn, 1) := by decide +kernel
theorem dX11_runs_0 : decode cX11_runs 0 = .ok (.iconst 0, 1) := by decide +kernel
theorem dX11_runs_1 : decode cX11_runs 1 = .ok (.istore 4, 2) := by decide +kernel
theorem dX11_runs_3 : decode cX11_runs 3 = .ok (.sipush 400, 3) := by decide +kernel
theorem dX11_runs_6 : decode cX11_runs 6 = .ok (.iload_n 1, 1) := by decide +kernel
theorem dX11_runs_7 : decode cX11_runs 7 = .ok (.imul, 1) := by decide +kernel
theorem dX11_runs_8 : decode cX11_runs 8 = .ok (.iload_n 2, 1) := by decide +kernel
theorem dX11_runs_9 : decode cX11_runs 9 = .ok (.iadd, 1) := by decide +kernel
theorem dX11_runs_10 : decode cX11_runs 10 = .ok (.istore 5, 2) := by decide +kernel
theorem dX11_runs_12 : decode cX11_runs 12 = .ok (.iload 5, 2) := by decide +kernel
theorem dX11_runs_14 : decode cX11_runs 14 = .ok (.sipush 400, 3) := by decide +kernel
theorem dX11_runs_17 : decode cX11_runs 17 = .ok (.iload_n 1, 1) := by decide +kernel
theorem dX11_runs_18 : decode cX11_runs 18 = .ok (.imul, 1) := by decide +kernel
theorem dX11_runs_19 : decode cX11_runs 19 = .ok (.iload_n 3, 1) := by decide +kernel
theorem dX11_runs_20 : decode cX11_runs 20 = .ok (.iadd, 1) := by decide +kernel
theorem dX11_runs_21 : decode cX11_runs 21 = .ok (.if_icmp .ge 155, 3) := by decide +kernel
theorem dX11_runs_24 : decode cX11_runs 24 = .ok (.aload_n 0, 1) := by decide +kernel
theorem dX11_runs_25 : decode cX11_runs 25 = .ok (.getfield 43, 3) := by decide +kernel
theorem dX11_runs_28 : decode cX11_runs 28 = .ok (.iload 5, 2) := by decide +kernel
theorem dX11_runs_30 : decode cX11_runs 30 = .ok (.iaload, 1) := by decide +kernel
theorem dX11_runs_31 : decode cX11_runs 31 = .ok (.ifCond .eq 14, 3) := by decide +kernel
theorem dX11_runs_34 : decode cX11_runs 34 = .ok (.aload_n 0, 1) := by decide +kernel
theorem dX11_runs_35 : decode cX11_runs 35 = .ok (.getfield 43, 3) := by decide +kernel
theorem dX11_runs_38 : decode cX11_runs 38 = .ok (.iload 5, 2) := by decide +kernel
theorem dX11_runs_40 : decode cX11_runs 40 = .ok (.iaload, 1) := by decide +kernel
theorem dX11_runs_41 : decode cX11_runs 41 = .ok (.iconst 1, 1) := by decide +kernel
theorem dX11_runs_42 : decode cX11_runs 42 = .ok (.if_icmp .ne 51, 3) := by decide +kernel
theorem dX11_runs_45 : decode cX11_runs 45 = .ok (.aload_n 0, 1) := by decide +kernel
theorem dX11_runs_46 : decode cX11_runs 46 = .ok (.getfield 65, 3) := by decide +kernel
theorem dX11_runs_49 : decode cX11_runs 49 = .ok (.iload 4, 2) := by decide +kernel
theorem dX11_runs_51 : decode cX11_runs 51 = .ok (.aload_n 0, 1) := by decide +kernel
theorem dX11_runs_52 : decode cX11_runs 52 = .ok (.getfield 43, 3) := by decide +kernel
theorem dX11_runs_55 : decode cX11_runs 55 = .ok (.iload 5, 2) := by decide +kernel
theorem dX11_runs_57 : decode cX11_runs 57 = .ok (.iaload, 1) := by decide +kernel
theorem dX11_runs_58 : decode cX11_runs 58 = .ok (.ifCond .ne 13, 3) := by decide +kernel
theorem dX11_runs_61 : decode cX11_runs 61 = .ok (.aload_n 0, 1) := by decide +kernel
theorem dX11_runs_62 : decode cX11_runs 62 = .ok (.getfield 46, 3) := by decide +kernel
theorem dX11_runs_65 : decode cX11_runs 65 = .ok (.iload 5, 2) := by decide +kernel
theorem dX11_runs_67 : decode cX11_runs 67 = .ok (.iaload, 1) := by decide +kernel
theorem dX11_runs_68 : decode cX11_runs 68 = .ok (.goto 15, 3) := by decide +kernel
theorem dX11_runs_71 : decode cX11_runs 71 = .ok (.aload_n 0, 1) := by decide +kernel
theorem dX11_runs_72 : decode cX11_runs 72 = .ok (.getfield 62, 3) := by decide +kernel
theorem dX11_runs_75 : decode cX11_runs 75 = .ok (.aload_n 0, 1) := by decide +kernel
theorem dX11_runs_76 : decode cX11_runs 76 = .ok (.getfield 46, 3) := by decide +kernel
theorem dX11_runs_79 : decode cX11_runs 79 = .ok (.iload 5, 2) := by decide +kernel
theorem dX11_runs_81 : decode cX11_runs 81 = .ok (.iaload, 1) := by decide +kernel
theorem dX11_runs_82 : decode cX11_runs 82 = .ok (.iaload, 1) := by decide +kernel
theorem dX11_runs_83 : decode cX11_runs 83 = .ok (.iastore, 1) := by decide +kernel
theorem dX11_runs_84 : decode cX11_runs 84 = .ok (.iload 4, 2) := by decide +kernel
theorem dX11_runs_86 : decode cX11_runs 86 = .ok (.iconst 1, 1) := by decide +kernel
theorem dX11_runs_87 : decode cX11_runs 87 = .ok (.iadd, 1) := by decide +kernel
theorem dX11_runs_88 : decode cX11_runs 88 = .ok (.istore 4, 2) := by decide +kernel
theorem dX11_runs_90 : decode cX11_runs 90 = .ok (.goto 80, 3) := by decide +kernel
theorem dX11_runs_93 : decode cX11_runs 93 = .ok (.aload_n 0, 1) := by decide +kernel
theorem dX11_runs_94 : decode cX11_runs 94 = .ok (.getfield 43, 3) := by decide +kernel
theorem dX11_runs_97 : decode cX11_runs 97 = .ok (.iload 5, 2) := by decide +kernel
theorem dX11_runs_99 : decode cX11_runs 99 = .ok (.iaload, 1) := by decide +kernel
theorem dX11_runs_100 : decode cX11_runs 100 = .ok (.bipush 9, 2) := by decide +kernel
theorem dX11_runs_102 : decode cX11_runs 102 = .ok (.if_icmp .ne 26, 3) := by decide +kernel
theorem dX11_runs_105 : decode cX11_runs 105 = .ok (.aload_n 0, 1) := by decide +kernel
theorem dX11_runs_106 : decode cX11_runs 106 = .ok (.getfield 65, 3) := by decide +kernel
theorem dX11_runs_109 : decode cX11_runs 109 = .ok (.iload 4, 2) := by decide +kernel
theorem dX11_runs_111 : decode cX11_runs 111 = .ok (.iconst 1, 1) := by decide +kernel
theorem dX11_runs_112 : decode cX11_runs 112 = .ok (.isub, 1) := by decide +kernel
theorem dX11_runs_113 : decode cX11_runs 113 = .ok (.iconst 1, 1) := by decide +kernel
theorem dX11_runs_114 : decode cX11_runs 114 = .ok (.aload_n 0, 1) := by decide +kernel
theorem dX11_runs_115 : decode cX11_runs 115 = .ok (.getfield 65, 3) := by decide +kernel
theorem dX11_runs_118 : decode cX11_runs 118 = .ok (.iload 4, 2) := by decide +kernel
theorem dX11_runs_120 : decode cX11_runs 120 = .ok (.iconst 1, 1) := by decide +kernel
theorem dX11_runs_121 : decode cX11_runs 121 = .ok (.isub, 1) := by decide +kernel
theorem dX11_runs_122 : decode cX11_runs 122 = .ok (.iaload, 1) := by decide +kernel
theorem dX11_runs_123 : decode cX11_runs 123 = .ok (.isub, 1) := by decide +kernel
theorem dX11_runs_124 : decode cX11_runs 124 = .ok (.iastore, 1) := by decide +kernel
theorem dX11_runs_125 : decode cX11_runs 125 = .ok (.goto 45, 3) := by decide +kernel
theorem dX11_runs_128 : decode cX11_runs 128 = .ok (.iload 4, 2) := by decide +kernel
theorem dX11_runs_130 : decode cX11_runs 130 = .ok (.iconst 1, 1) := by decide +kernel
theorem dX11_runs_131 : decode cX11_runs 131 = .ok (.isub, 1) := by decide +kernel
theorem dX11_runs_132 : decode cX11_runs 132 = .ok (.istore 4, 2) := by decide +kernel
theorem dX11_runs_134 : decode cX11_runs 134 = .ok (.aload_n 0, 1) := by decide +kernel
theorem dX11_runs_135 : decode cX11_runs 135 = .ok (.getfield 65, 3) := by decide +kernel
theorem dX11_runs_138 : decode cX11_runs 138 = .ok (.iload 4, 2) := by decide +kernel
theorem dX11_runs_140 : decode cX11_runs 140 = .ok (.iconst 1, 1) := by decide +kernel
theorem dX11_runs_141 : decode cX11_runs 141 = .ok (.isub, 1) := by decide +kernel
theorem dX11_runs_142 : decode cX11_runs 142 = .ok (.aload_n 0, 1) := by decide +kernel
theorem dX11_runs_143 : decode cX11_runs 143 = .ok (.aload_n 0, 1) := by decide +kernel
theorem dX11_runs_144 : decode cX11_runs 144 = .ok (.getfield 43, 3) := by decide +kernel
theorem dX11_runs_147 : decode cX11_runs 147 = .ok (.iload 5, 2) := by decide +kernel
theorem dX11_runs_149 : decode cX11_runs 149 = .ok (.iaload, 1) := by decide +kernel
theorem dX11_runs_150 : decode cX11_runs 150 = .ok (.aload_n 0, 1) := by decide +kernel
theorem dX11_runs_151 : decode cX11_runs 151 = .ok (.getfield 65, 3) := by decide +kernel
theorem dX11_runs_154 : decode cX11_runs 154 = .ok (.iload 4, 2) := by decide +kernel
theorem dX11_runs_156 : decode cX11_runs 156 = .ok (.iconst 1, 1) := by decide +kernel
theorem dX11_runs_157 : decode cX11_runs 157 = .ok (.isub, 1) := by decide +kernel
theorem dX11_runs_158 : decode cX11_runs 158 = .ok (.iaload, 1) := by decide +kernel
theorem dX11_runs_159 : decode cX11_runs 159 = .ok (.aload_n 0, 1) := by decide +kernel
theorem dX11_runs_160 : decode cX11_runs 160 = .ok (.getfield 65, 3) := by decide +kernel
theorem dX11_runs_163 : decode cX11_runs 163 = .ok (.iload 4, 2) := by decide +kernel
theorem dX11_runs_165 : decode cX11_runs 165 = .ok (.iaload, 1) := by decide +kernel
theorem dX11_runs_166 : decode cX11_runs 166 = .ok (.invokevirtual 297, 3) := by decide +kernel
theorem dX11_runs_169 : decode cX11_runs 169 = .ok (.iastore, 1) := by decide +kernel
theorem dX11_runs_170 : decode cX11_runs 170 = .ok (.iinc 5 1, 3) := by decide +kernel
theorem dX11_runs_173 : decode cX11_runs 173 = .ok (.goto (-161), 3) := by decide +kernel
theorem dX11_runs_176 : decode cX11_runs 176 = .ok (.aload_n 0, 1) := by decide +kernel
theorem dX11_runs_177 : decode cX11_runs 177 = .ok (.getfield 65, 3) := by decide +kernel
theorem dX11_runs_180 : decode cX11_runs 180 = .ok (.iconst 0, 1) := by decide +kernel
theorem dX11_runs_181 : decode cX11_runs 181 = .ok (.iaload, 1) := by decide +kernel
theorem dX11_runs_182 : decode cX11_runs 182 = .ok (.ireturn, 1) := by decide +kernel
theorem dX11_lineOf_0 : decode cX11_lineOf 0 = .ok (.iconst 0, 1) := by decide +kernel
theorem dX11_lineOf_1 : decode cX11_lineOf 1 = .ok (.istore_n 2, 1) := by decide +kernel
theorem dX11_lineOf_2 : decode cX11_lineOf 2 = .ok (.iload_n 2, 1) := by decide +kernel
theorem dX11_lineOf_3 : decode cX11_lineOf 3 = .ok (.aload_n 0, 1) := by decide +kernel
theorem dX11_lineOf_4 : decode cX11_lineOf 4 = .ok (.getfield 28, 3) := by decide +kernel
theorem dX11_lineOf_7 : decode cX11_lineOf 7 = .ok (.iconst 0, 1) := by decide +kernel
theorem dX11_lineOf_8 : decode cX11_lineOf 8 = .ok (.iaload, 1) := by decide +kernel
theorem dX11_lineOf_9 : decode cX11_lineOf 9 = .ok (.if_icmp .ge 56, 3) := by decide +kernel
theorem dX11_lineOf_12 : decode cX11_lineOf 12 = .ok (.aload_n 0, 1) := by decide +kernel
theorem dX11_lineOf_13 : decode cX11_lineOf 13 = .ok (.getfield 31, 3) := by decide +kernel
theorem dX11_lineOf_16 : decode cX11_lineOf 16 = .ok (.iload_n 2, 1) := by decide +kernel
theorem dX11_lineOf_17 : decode cX11_lineOf 17 = .ok (.iaload, 1) := by decide +kernel
theorem dX11_lineOf_18 : decode cX11_lineOf 18 = .ok (.iload_n 1, 1) := by decide +kernel
theorem dX11_lineOf_19 : decode cX11_lineOf 19 = .ok (.if_icmp .ne 40, 3) := by decide +kernel
theorem dX11_lineOf_22 : decode cX11_lineOf 22 = .ok (.aload_n 0, 1) := by decide +kernel
theorem dX11_lineOf_23 : decode cX11_lineOf 23 = .ok (.getfield 37, 3) := by decide +kernel
theorem dX11_lineOf_26 : decode cX11_lineOf 26 = .ok (.iload_n 2, 1) := by decide +kernel
theorem dX11_lineOf_27 : decode cX11_lineOf 27 = .ok (.iaload, 1) := by decide +kernel
theorem dX11_lineOf_28 : decode cX11_lineOf 28 = .ok (.aload_n 0, 1) := by decide +kernel
theorem dX11_lineOf_29 : decode cX11_lineOf 29 = .ok (.getfield 40, 3) := by decide +kernel
theorem dX11_lineOf_32 : decode cX11_lineOf 32 = .ok (.iload_n 2, 1) := by decide +kernel
theorem dX11_lineOf_33 : decode cX11_lineOf 33 = .ok (.iaload, 1) := by decide +kernel
theorem dX11_lineOf_34 : decode cX11_lineOf 34 = .ok (.if_icmp .eq 23, 3) := by decide +kernel
theorem dX11_lineOf_37 : decode cX11_lineOf 37 = .ok (.aload_n 0, 1) := by decide +kernel
theorem dX11_lineOf_38 : decode cX11_lineOf 38 = .ok (.iconst 0, 1) := by decide +kernel
theorem dX11_lineOf_39 : decode cX11_lineOf 39 = .ok (.aload_n 0, 1) := by decide +kernel
theorem dX11_lineOf_40 : decode cX11_lineOf 40 = .ok (.getfield 37, 3) := by decide +kernel
theorem dX11_lineOf_43 : decode cX11_lineOf 43 = .ok (.iload_n 2, 1) := by decide +kernel
theorem dX11_lineOf_44 : decode cX11_lineOf 44 = .ok (.iaload, 1) := by decide +kernel
theorem dX11_lineOf_45 : decode cX11_lineOf 45 = .ok (.aload_n 0, 1) := by decide +kernel
theorem dX11_lineOf_46 : decode cX11_lineOf 46 = .ok (.getfield 40, 3) := by decide +kernel
theorem dX11_lineOf_49 : decode cX11_lineOf 49 = .ok (.iload_n 2, 1) := by decide +kernel
theorem dX11_lineOf_50 : decode cX11_lineOf 50 = .ok (.iaload, 1) := by decide +kernel
theorem dX11_lineOf_51 : decode cX11_lineOf 51 = .ok (.invokevirtual 300, 3) := by decide +kernel
theorem dX11_lineOf_54 : decode cX11_lineOf 54 = .ok (.ifCond .eq 5, 3) := by decide +kernel
theorem dX11_lineOf_57 : decode cX11_lineOf 57 = .ok (.iload_n 2, 1) := by decide +kernel
theorem dX11_lineOf_58 : decode cX11_lineOf 58 = .ok (.ireturn, 1) := by decide +kernel
theorem dX11_lineOf_59 : decode cX11_lineOf 59 = .ok (.iinc 2 1, 3) := by decide +kernel
theorem dX11_lineOf_62 : decode cX11_lineOf 62 = .ok (.goto (-60), 3) := by decide +kernel
theorem dX11_lineOf_65 : decode cX11_lineOf 65 = .ok (.iconst (-1), 1) := by decide +kernel
theorem dX11_lineOf_66 : decode cX11_lineOf 66 = .ok (.ireturn, 1) := by decide +kernel
theorem dX11_asks_0 : decode cX11_asks 0 = .ok (.aload_n 0, 1) := by decide +kernel
theorem dX11_asks_1 : decode cX11_asks 1 = .ok (.getfield 62, 3) := by decide +kernel
theorem dX11_asks_4 : decode cX11_asks 4 = .ok (.iconst 0, 1) := by decide +kernel
theorem dX11_asks_5 : decode cX11_asks 5 = .ok (.aload_n 0, 1) := by decide +kernel
theorem dX11_asks_6 : decode cX11_asks 6 = .ok (.getfield 7, 3) := by decide +kernel
theorem dX11_asks_9 : decode cX11_asks 9 = .ok (.iconst 0, 1) := by decide +kernel
theorem dX11_asks_10 : decode cX11_asks 10 = .ok (.iaload, 1) := by decide +kernel
theorem dX11_asks_11 : decode cX11_asks 11 = .ok (.bipush 52, 2) := by decide +kernel
theorem dX11_asks_13 : decode cX11_asks 13 = .ok (.irem, 1) := by decide +kernel
theorem dX11_asks_14 : decode cX11_asks 14 = .ok (.iastore, 1) := by decide +kernel
theorem dX11_asks_15 : decode cX11_asks 15 = .ok (.aload_n 0, 1) := by decide +kernel
theorem dX11_asks_16 : decode cX11_asks 16 = .ok (.getfield 62, 3) := by decide +kernel
theorem dX11_asks_19 : decode cX11_asks 19 = .ok (.iconst 1, 1) := by decide +kernel
theorem dX11_asks_20 : decode cX11_asks 20 = .ok (.iload_n 1, 1) := by decide +kernel
theorem dX11_asks_21 : decode cX11_asks 21 = .ok (.iastore, 1) := by decide +kernel
theorem dX11_asks_22 : decode cX11_asks 22 = .ok (.aload_n 0, 1) := by decide +kernel
theorem dX11_asks_23 : decode cX11_asks 23 = .ok (.getfield 62, 3) := by decide +kernel
theorem dX11_asks_26 : decode cX11_asks 26 = .ok (.iconst 2, 1) := by decide +kernel
theorem dX11_asks_27 : decode cX11_asks 27 = .ok (.iload_n 2, 1) := by decide +kernel
theorem dX11_asks_28 : decode cX11_asks 28 = .ok (.iastore, 1) := by decide +kernel
theorem dX11_asks_29 : decode cX11_asks 29 = .ok (.aload_n 0, 1) := by decide +kernel
theorem dX11_asks_30 : decode cX11_asks 30 = .ok (.getfield 62, 3) := by decide +kernel
theorem dX11_asks_33 : decode cX11_asks 33 = .ok (.iconst 3, 1) := by decide +kernel
theorem dX11_asks_34 : decode cX11_asks 34 = .ok (.iload_n 3, 1) := by decide +kernel
theorem dX11_asks_35 : decode cX11_asks 35 = .ok (.iastore, 1) := by decide +kernel
theorem dX11_asks_36 : decode cX11_asks 36 = .ok (.aload_n 0, 1) := by decide +kernel
theorem dX11_asks_37 : decode cX11_asks 37 = .ok (.getfield 62, 3) := by decide +kernel
theorem dX11_asks_40 : decode cX11_asks 40 = .ok (.iconst 4, 1) := by decide +kernel
theorem dX11_asks_41 : decode cX11_asks 41 = .ok (.iload 4, 2) := by decide +kernel
theorem dX11_asks_43 : decode cX11_asks 43 = .ok (.iastore, 1) := by decide +kernel
theorem dX11_asks_44 : decode cX11_asks 44 = .ok (.aload_n 0, 1) := by decide +kernel
theorem dX11_asks_45 : decode cX11_asks 45 = .ok (.getfield 62, 3) := by decide +kernel
theorem dX11_asks_48 : decode cX11_asks 48 = .ok (.iconst 5, 1) := by decide +kernel
theorem dX11_asks_49 : decode cX11_asks 49 = .ok (.iconst 0, 1) := by decide +kernel
theorem dX11_asks_50 : decode cX11_asks 50 = .ok (.iastore, 1) := by decide +kernel
theorem dX11_asks_51 : decode cX11_asks 51 = .ok (.aload_n 0, 1) := by decide +kernel
theorem dX11_asks_52 : decode cX11_asks 52 = .ok (.getfield 62, 3) := by decide +kernel
theorem dX11_asks_55 : decode cX11_asks 55 = .ok (.bipush 6, 2) := by decide +kernel
theorem dX11_asks_57 : decode cX11_asks 57 = .ok (.iconst 0, 1) := by decide +kernel
theorem dX11_asks_58 : decode cX11_asks 58 = .ok (.iastore, 1) := by decide +kernel
theorem dX11_asks_59 : decode cX11_asks 59 = .ok (.aload_n 0, 1) := by decide +kernel
theorem dX11_asks_60 : decode cX11_asks 60 = .ok (.getfield 62, 3) := by decide +kernel
theorem dX11_asks_63 : decode cX11_asks 63 = .ok (.bipush 7, 2) := by decide +kernel
theorem dX11_asks_65 : decode cX11_asks 65 = .ok (.iconst 0, 1) := by decide +kernel
theorem dX11_asks_66 : decode cX11_asks 66 = .ok (.iastore, 1) := by decide +kernel
theorem dX11_asks_67 : decode cX11_asks 67 = .ok (.aload_n 0, 1) := by decide +kernel
theorem dX11_asks_68 : decode cX11_asks 68 = .ok (.getfield 62, 3) := by decide +kernel
theorem dX11_asks_71 : decode cX11_asks 71 = .ok (.bipush 8, 2) := by decide +kernel
theorem dX11_asks_73 : decode cX11_asks 73 = .ok (.iconst 0, 1) := by decide +kernel
theorem dX11_asks_74 : decode cX11_asks 74 = .ok (.iastore, 1) := by decide +kernel
theorem dX11_asks_75 : decode cX11_asks 75 = .ok (.return_, 1) := by decide +kernel
theorem dX11_lawTells_0 : decode cX11_lawTells 0 = .ok (.aload_n 0, 1) := by decide +kernel
theorem dX11_lawTells_1 : decode cX11_lawTells 1 = .ok (.iload_n 1, 1) := by decide +kernel
theorem dX11_lawTells_2 : decode cX11_lawTells 2 = .ok (.invokevirtual 303, 3) := by decide +kernel
theorem dX11_lawTells_5 : decode cX11_lawTells 5 = .ok (.istore 4, 2) := by decide +kernel
theorem dX11_lawTells_7 : decode cX11_lawTells 7 = .ok (.aload_n 0, 1) := by decide +kernel
theorem dX11_lawTells_8 : decode cX11_lawTells 8 = .ok (.iload 4, 2) := by decide +kernel
theorem dX11_lawTells_10 : decode cX11_lawTells 10 = .ok (.iconst (-1), 1) := by decide +kernel
theorem dX11_lawTells_11 : decode cX11_lawTells 11 = .ok (.if_icmp .ne 7, 3) := by decide +kernel
theorem dX11_lawTells_14 : decode cX11_lawTells 14 = .ok (.iload_n 2, 1) := by decide +kernel
theorem dX11_lawTells_15 : decode cX11_lawTells 15 = .ok (.goto 22, 3) := by decide +kernel
theorem dX11_lawTells_18 : decode cX11_lawTells 18 = .ok (.aload_n 0, 1) := by decide +kernel
theorem dX11_lawTells_19 : decode cX11_lawTells 19 = .ok (.iconst 0, 1) := by decide +kernel
theorem dX11_lawTells_20 : decode cX11_lawTells 20 = .ok (.aload_n 0, 1) := by decide +kernel
theorem dX11_lawTells_21 : decode cX11_lawTells 21 = .ok (.getfield 34, 3) := by decide +kernel
theorem dX11_lawTells_24 : decode cX11_lawTells 24 = .ok (.iload 4, 2) := by decide +kernel
theorem dX11_lawTells_26 : decode cX11_lawTells 26 = .ok (.iaload, 1) := by decide +kernel
theorem dX11_lawTells_27 : decode cX11_lawTells 27 = .ok (.aload_n 0, 1) := by decide +kernel
theorem dX11_lawTells_28 : decode cX11_lawTells 28 = .ok (.getfield 37, 3) := by decide +kernel
theorem dX11_lawTells_31 : decode cX11_lawTells 31 = .ok (.iload 4, 2) := by decide +kernel
theorem dX11_lawTells_33 : decode cX11_lawTells 33 = .ok (.iaload, 1) := by decide +kernel
theorem dX11_lawTells_34 : decode cX11_lawTells 34 = .ok (.invokevirtual 300, 3) := by decide +kernel
theorem dX11_lawTells_37 : decode cX11_lawTells 37 = .ok (.iconst 0, 1) := by decide +kernel
theorem dX11_lawTells_38 : decode cX11_lawTells 38 = .ok (.iload_n 3, 1) := by decide +kernel
theorem dX11_lawTells_39 : decode cX11_lawTells 39 = .ok (.invokevirtual 122, 3) := by decide +kernel
theorem dX11_lawTells_42 : decode cX11_lawTells 42 = .ok (.ireturn, 1) := by decide +kernel
theorem dX11_bearOf_0 : decode cX11_bearOf 0 = .ok (.aload_n 0, 1) := by decide +kernel
theorem dX11_bearOf_1 : decode cX11_bearOf 1 = .ok (.aload_n 0, 1) := by decide +kernel
theorem dX11_bearOf_2 : decode cX11_bearOf 2 = .ok (.getfield 7, 3) := by decide +kernel
theorem dX11_bearOf_5 : decode cX11_bearOf 5 = .ok (.bipush 20, 2) := by decide +kernel
theorem dX11_bearOf_7 : decode cX11_bearOf 7 = .ok (.iload_n 1, 1) := by decide +kernel
theorem dX11_bearOf_8 : decode cX11_bearOf 8 = .ok (.iadd, 1) := by decide +kernel
theorem dX11_bearOf_9 : decode cX11_bearOf 9 = .ok (.iaload, 1) := by decide +kernel
theorem dX11_bearOf_10 : decode cX11_bearOf 10 = .ok (.aload_n 0, 1) := by decide +kernel
theorem dX11_bearOf_11 : decode cX11_bearOf 11 = .ok (.getfield 7, 3) := by decide +kernel
theorem dX11_bearOf_14 : decode cX11_bearOf 14 = .ok (.bipush 34, 2) := by decide +kernel
theorem dX11_bearOf_16 : decode cX11_bearOf 16 = .ok (.iload_n 1, 1) := by decide +kernel
theorem dX11_bearOf_17 : decode cX11_bearOf 17 = .ok (.iadd, 1) := by decide +kernel
theorem dX11_bearOf_18 : decode cX11_bearOf 18 = .ok (.iaload, 1) := by decide +kernel
theorem dX11_bearOf_19 : decode cX11_bearOf 19 = .ok (.aload_n 0, 1) := by decide +kernel
theorem dX11_bearOf_20 : decode cX11_bearOf 20 = .ok (.getfield 7, 3) := by decide +kernel
theorem dX11_bearOf_23 : decode cX11_bearOf 23 = .ok (.bipush 48, 2) := by decide +kernel
theorem dX11_bearOf_25 : decode cX11_bearOf 25 = .ok (.iload_n 1, 1) := by decide +kernel
theorem dX11_bearOf_26 : decode cX11_bearOf 26 = .ok (.iadd, 1) := by decide +kernel
theorem dX11_bearOf_27 : decode cX11_bearOf 27 = .ok (.iaload, 1) := by decide +kernel
theorem dX11_bearOf_28 : decode cX11_bearOf 28 = .ok (.aload_n 0, 1) := by decide +kernel
theorem dX11_bearOf_29 : decode cX11_bearOf 29 = .ok (.getfield 7, 3) := by decide +kernel
theorem dX11_bearOf_32 : decode cX11_bearOf 32 = .ok (.bipush 62, 2) := by decide +kernel
theorem dX11_bearOf_34 : decode cX11_bearOf 34 = .ok (.iload_n 1, 1) := by decide +kernel
theorem dX11_bearOf_35 : decode cX11_bearOf 35 = .ok (.iadd, 1) := by decide +kernel
theorem dX11_bearOf_36 : decode cX11_bearOf 36 = .ok (.iaload, 1) := by decide +kernel
theorem dX11_bearOf_37 : decode cX11_bearOf 37 = .ok (.invokevirtual 306, 3) := by decide +kernel
theorem dX11_bearOf_40 : decode cX11_bearOf 40 = .ok (.aload_n 0, 1) := by decide +kernel
theorem dX11_bearOf_41 : decode cX11_bearOf 41 = .ok (.getfield 62, 3) := by decide +kernel
theorem dX11_bearOf_44 : decode cX11_bearOf 44 = .ok (.bipush 8, 2) := by decide +kernel
theorem dX11_bearOf_46 : decode cX11_bearOf 46 = .ok (.aload_n 0, 1) := by decide +kernel
theorem dX11_bearOf_47 : decode cX11_bearOf 47 = .ok (.getfield 7, 3) := by decide +kernel
theorem dX11_bearOf_50 : decode cX11_bearOf 50 = .ok (.bipush 10, 2) := by decide +kernel
theorem dX11_bearOf_52 : decode cX11_bearOf 52 = .ok (.aload_n 0, 1) := by decide +kernel
theorem dX11_bearOf_53 : decode cX11_bearOf 53 = .ok (.getfield 7, 3) := by decide +kernel
theorem dX11_bearOf_56 : decode cX11_bearOf 56 = .ok (.bipush 20, 2) := by decide +kernel
theorem dX11_bearOf_58 : decode cX11_bearOf 58 = .ok (.iload_n 1, 1) := by decide +kernel
theorem dX11_bearOf_59 : decode cX11_bearOf 59 = .ok (.iadd, 1) := by decide +kernel
theorem dX11_bearOf_60 : decode cX11_bearOf 60 = .ok (.iaload, 1) := by decide +kernel
theorem dX11_bearOf_61 : decode cX11_bearOf 61 = .ok (.iadd, 1) := by decide +kernel
theorem dX11_bearOf_62 : decode cX11_bearOf 62 = .ok (.iaload, 1) := by decide +kernel
theorem dX11_bearOf_63 : decode cX11_bearOf 63 = .ok (.iastore, 1) := by decide +kernel
theorem dX11_bearOf_64 : decode cX11_bearOf 64 = .ok (.aload_n 0, 1) := by decide +kernel
theorem dX11_bearOf_65 : decode cX11_bearOf 65 = .ok (.iconst 0, 1) := by decide +kernel
theorem dX11_bearOf_66 : decode cX11_bearOf 66 = .ok (.aload_n 0, 1) := by decide +kernel
theorem dX11_bearOf_67 : decode cX11_bearOf 67 = .ok (.getfield 7, 3) := by decide +kernel
theorem dX11_bearOf_70 : decode cX11_bearOf 70 = .ok (.bipush 48, 2) := by decide +kernel
theorem dX11_bearOf_72 : decode cX11_bearOf 72 = .ok (.iload_n 1, 1) := by decide +kernel
theorem dX11_bearOf_73 : decode cX11_bearOf 73 = .ok (.iadd, 1) := by decide +kernel
theorem dX11_bearOf_74 : decode cX11_bearOf 74 = .ok (.iaload, 1) := by decide +kernel
theorem dX11_bearOf_75 : decode cX11_bearOf 75 = .ok (.iconst 5, 1) := by decide +kernel
theorem dX11_bearOf_76 : decode cX11_bearOf 76 = .ok (.idiv, 1) := by decide +kernel
theorem dX11_bearOf_77 : decode cX11_bearOf 77 = .ok (.bipush 99, 2) := by decide +kernel
theorem dX11_bearOf_79 : decode cX11_bearOf 79 = .ok (.invokevirtual 310, 3) := by decide +kernel
theorem dX11_bearOf_82 : decode cX11_bearOf 82 = .ok (.ireturn, 1) := by decide +kernel
theorem dX11_wantOf_0 : decode cX11_wantOf 0 = .ok (.aload_n 0, 1) := by decide +kernel
theorem dX11_wantOf_1 : decode cX11_wantOf 1 = .ok (.iconst 0, 1) := by decide +kernel
theorem dX11_wantOf_2 : decode cX11_wantOf 2 = .ok (.iconst 0, 1) := by decide +kernel
theorem dX11_wantOf_3 : decode cX11_wantOf 3 = .ok (.iconst 0, 1) := by decide +kernel
theorem dX11_wantOf_4 : decode cX11_wantOf 4 = .ok (.iconst 0, 1) := by decide +kernel
theorem dX11_wantOf_5 : decode cX11_wantOf 5 = .ok (.invokevirtual 306, 3) := by decide +kernel
theorem dX11_wantOf_8 : decode cX11_wantOf 8 = .ok (.aload_n 0, 1) := by decide +kernel
theorem dX11_wantOf_9 : decode cX11_wantOf 9 = .ok (.getfield 62, 3) := by decide +kernel
theorem dX11_wantOf_12 : decode cX11_wantOf 12 = .ok (.iconst 5, 1) := by decide +kernel
theorem dX11_wantOf_13 : decode cX11_wantOf 13 = .ok (.aload_n 0, 1) := by decide +kernel
theorem dX11_wantOf_14 : decode cX11_wantOf 14 = .ok (.getfield 7, 3) := by decide +kernel
theorem dX11_wantOf_17 : decode cX11_wantOf 17 = .ok (.bipush 76, 2) := by decide +kernel
theorem dX11_wantOf_19 : decode cX11_wantOf 19 = .ok (.iload_n 1, 1) := by decide +kernel
theorem dX11_wantOf_20 : decode cX11_wantOf 20 = .ok (.iadd, 1) := by decide +kernel
theorem dX11_wantOf_21 : decode cX11_wantOf 21 = .ok (.iaload, 1) := by decide +kernel
theorem dX11_wantOf_22 : decode cX11_wantOf 22 = .ok (.iastore, 1) := by decide +kernel
theorem dX11_wantOf_23 : decode cX11_wantOf 23 = .ok (.aload_n 0, 1) := by decide +kernel
theorem dX11_wantOf_24 : decode cX11_wantOf 24 = .ok (.iconst 1, 1) := by decide +kernel
theorem dX11_wantOf_25 : decode cX11_wantOf 25 = .ok (.aload_n 0, 1) := by decide +kernel
theorem dX11_wantOf_26 : decode cX11_wantOf 26 = .ok (.getfield 7, 3) := by decide +kernel
theorem dX11_wantOf_29 : decode cX11_wantOf 29 = .ok (.bipush 76, 2) := by decide +kernel
theorem dX11_wantOf_31 : decode cX11_wantOf 31 = .ok (.iload_n 1, 1) := by decide +kernel
theorem dX11_wantOf_32 : decode cX11_wantOf 32 = .ok (.iadd, 1) := by decide +kernel
theorem dX11_wantOf_33 : decode cX11_wantOf 33 = .ok (.iaload, 1) := by decide +kernel
theorem dX11_wantOf_34 : decode cX11_wantOf 34 = .ok (.bipush 20, 2) := by decide +kernel
theorem dX11_wantOf_36 : decode cX11_wantOf 36 = .ok (.invokevirtual 310, 3) := by decide +kernel
theorem dX11_wantOf_39 : decode cX11_wantOf 39 = .ok (.ireturn, 1) := by decide +kernel
theorem dX11_countOf_0 : decode cX11_countOf 0 = .ok (.iload_n 3, 1) := by decide +kernel
theorem dX11_countOf_1 : decode cX11_countOf 1 = .ok (.iconst (-1), 1) := by decide +kernel
theorem dX11_countOf_2 : decode cX11_countOf 2 = .ok (.if_icmp .ne 14, 3) := by decide +kernel
theorem dX11_countOf_5 : decode cX11_countOf 5 = .ok (.aload_n 0, 1) := by decide +kernel
theorem dX11_countOf_6 : decode cX11_countOf 6 = .ok (.iload_n 2, 1) := by decide +kernel
theorem dX11_countOf_7 : decode cX11_countOf 7 = .ok (.iconst 0, 1) := by decide +kernel
theorem dX11_countOf_8 : decode cX11_countOf 8 = .ok (.iconst 0, 1) := by decide +kernel
theorem dX11_countOf_9 : decode cX11_countOf 9 = .ok (.iconst 0, 1) := by decide +kernel
theorem dX11_countOf_10 : decode cX11_countOf 10 = .ok (.invokevirtual 306, 3) := by decide +kernel
theorem dX11_countOf_13 : decode cX11_countOf 13 = .ok (.goto 35, 3) := by decide +kernel
theorem dX11_countOf_16 : decode cX11_countOf 16 = .ok (.aload_n 0, 1) := by decide +kernel
theorem dX11_countOf_17 : decode cX11_countOf 17 = .ok (.iload_n 2, 1) := by decide +kernel
theorem dX11_countOf_18 : decode cX11_countOf 18 = .ok (.aload_n 0, 1) := by decide +kernel
theorem dX11_countOf_19 : decode cX11_countOf 19 = .ok (.getfield 7, 3) := by decide +kernel
theorem dX11_countOf_22 : decode cX11_countOf 22 = .ok (.bipush 34, 2) := by decide +kernel
theorem dX11_countOf_24 : decode cX11_countOf 24 = .ok (.iload_n 3, 1) := by decide +kernel
theorem dX11_countOf_25 : decode cX11_countOf 25 = .ok (.iadd, 1) := by decide +kernel
theorem dX11_countOf_26 : decode cX11_countOf 26 = .ok (.iaload, 1) := by decide +kernel
theorem dX11_countOf_27 : decode cX11_countOf 27 = .ok (.aload_n 0, 1) := by decide +kernel
theorem dX11_countOf_28 : decode cX11_countOf 28 = .ok (.getfield 7, 3) := by decide +kernel
theorem dX11_countOf_31 : decode cX11_countOf 31 = .ok (.bipush 48, 2) := by decide +kernel
theorem dX11_countOf_33 : decode cX11_countOf 33 = .ok (.iload_n 3, 1) := by decide +kernel
theorem dX11_countOf_34 : decode cX11_countOf 34 = .ok (.iadd, 1) := by decide +kernel
theorem dX11_countOf_35 : decode cX11_countOf 35 = .ok (.iaload, 1) := by decide +kernel
theorem dX11_countOf_36 : decode cX11_countOf 36 = .ok (.aload_n 0, 1) := by decide +kernel
theorem dX11_countOf_37 : decode cX11_countOf 37 = .ok (.getfield 7, 3) := by decide +kernel
theorem dX11_countOf_40 : decode cX11_countOf 40 = .ok (.bipush 62, 2) := by decide +kernel
theorem dX11_countOf_42 : decode cX11_countOf 42 = .ok (.iload_n 3, 1) := by decide +kernel
theorem dX11_countOf_43 : decode cX11_countOf 43 = .ok (.iadd, 1) := by decide +kernel
theorem dX11_countOf_44 : decode cX11_countOf 44 = .ok (.iaload, 1) := by decide +kernel
theorem dX11_countOf_45 : decode cX11_countOf 45 = .ok (.invokevirtual 306, 3) := by decide +kernel
theorem dX11_countOf_48 : decode cX11_countOf 48 = .ok (.aload_n 0, 1) := by decide +kernel
theorem dX11_countOf_49 : decode cX11_countOf 49 = .ok (.getfield 62, 3) := by decide +kernel
theorem dX11_countOf_52 : decode cX11_countOf 52 = .ok (.iconst 5, 1) := by decide +kernel
theorem dX11_countOf_53 : decode cX11_countOf 53 = .ok (.aload_n 0, 1) := by decide +kernel
theorem dX11_countOf_54 : decode cX11_countOf 54 = .ok (.getfield 7, 3) := by decide +kernel
theorem dX11_countOf_57 : decode cX11_countOf 57 = .ok (.bipush 76, 2) := by decide +kernel
theorem dX11_countOf_59 : decode cX11_countOf 59 = .ok (.iload_n 1, 1) := by decide +kernel
theorem dX11_countOf_60 : decode cX11_countOf 60 = .ok (.iadd, 1) := by decide +kernel
theorem dX11_countOf_61 : decode cX11_countOf 61 = .ok (.iaload, 1) := by decide +kernel
theorem dX11_countOf_62 : decode cX11_countOf 62 = .ok (.iastore, 1) := by decide +kernel
theorem dX11_countOf_63 : decode cX11_countOf 63 = .ok (.aload_n 0, 1) := by decide +kernel
theorem dX11_countOf_64 : decode cX11_countOf 64 = .ok (.getfield 62, 3) := by decide +kernel
theorem dX11_countOf_67 : decode cX11_countOf 67 = .ok (.bipush 6, 2) := by decide +kernel
theorem dX11_countOf_69 : decode cX11_countOf 69 = .ok (.aload_n 0, 1) := by decide +kernel
theorem dX11_countOf_70 : decode cX11_countOf 70 = .ok (.iload_n 1, 1) := by decide +kernel
theorem dX11_countOf_71 : decode cX11_countOf 71 = .ok (.iload_n 2, 1) := by decide +kernel
theorem dX11_countOf_72 : decode cX11_countOf 72 = .ok (.invokevirtual 313, 3) := by decide +kernel
theorem dX11_countOf_75 : decode cX11_countOf 75 = .ok (.iastore, 1) := by decide +kernel
theorem dX11_countOf_76 : decode cX11_countOf 76 = .ok (.aload_n 0, 1) := by decide +kernel
theorem dX11_countOf_77 : decode cX11_countOf 77 = .ok (.getfield 62, 3) := by decide +kernel
theorem dX11_countOf_80 : decode cX11_countOf 80 = .ok (.bipush 7, 2) := by decide +kernel
theorem dX11_countOf_82 : decode cX11_countOf 82 = .ok (.iload_n 3, 1) := by decide +kernel
theorem dX11_countOf_83 : decode cX11_countOf 83 = .ok (.iconst (-1), 1) := by decide +kernel
theorem dX11_countOf_84 : decode cX11_countOf 84 = .ok (.if_icmp .ne 7, 3) := by decide +kernel
theorem dX11_countOf_87 : decode cX11_countOf 87 = .ok (.iconst 1, 1) := by decide +kernel
theorem dX11_countOf_88 : decode cX11_countOf 88 = .ok (.goto 4, 3) := by decide +kernel
theorem dX11_countOf_91 : decode cX11_countOf 91 = .ok (.iconst 0, 1) := by decide +kernel
theorem dX11_countOf_92 : decode cX11_countOf 92 = .ok (.iastore, 1) := by decide +kernel
theorem dX11_countOf_93 : decode cX11_countOf 93 = .ok (.aload_n 0, 1) := by decide +kernel
theorem dX11_countOf_94 : decode cX11_countOf 94 = .ok (.getfield 62, 3) := by decide +kernel
theorem dX11_countOf_97 : decode cX11_countOf 97 = .ok (.bipush 8, 2) := by decide +kernel
theorem dX11_countOf_99 : decode cX11_countOf 99 = .ok (.aload_n 0, 1) := by decide +kernel
theorem dX11_countOf_100 : decode cX11_countOf 100 = .ok (.getfield 7, 3) := by decide +kernel
theorem dX11_countOf_103 : decode cX11_countOf 103 = .ok (.bipush 10, 2) := by decide +kernel
theorem dX11_countOf_105 : decode cX11_countOf 105 = .ok (.iload_n 2, 1) := by decide +kernel
theorem dX11_countOf_106 : decode cX11_countOf 106 = .ok (.iadd, 1) := by decide +kernel
theorem dX11_countOf_107 : decode cX11_countOf 107 = .ok (.iaload, 1) := by decide +kernel
theorem dX11_countOf_108 : decode cX11_countOf 108 = .ok (.iastore, 1) := by decide +kernel
theorem dX11_countOf_109 : decode cX11_countOf 109 = .ok (.aload_n 0, 1) := by decide +kernel
theorem dX11_countOf_110 : decode cX11_countOf 110 = .ok (.iconst 2, 1) := by decide +kernel
theorem dX11_countOf_111 : decode cX11_countOf 111 = .ok (.iconst 1, 1) := by decide +kernel
theorem dX11_countOf_112 : decode cX11_countOf 112 = .ok (.bipush 9, 2) := by decide +kernel
theorem dX11_countOf_114 : decode cX11_countOf 114 = .ok (.invokevirtual 310, 3) := by decide +kernel
theorem dX11_countOf_117 : decode cX11_countOf 117 = .ok (.ireturn, 1) := by decide +kernel
theorem dX11_notes_0 : decode cX11_notes 0 = .ok (.aload_n 0, 1) := by decide +kernel
theorem dX11_notes_1 : decode cX11_notes 1 = .ok (.getfield 92, 3) := by decide +kernel
theorem dX11_notes_4 : decode cX11_notes 4 = .ok (.ifCond .ne 15, 3) := by decide +kernel
theorem dX11_notes_7 : decode cX11_notes 7 = .ok (.aload_n 0, 1) := by decide +kernel
theorem dX11_notes_8 : decode cX11_notes 8 = .ok (.getfield 7, 3) := by decide +kernel
theorem dX11_notes_11 : decode cX11_notes 11 = .ok (.iconst 2, 1) := by decide +kernel
theorem dX11_notes_12 : decode cX11_notes 12 = .ok (.iaload, 1) := by decide +kernel
theorem dX11_notes_13 : decode cX11_notes 13 = .ok (.sipush 150, 3) := by decide +kernel
theorem dX11_notes_16 : decode cX11_notes 16 = .ok (.if_icmp .ne 4, 3) := by decide +kernel
theorem dX11_notes_19 : decode cX11_notes 19 = .ok (.return_, 1) := by decide +kernel
theorem dX11_notes_20 : decode cX11_notes 20 = .ok (.iconst 4, 1) := by decide +kernel
theorem dX11_notes_21 : decode cX11_notes 21 = .ok (.aload_n 0, 1) := by decide +kernel
theorem dX11_notes_22 : decode cX11_notes 22 = .ok (.getfield 7, 3) := by decide +kernel
theorem dX11_notes_25 : decode cX11_notes 25 = .ok (.iconst 2, 1) := by decide +kernel
theorem dX11_notes_26 : decode cX11_notes 26 = .ok (.iaload, 1) := by decide +kernel
theorem dX11_notes_27 : decode cX11_notes 27 = .ok (.imul, 1) := by decide +kernel
theorem dX11_notes_28 : decode cX11_notes 28 = .ok (.istore 4, 2) := by decide +kernel
theorem dX11_notes_30 : decode cX11_notes 30 = .ok (.aload_n 0, 1) := by decide +kernel
theorem dX11_notes_31 : decode cX11_notes 31 = .ok (.getfield 19, 3) := by decide +kernel
theorem dX11_notes_34 : decode cX11_notes 34 = .ok (.iload 4, 2) := by decide +kernel
theorem dX11_notes_36 : decode cX11_notes 36 = .ok (.aload_n 0, 1) := by decide +kernel
theorem dX11_notes_37 : decode cX11_notes 37 = .ok (.getfield 7, 3) := by decide +kernel
theorem dX11_notes_40 : decode cX11_notes 40 = .ok (.iconst 0, 1) := by decide +kernel
theorem dX11_notes_41 : decode cX11_notes 41 = .ok (.iaload, 1) := by decide +kernel
theorem dX11_notes_42 : decode cX11_notes 42 = .ok (.iastore, 1) := by decide +kernel
theorem dX11_notes_43 : decode cX11_notes 43 = .ok (.aload_n 0, 1) := by decide +kernel
theorem dX11_notes_44 : decode cX11_notes 44 = .ok (.getfield 19, 3) := by decide +kernel
theorem dX11_notes_47 : decode cX11_notes 47 = .ok (.iload 4, 2) := by decide +kernel
theorem dX11_notes_49 : decode cX11_notes 49 = .ok (.iconst 1, 1) := by decide +kernel
theorem dX11_notes_50 : decode cX11_notes 50 = .ok (.iadd, 1) := by decide +kernel
theorem dX11_notes_51 : decode cX11_notes 51 = .ok (.iload_n 1, 1) := by decide +kernel
theorem dX11_notes_52 : decode cX11_notes 52 = .ok (.iastore, 1) := by decide +kernel
theorem dX11_notes_53 : decode cX11_notes 53 = .ok (.aload_n 0, 1) := by decide +kernel
theorem dX11_notes_54 : decode cX11_notes 54 = .ok (.getfield 19, 3) := by decide +kernel
theorem dX11_notes_57 : decode cX11_notes 57 = .ok (.iload 4, 2) := by decide +kernel
theorem dX11_notes_59 : decode cX11_notes 59 = .ok (.iconst 2, 1) := by decide +kernel
theorem dX11_notes_60 : decode cX11_notes 60 = .ok (.iadd, 1) := by decide +kernel
theorem dX11_notes_61 : decode cX11_notes 61 = .ok (.iload_n 2, 1) := by decide +kernel
theorem dX11_notes_62 : decode cX11_notes 62 = .ok (.iastore, 1) := by decide +kernel
theorem dX11_notes_63 : decode cX11_notes 63 = .ok (.aload_n 0, 1) := by decide +kernel
theorem dX11_notes_64 : decode cX11_notes 64 = .ok (.getfield 19, 3) := by decide +kernel
theorem dX11_notes_67 : decode cX11_notes 67 = .ok (.iload 4, 2) := by decide +kernel
theorem dX11_notes_69 : decode cX11_notes 69 = .ok (.iconst 3, 1) := by decide +kernel
theorem dX11_notes_70 : decode cX11_notes 70 = .ok (.iadd, 1) := by decide +kernel
theorem dX11_notes_71 : decode cX11_notes 71 = .ok (.iload_n 3, 1) := by decide +kernel
theorem dX11_notes_72 : decode cX11_notes 72 = .ok (.iastore, 1) := by decide +kernel
theorem dX11_notes_73 : decode cX11_notes 73 = .ok (.aload_n 0, 1) := by decide +kernel
theorem dX11_notes_74 : decode cX11_notes 74 = .ok (.getfield 7, 3) := by decide +kernel
theorem dX11_notes_77 : decode cX11_notes 77 = .ok (.iconst 2, 1) := by decide +kernel
theorem dX11_notes_78 : decode cX11_notes 78 = .ok (.aload_n 0, 1) := by decide +kernel
theorem dX11_notes_79 : decode cX11_notes 79 = .ok (.getfield 7, 3) := by decide +kernel
theorem dX11_notes_82 : decode cX11_notes 82 = .ok (.iconst 2, 1) := by decide +kernel
theorem dX11_notes_83 : decode cX11_notes 83 = .ok (.iaload, 1) := by decide +kernel
theorem dX11_notes_84 : decode cX11_notes 84 = .ok (.iconst 1, 1) := by decide +kernel
theorem dX11_notes_85 : decode cX11_notes 85 = .ok (.iadd, 1) := by decide +kernel
theorem dX11_notes_86 : decode cX11_notes 86 = .ok (.iastore, 1) := by decide +kernel
theorem dX11_notes_87 : decode cX11_notes 87 = .ok (.return_, 1) := by decide +kernel
theorem dX11_plants_0 : decode cX11_plants 0 = .ok (.aload_n 0, 1) := by decide +kernel
theorem dX11_plants_1 : decode cX11_plants 1 = .ok (.getfield 7, 3) := by decide +kernel
theorem dX11_plants_4 : decode cX11_plants 4 = .ok (.iconst 4, 1) := by decide +kernel
theorem dX11_plants_5 : decode cX11_plants 5 = .ok (.iaload, 1) := by decide +kernel
theorem dX11_plants_6 : decode cX11_plants 6 = .ok (.istore 4, 2) := by decide +kernel
theorem dX11_plants_8 : decode cX11_plants 8 = .ok (.aload_n 0, 1) := by decide +kernel
theorem dX11_plants_9 : decode cX11_plants 9 = .ok (.getfield 7, 3) := by decide +kernel
theorem dX11_plants_12 : decode cX11_plants 12 = .ok (.bipush 20, 2) := by decide +kernel
theorem dX11_plants_14 : decode cX11_plants 14 = .ok (.iload 4, 2) := by decide +kernel
theorem dX11_plants_16 : decode cX11_plants 16 = .ok (.iadd, 1) := by decide +kernel
theorem dX11_plants_17 : decode cX11_plants 17 = .ok (.iload_n 1, 1) := by decide +kernel
theorem dX11_plants_18 : decode cX11_plants 18 = .ok (.iastore, 1) := by decide +kernel
theorem dX11_plants_19 : decode cX11_plants 19 = .ok (.aload_n 0, 1) := by decide +kernel
theorem dX11_plants_20 : decode cX11_plants 20 = .ok (.getfield 7, 3) := by decide +kernel
theorem dX11_plants_23 : decode cX11_plants 23 = .ok (.bipush 34, 2) := by decide +kernel
theorem dX11_plants_25 : decode cX11_plants 25 = .ok (.iload 4, 2) := by decide +kernel
theorem dX11_plants_27 : decode cX11_plants 27 = .ok (.iadd, 1) := by decide +kernel
theorem dX11_plants_28 : decode cX11_plants 28 = .ok (.iload_n 2, 1) := by decide +kernel
theorem dX11_plants_29 : decode cX11_plants 29 = .ok (.iastore, 1) := by decide +kernel
theorem dX11_plants_30 : decode cX11_plants 30 = .ok (.aload_n 0, 1) := by decide +kernel
theorem dX11_plants_31 : decode cX11_plants 31 = .ok (.getfield 7, 3) := by decide +kernel
theorem dX11_plants_34 : decode cX11_plants 34 = .ok (.bipush 48, 2) := by decide +kernel
theorem dX11_plants_36 : decode cX11_plants 36 = .ok (.iload 4, 2) := by decide +kernel
theorem dX11_plants_38 : decode cX11_plants 38 = .ok (.iadd, 1) := by decide +kernel
theorem dX11_plants_39 : decode cX11_plants 39 = .ok (.iload_n 3, 1) := by decide +kernel
theorem dX11_plants_40 : decode cX11_plants 40 = .ok (.iastore, 1) := by decide +kernel
theorem dX11_plants_41 : decode cX11_plants 41 = .ok (.aload_n 0, 1) := by decide +kernel
theorem dX11_plants_42 : decode cX11_plants 42 = .ok (.getfield 7, 3) := by decide +kernel
theorem dX11_plants_45 : decode cX11_plants 45 = .ok (.bipush 62, 2) := by decide +kernel
theorem dX11_plants_47 : decode cX11_plants 47 = .ok (.iload 4, 2) := by decide +kernel
theorem dX11_plants_49 : decode cX11_plants 49 = .ok (.iadd, 1) := by decide +kernel
theorem dX11_plants_50 : decode cX11_plants 50 = .ok (.iconst 0, 1) := by decide +kernel
theorem dX11_plants_51 : decode cX11_plants 51 = .ok (.iastore, 1) := by decide +kernel
theorem dX11_plants_52 : decode cX11_plants 52 = .ok (.aload_n 0, 1) := by decide +kernel
theorem dX11_plants_53 : decode cX11_plants 53 = .ok (.getfield 7, 3) := by decide +kernel
theorem dX11_plants_56 : decode cX11_plants 56 = .ok (.iconst 4, 1) := by decide +kernel
theorem dX11_plants_57 : decode cX11_plants 57 = .ok (.iload 4, 2) := by decide +kernel
theorem dX11_plants_59 : decode cX11_plants 59 = .ok (.iconst 1, 1) := by decide +kernel
theorem dX11_plants_60 : decode cX11_plants 60 = .ok (.iadd, 1) := by decide +kernel
theorem dX11_plants_61 : decode cX11_plants 61 = .ok (.iastore, 1) := by decide +kernel
theorem dX11_plants_62 : decode cX11_plants 62 = .ok (.aload_n 0, 1) := by decide +kernel
theorem dX11_plants_63 : decode cX11_plants 63 = .ok (.iconst 0, 1) := by decide +kernel
theorem dX11_plants_64 : decode cX11_plants 64 = .ok (.iload 4, 2) := by decide +kernel
theorem dX11_plants_66 : decode cX11_plants 66 = .ok (.iconst 0, 1) := by decide +kernel
theorem dX11_plants_67 : decode cX11_plants 67 = .ok (.invokevirtual 316, 3) := by decide +kernel
theorem dX11_plants_70 : decode cX11_plants 70 = .ok (.iload 4, 2) := by decide +kernel
theorem dX11_plants_72 : decode cX11_plants 72 = .ok (.ireturn, 1) := by decide +kernel
theorem dX11_isFenced_0 : decode cX11_isFenced 0 = .ok (.aload_n 0, 1) := by decide +kernel
theorem dX11_isFenced_1 : decode cX11_isFenced 1 = .ok (.aload_n 0, 1) := by decide +kernel
theorem dX11_isFenced_2 : decode cX11_isFenced 2 = .ok (.getfield 7, 3) := by decide +kernel
theorem dX11_isFenced_5 : decode cX11_isFenced 5 = .ok (.iconst 3, 1) := by decide +kernel
theorem dX11_isFenced_6 : decode cX11_isFenced 6 = .ok (.iaload, 1) := by decide +kernel
theorem dX11_isFenced_7 : decode cX11_isFenced 7 = .ok (.iload_n 1, 1) := by decide +kernel
theorem dX11_isFenced_8 : decode cX11_isFenced 8 = .ok (.invokevirtual 319, 3) := by decide +kernel
theorem dX11_isFenced_11 : decode cX11_isFenced 11 = .ok (.ireturn, 1) := by decide +kernel
theorem dX11_fences_0 : decode cX11_fences 0 = .ok (.aload_n 0, 1) := by decide +kernel
theorem dX11_fences_1 : decode cX11_fences 1 = .ok (.getfield 7, 3) := by decide +kernel
theorem dX11_fences_4 : decode cX11_fences 4 = .ok (.iconst 3, 1) := by decide +kernel
theorem dX11_fences_5 : decode cX11_fences 5 = .ok (.iload_n 2, 1) := by decide +kernel
theorem dX11_fences_6 : decode cX11_fences 6 = .ok (.ifCond .eq 16, 3) := by decide +kernel
theorem dX11_fences_9 : decode cX11_fences 9 = .ok (.aload_n 0, 1) := by decide +kernel
theorem dX11_fences_10 : decode cX11_fences 10 = .ok (.getfield 7, 3) := by decide +kernel
theorem dX11_fences_13 : decode cX11_fences 13 = .ok (.iconst 3, 1) := by decide +kernel
theorem dX11_fences_14 : decode cX11_fences 14 = .ok (.iaload, 1) := by decide +kernel
theorem dX11_fences_15 : decode cX11_fences 15 = .ok (.iconst 1, 1) := by decide +kernel
theorem dX11_fences_16 : decode cX11_fences 16 = .ok (.iload_n 1, 1) := by decide +kernel
theorem dX11_fences_17 : decode cX11_fences 17 = .ok (.ishl, 1) := by decide +kernel
theorem dX11_fences_18 : decode cX11_fences 18 = .ok (.ior, 1) := by decide +kernel
theorem dX11_fences_19 : decode cX11_fences 19 = .ok (.goto 15, 3) := by decide +kernel
theorem dX11_fences_22 : decode cX11_fences 22 = .ok (.aload_n 0, 1) := by decide +kernel
theorem dX11_fences_23 : decode cX11_fences 23 = .ok (.getfield 7, 3) := by decide +kernel
theorem dX11_fences_26 : decode cX11_fences 26 = .ok (.iconst 3, 1) := by decide +kernel
theorem dX11_fences_27 : decode cX11_fences 27 = .ok (.iaload, 1) := by decide +kernel
theorem dX11_fences_28 : decode cX11_fences 28 = .ok (.iconst 1, 1) := by decide +kernel
theorem dX11_fences_29 : decode cX11_fences 29 = .ok (.iload_n 1, 1) := by decide +kernel
theorem dX11_fences_30 : decode cX11_fences 30 = .ok (.ishl, 1) := by decide +kernel
theorem dX11_fences_31 : decode cX11_fences 31 = .ok (.iconst (-1), 1) := by decide +kernel
theorem dX11_fences_32 : decode cX11_fences 32 = .ok (.ixor, 1) := by decide +kernel
theorem dX11_fences_33 : decode cX11_fences 33 = .ok (.iand, 1) := by decide +kernel
theorem dX11_fences_34 : decode cX11_fences 34 = .ok (.iastore, 1) := by decide +kernel
theorem dX11_fences_35 : decode cX11_fences 35 = .ok (.aload_n 0, 1) := by decide +kernel
theorem dX11_fences_36 : decode cX11_fences 36 = .ok (.iload_n 2, 1) := by decide +kernel
theorem dX11_fences_37 : decode cX11_fences 37 = .ok (.ifCond .eq 7, 3) := by decide +kernel
theorem dX11_fences_40 : decode cX11_fences 40 = .ok (.iconst 1, 1) := by decide +kernel
theorem dX11_fences_41 : decode cX11_fences 41 = .ok (.goto 4, 3) := by decide +kernel
theorem dX11_fences_44 : decode cX11_fences 44 = .ok (.iconst 2, 1) := by decide +kernel
theorem dX11_fences_45 : decode cX11_fences 45 = .ok (.iload_n 1, 1) := by decide +kernel
theorem dX11_fences_46 : decode cX11_fences 46 = .ok (.iconst 0, 1) := by decide +kernel
theorem dX11_fences_47 : decode cX11_fences 47 = .ok (.invokevirtual 316, 3) := by decide +kernel
theorem dX11_fences_50 : decode cX11_fences 50 = .ok (.return_, 1) := by decide +kernel
theorem dX11_boils_0 : decode cX11_boils 0 = .ok (.iload_n 2, 1) := by decide +kernel
theorem dX11_boils_1 : decode cX11_boils 1 = .ok (.istore_n 3, 1) := by decide +kernel
theorem dX11_boils_2 : decode cX11_boils 2 = .ok (.iconst 0, 1) := by decide +kernel
theorem dX11_boils_3 : decode cX11_boils 3 = .ok (.istore 4, 2) := by decide +kernel
theorem dX11_boils_5 : decode cX11_boils 5 = .ok (.iload 4, 2) := by decide +kernel
theorem dX11_boils_7 : decode cX11_boils 7 = .ok (.aload_n 0, 1) := by decide +kernel
theorem dX11_boils_8 : decode cX11_boils 8 = .ok (.getfield 7, 3) := by decide +kernel
theorem dX11_boils_11 : decode cX11_boils 11 = .ok (.iconst 4, 1) := by decide +kernel
theorem dX11_boils_12 : decode cX11_boils 12 = .ok (.iaload, 1) := by decide +kernel
theorem dX11_boils_13 : decode cX11_boils 13 = .ok (.if_icmp .ge 71, 3) := by decide +kernel
theorem dX11_boils_16 : decode cX11_boils 16 = .ok (.aload_n 0, 1) := by decide +kernel
theorem dX11_boils_17 : decode cX11_boils 17 = .ok (.getfield 7, 3) := by decide +kernel
theorem dX11_boils_20 : decode cX11_boils 20 = .ok (.bipush 20, 2) := by decide +kernel
theorem dX11_boils_22 : decode cX11_boils 22 = .ok (.iload 4, 2) := by decide +kernel
theorem dX11_boils_24 : decode cX11_boils 24 = .ok (.iadd, 1) := by decide +kernel
theorem dX11_boils_25 : decode cX11_boils 25 = .ok (.iaload, 1) := by decide +kernel
theorem dX11_boils_26 : decode cX11_boils 26 = .ok (.iload_n 1, 1) := by decide +kernel
theorem dX11_boils_27 : decode cX11_boils 27 = .ok (.if_icmp .eq 6, 3) := by decide +kernel
theorem dX11_boils_30 : decode cX11_boils 30 = .ok (.goto 48, 3) := by decide +kernel
theorem dX11_boils_33 : decode cX11_boils 33 = .ok (.aload_n 0, 1) := by decide +kernel
theorem dX11_boils_34 : decode cX11_boils 34 = .ok (.iload_n 3, 1) := by decide +kernel
theorem dX11_boils_35 : decode cX11_boils 35 = .ok (.aload_n 0, 1) := by decide +kernel
theorem dX11_boils_36 : decode cX11_boils 36 = .ok (.getfield 7, 3) := by decide +kernel
theorem dX11_boils_39 : decode cX11_boils 39 = .ok (.bipush 62, 2) := by decide +kernel
theorem dX11_boils_41 : decode cX11_boils 41 = .ok (.iload 4, 2) := by decide +kernel
theorem dX11_boils_43 : decode cX11_boils 43 = .ok (.iadd, 1) := by decide +kernel
theorem dX11_boils_44 : decode cX11_boils 44 = .ok (.iaload, 1) := by decide +kernel
theorem dX11_boils_45 : decode cX11_boils 45 = .ok (.invokevirtual 323, 3) := by decide +kernel
theorem dX11_boils_48 : decode cX11_boils 48 = .ok (.istore 5, 2) := by decide +kernel
theorem dX11_boils_50 : decode cX11_boils 50 = .ok (.aload_n 0, 1) := by decide +kernel
theorem dX11_boils_51 : decode cX11_boils 51 = .ok (.getfield 7, 3) := by decide +kernel
theorem dX11_boils_54 : decode cX11_boils 54 = .ok (.bipush 62, 2) := by decide +kernel
theorem dX11_boils_56 : decode cX11_boils 56 = .ok (.iload 4, 2) := by decide +kernel
theorem dX11_boils_58 : decode cX11_boils 58 = .ok (.iadd, 1) := by decide +kernel
theorem dX11_boils_59 : decode cX11_boils 59 = .ok (.aload_n 0, 1) := by decide +kernel
theorem dX11_boils_60 : decode cX11_boils 60 = .ok (.getfield 7, 3) := by decide +kernel
theorem dX11_boils_63 : decode cX11_boils 63 = .ok (.bipush 62, 2) := by decide +kernel
theorem dX11_boils_65 : decode cX11_boils 65 = .ok (.iload 4, 2) := by decide +kernel
theorem dX11_boils_67 : decode cX11_boils 67 = .ok (.iadd, 1) := by decide +kernel
theorem dX11_boils_68 : decode cX11_boils 68 = .ok (.iaload, 1) := by decide +kernel
theorem dX11_boils_69 : decode cX11_boils 69 = .ok (.iload 5, 2) := by decide +kernel
theorem dX11_boils_71 : decode cX11_boils 71 = .ok (.isub, 1) := by decide +kernel
theorem dX11_boils_72 : decode cX11_boils 72 = .ok (.iastore, 1) := by decide +kernel
theorem dX11_boils_73 : decode cX11_boils 73 = .ok (.iload_n 3, 1) := by decide +kernel
theorem dX11_boils_74 : decode cX11_boils 74 = .ok (.iload 5, 2) := by decide +kernel
theorem dX11_boils_76 : decode cX11_boils 76 = .ok (.isub, 1) := by decide +kernel
theorem dX11_boils_77 : decode cX11_boils 77 = .ok (.istore_n 3, 1) := by decide +kernel
theorem dX11_boils_78 : decode cX11_boils 78 = .ok (.iinc 4 1, 3) := by decide +kernel
theorem dX11_boils_81 : decode cX11_boils 81 = .ok (.goto (-76), 3) := by decide +kernel
theorem dX11_boils_84 : decode cX11_boils 84 = .ok (.aload_n 0, 1) := by decide +kernel
theorem dX11_boils_85 : decode cX11_boils 85 = .ok (.getfield 7, 3) := by decide +kernel
theorem dX11_boils_88 : decode cX11_boils 88 = .ok (.bipush 15, 2) := by decide +kernel
theorem dX11_boils_90 : decode cX11_boils 90 = .ok (.iload_n 1, 1) := by decide +kernel
theorem dX11_boils_91 : decode cX11_boils 91 = .ok (.iadd, 1) := by decide +kernel
theorem dX11_boils_92 : decode cX11_boils 92 = .ok (.aload_n 0, 1) := by decide +kernel
theorem dX11_boils_93 : decode cX11_boils 93 = .ok (.aload_n 0, 1) := by decide +kernel
theorem dX11_boils_94 : decode cX11_boils 94 = .ok (.getfield 7, 3) := by decide +kernel
theorem dX11_boils_97 : decode cX11_boils 97 = .ok (.bipush 15, 2) := by decide +kernel
theorem dX11_boils_99 : decode cX11_boils 99 = .ok (.iload_n 1, 1) := by decide +kernel
theorem dX11_boils_100 : decode cX11_boils 100 = .ok (.iadd, 1) := by decide +kernel
theorem dX11_boils_101 : decode cX11_boils 101 = .ok (.iaload, 1) := by decide +kernel
theorem dX11_boils_102 : decode cX11_boils 102 = .ok (.iload_n 2, 1) := by decide +kernel
theorem dX11_boils_103 : decode cX11_boils 103 = .ok (.iadd, 1) := by decide +kernel
theorem dX11_boils_104 : decode cX11_boils 104 = .ok (.iload_n 3, 1) := by decide +kernel
theorem dX11_boils_105 : decode cX11_boils 105 = .ok (.isub, 1) := by decide +kernel
theorem dX11_boils_106 : decode cX11_boils 106 = .ok (.iconst 0, 1) := by decide +kernel
theorem dX11_boils_107 : decode cX11_boils 107 = .ok (.sipush 999, 3) := by decide +kernel
theorem dX11_boils_110 : decode cX11_boils 110 = .ok (.invokevirtual 122, 3) := by decide +kernel
theorem dX11_boils_113 : decode cX11_boils 113 = .ok (.iastore, 1) := by decide +kernel
theorem dX11_boils_114 : decode cX11_boils 114 = .ok (.aload_n 0, 1) := by decide +kernel
theorem dX11_boils_115 : decode cX11_boils 115 = .ok (.iconst 3, 1) := by decide +kernel
theorem dX11_boils_116 : decode cX11_boils 116 = .ok (.iload_n 1, 1) := by decide +kernel
theorem dX11_boils_117 : decode cX11_boils 117 = .ok (.iload_n 2, 1) := by decide +kernel
theorem dX11_boils_118 : decode cX11_boils 118 = .ok (.iload_n 3, 1) := by decide +kernel
theorem dX11_boils_119 : decode cX11_boils 119 = .ok (.isub, 1) := by decide +kernel
theorem dX11_boils_120 : decode cX11_boils 120 = .ok (.invokevirtual 316, 3) := by decide +kernel
theorem dX11_boils_123 : decode cX11_boils 123 = .ok (.iload_n 2, 1) := by decide +kernel
theorem dX11_boils_124 : decode cX11_boils 124 = .ok (.iload_n 3, 1) := by decide +kernel
theorem dX11_boils_125 : decode cX11_boils 125 = .ok (.isub, 1) := by decide +kernel
theorem dX11_boils_126 : decode cX11_boils 126 = .ok (.ireturn, 1) := by decide +kernel
theorem dX11_plant_0 : decode cX11_plant 0 = .ok (.aload_n 0, 1) := by decide +kernel
theorem dX11_plant_1 : decode cX11_plant 1 = .ok (.iconst 0, 1) := by decide +kernel
theorem dX11_plant_2 : decode cX11_plant 2 = .ok (.putfield 86, 3) := by decide +kernel
theorem dX11_plant_5 : decode cX11_plant 5 = .ok (.aload_n 0, 1) := by decide +kernel
theorem dX11_plant_6 : decode cX11_plant 6 = .ok (.iload_n 1, 1) := by decide +kernel
theorem dX11_plant_7 : decode cX11_plant 7 = .ok (.invokevirtual 134, 3) := by decide +kernel
theorem dX11_plant_10 : decode cX11_plant 10 = .ok (.ifCond .eq 33, 3) := by decide +kernel
theorem dX11_plant_13 : decode cX11_plant 13 = .ok (.aload_n 0, 1) := by decide +kernel
theorem dX11_plant_14 : decode cX11_plant 14 = .ok (.iload_n 2, 1) := by decide +kernel
theorem dX11_plant_15 : decode cX11_plant 15 = .ok (.invokevirtual 326, 3) := by decide +kernel
theorem dX11_plant_18 : decode cX11_plant 18 = .ok (.ifCond .eq 25, 3) := by decide +kernel
theorem dX11_plant_21 : decode cX11_plant 21 = .ok (.aload_n 0, 1) := by decide +kernel
theorem dX11_plant_22 : decode cX11_plant 22 = .ok (.iload_n 3, 1) := by decide +kernel
theorem dX11_plant_23 : decode cX11_plant 23 = .ok (.iconst 0, 1) := by decide +kernel
theorem dX11_plant_24 : decode cX11_plant 24 = .ok (.bipush 99, 2) := by decide +kernel
theorem dX11_plant_26 : decode cX11_plant 26 = .ok (.invokevirtual 126, 3) := by decide +kernel
theorem dX11_plant_29 : decode cX11_plant 29 = .ok (.ifCond .eq 14, 3) := by decide +kernel
theorem dX11_plant_32 : decode cX11_plant 32 = .ok (.aload_n 0, 1) := by decide +kernel
theorem dX11_plant_33 : decode cX11_plant 33 = .ok (.getfield 7, 3) := by decide +kernel
theorem dX11_plant_36 : decode cX11_plant 36 = .ok (.iconst 4, 1) := by decide +kernel
theorem dX11_plant_37 : decode cX11_plant 37 = .ok (.iaload, 1) := by decide +kernel
theorem dX11_plant_38 : decode cX11_plant 38 = .ok (.bipush 14, 2) := by decide +kernel
theorem dX11_plant_40 : decode cX11_plant 40 = .ok (.if_icmp .ne 5, 3) := by decide +kernel
theorem dX11_plant_43 : decode cX11_plant 43 = .ok (.iconst (-1), 1) := by decide +kernel
theorem dX11_plant_44 : decode cX11_plant 44 = .ok (.ireturn, 1) := by decide +kernel
theorem dX11_plant_45 : decode cX11_plant 45 = .ok (.aload_n 0, 1) := by decide +kernel
theorem dX11_plant_46 : decode cX11_plant 46 = .ok (.invokevirtual 329, 3) := by decide +kernel
theorem dX11_plant_49 : decode cX11_plant 49 = .ok (.aload_n 0, 1) := by decide +kernel
theorem dX11_plant_50 : decode cX11_plant 50 = .ok (.iload_n 1, 1) := by decide +kernel
theorem dX11_plant_51 : decode cX11_plant 51 = .ok (.iload_n 2, 1) := by decide +kernel
theorem dX11_plant_52 : decode cX11_plant 52 = .ok (.iload_n 3, 1) := by decide +kernel
theorem dX11_plant_53 : decode cX11_plant 53 = .ok (.invokevirtual 332, 3) := by decide +kernel
theorem dX11_plant_56 : decode cX11_plant 56 = .ok (.ireturn, 1) := by decide +kernel
theorem dX11_fence_0 : decode cX11_fence 0 = .ok (.aload_n 0, 1) := by decide +kernel
theorem dX11_fence_1 : decode cX11_fence 1 = .ok (.iconst 0, 1) := by decide +kernel
theorem dX11_fence_2 : decode cX11_fence 2 = .ok (.putfield 86, 3) := by decide +kernel
theorem dX11_fence_5 : decode cX11_fence 5 = .ok (.aload_n 0, 1) := by decide +kernel
theorem dX11_fence_6 : decode cX11_fence 6 = .ok (.iload_n 1, 1) := by decide +kernel
theorem dX11_fence_7 : decode cX11_fence 7 = .ok (.invokevirtual 326, 3) := by decide +kernel
theorem dX11_fence_10 : decode cX11_fence 10 = .ok (.ifCond .eq 12, 3) := by decide +kernel
theorem dX11_fence_13 : decode cX11_fence 13 = .ok (.aload_n 0, 1) := by decide +kernel
theorem dX11_fence_14 : decode cX11_fence 14 = .ok (.iload_n 1, 1) := by decide +kernel
theorem dX11_fence_15 : decode cX11_fence 15 = .ok (.invokevirtual 335, 3) := by decide +kernel
theorem dX11_fence_18 : decode cX11_fence 18 = .ok (.iload_n 2, 1) := by decide +kernel
theorem dX11_fence_19 : decode cX11_fence 19 = .ok (.if_icmp .ne 5, 3) := by decide +kernel
theorem dX11_fence_22 : decode cX11_fence 22 = .ok (.iconst 0, 1) := by decide +kernel
theorem dX11_fence_23 : decode cX11_fence 23 = .ok (.ireturn, 1) := by decide +kernel
theorem dX11_fence_24 : decode cX11_fence 24 = .ok (.aload_n 0, 1) := by decide +kernel
theorem dX11_fence_25 : decode cX11_fence 25 = .ok (.invokevirtual 329, 3) := by decide +kernel
theorem dX11_fence_28 : decode cX11_fence 28 = .ok (.aload_n 0, 1) := by decide +kernel
theorem dX11_fence_29 : decode cX11_fence 29 = .ok (.iload_n 1, 1) := by decide +kernel
theorem dX11_fence_30 : decode cX11_fence 30 = .ok (.iload_n 2, 1) := by decide +kernel
theorem dX11_fence_31 : decode cX11_fence 31 = .ok (.invokevirtual 338, 3) := by decide +kernel
theorem dX11_fence_34 : decode cX11_fence 34 = .ok (.iconst 1, 1) := by decide +kernel
theorem dX11_fence_35 : decode cX11_fence 35 = .ok (.ireturn, 1) := by decide +kernel
theorem dX11_boil_0 : decode cX11_boil 0 = .ok (.aload_n 0, 1) := by decide +kernel
theorem dX11_boil_1 : decode cX11_boil 1 = .ok (.iconst 0, 1) := by decide +kernel
theorem dX11_boil_2 : decode cX11_boil 2 = .ok (.putfield 86, 3) := by decide +kernel
theorem dX11_boil_5 : decode cX11_boil 5 = .ok (.aload_n 0, 1) := by decide +kernel
theorem dX11_boil_6 : decode cX11_boil 6 = .ok (.iload_n 1, 1) := by decide +kernel
theorem dX11_boil_7 : decode cX11_boil 7 = .ok (.invokevirtual 134, 3) := by decide +kernel
theorem dX11_boil_10 : decode cX11_boil 10 = .ok (.ifCond .eq 14, 3) := by decide +kernel
theorem dX11_boil_13 : decode cX11_boil 13 = .ok (.aload_n 0, 1) := by decide +kernel
theorem dX11_boil_14 : decode cX11_boil 14 = .ok (.iload_n 2, 1) := by decide +kernel
theorem dX11_boil_15 : decode cX11_boil 15 = .ok (.iconst 1, 1) := by decide +kernel
theorem dX11_boil_16 : decode cX11_boil 16 = .ok (.bipush 99, 2) := by decide +kernel
theorem dX11_boil_18 : decode cX11_boil 18 = .ok (.invokevirtual 126, 3) := by decide +kernel
theorem dX11_boil_21 : decode cX11_boil 21 = .ok (.ifCond .ne 5, 3) := by decide +kernel
theorem dX11_boil_24 : decode cX11_boil 24 = .ok (.iconst (-1), 1) := by decide +kernel
theorem dX11_boil_25 : decode cX11_boil 25 = .ok (.ireturn, 1) := by decide +kernel
theorem dX11_boil_26 : decode cX11_boil 26 = .ok (.aload_n 0, 1) := by decide +kernel
theorem dX11_boil_27 : decode cX11_boil 27 = .ok (.invokevirtual 329, 3) := by decide +kernel
theorem dX11_boil_30 : decode cX11_boil 30 = .ok (.aload_n 0, 1) := by decide +kernel
theorem dX11_boil_31 : decode cX11_boil 31 = .ok (.iload_n 1, 1) := by decide +kernel
theorem dX11_boil_32 : decode cX11_boil 32 = .ok (.iload_n 2, 1) := by decide +kernel
theorem dX11_boil_33 : decode cX11_boil 33 = .ok (.invokevirtual 342, 3) := by decide +kernel
theorem dX11_boil_36 : decode cX11_boil 36 = .ok (.ireturn, 1) := by decide +kernel
theorem dX11_counts_0 : decode cX11_counts 0 = .ok (.aload_n 0, 1) := by decide +kernel
theorem dX11_counts_1 : decode cX11_counts 1 = .ok (.getfield 7, 3) := by decide +kernel
theorem dX11_counts_4 : decode cX11_counts 4 = .ok (.iconst 5, 1) := by decide +kernel
theorem dX11_counts_5 : decode cX11_counts 5 = .ok (.iload_n 1, 1) := by decide +kernel
theorem dX11_counts_6 : decode cX11_counts 6 = .ok (.iadd, 1) := by decide +kernel
theorem dX11_counts_7 : decode cX11_counts 7 = .ok (.iaload, 1) := by decide +kernel
theorem dX11_counts_8 : decode cX11_counts 8 = .ok (.istore_n 3, 1) := by decide +kernel
theorem dX11_counts_9 : decode cX11_counts 9 = .ok (.aload_n 0, 1) := by decide +kernel
theorem dX11_counts_10 : decode cX11_counts 10 = .ok (.getfield 7, 3) := by decide +kernel
theorem dX11_counts_13 : decode cX11_counts 13 = .ok (.iconst 5, 1) := by decide +kernel
theorem dX11_counts_14 : decode cX11_counts 14 = .ok (.iload_n 1, 1) := by decide +kernel
theorem dX11_counts_15 : decode cX11_counts 15 = .ok (.iadd, 1) := by decide +kernel
theorem dX11_counts_16 : decode cX11_counts 16 = .ok (.aload_n 0, 1) := by decide +kernel
theorem dX11_counts_17 : decode cX11_counts 17 = .ok (.iload_n 3, 1) := by decide +kernel
theorem dX11_counts_18 : decode cX11_counts 18 = .ok (.iload_n 2, 1) := by decide +kernel
theorem dX11_counts_19 : decode cX11_counts 19 = .ok (.iadd, 1) := by decide +kernel
theorem dX11_counts_20 : decode cX11_counts 20 = .ok (.iconst 0, 1) := by decide +kernel
theorem dX11_counts_21 : decode cX11_counts 21 = .ok (.sipush 9999, 3) := by decide +kernel
theorem dX11_counts_24 : decode cX11_counts 24 = .ok (.invokevirtual 122, 3) := by decide +kernel
theorem dX11_counts_27 : decode cX11_counts 27 = .ok (.iastore, 1) := by decide +kernel
theorem dX11_counts_28 : decode cX11_counts 28 = .ok (.iload_n 1, 1) := by decide +kernel
theorem dX11_counts_29 : decode cX11_counts 29 = .ok (.aload_n 0, 1) := by decide +kernel
theorem dX11_counts_30 : decode cX11_counts 30 = .ok (.getfield 345, 3) := by decide +kernel
theorem dX11_counts_33 : decode cX11_counts 33 = .ok (.if_icmp .ne 22, 3) := by decide +kernel
theorem dX11_counts_36 : decode cX11_counts 36 = .ok (.aload_n 0, 1) := by decide +kernel
theorem dX11_counts_37 : decode cX11_counts 37 = .ok (.aload_n 0, 1) := by decide +kernel
theorem dX11_counts_38 : decode cX11_counts 38 = .ok (.getfield 96, 3) := by decide +kernel
theorem dX11_counts_41 : decode cX11_counts 41 = .ok (.aload_n 0, 1) := by decide +kernel
theorem dX11_counts_42 : decode cX11_counts 42 = .ok (.getfield 7, 3) := by decide +kernel
theorem dX11_counts_45 : decode cX11_counts 45 = .ok (.iconst 5, 1) := by decide +kernel
theorem dX11_counts_46 : decode cX11_counts 46 = .ok (.iload_n 1, 1) := by decide +kernel
theorem dX11_counts_47 : decode cX11_counts 47 = .ok (.iadd, 1) := by decide +kernel
theorem dX11_counts_48 : decode cX11_counts 48 = .ok (.iaload, 1) := by decide +kernel
theorem dX11_counts_49 : decode cX11_counts 49 = .ok (.iadd, 1) := by decide +kernel
theorem dX11_counts_50 : decode cX11_counts 50 = .ok (.iload_n 3, 1) := by decide +kernel
theorem dX11_counts_51 : decode cX11_counts 51 = .ok (.isub, 1) := by decide +kernel
theorem dX11_counts_52 : decode cX11_counts 52 = .ok (.putfield 96, 3) := by decide +kernel
theorem dX11_counts_55 : decode cX11_counts 55 = .ok (.return_, 1) := by decide +kernel
theorem dX11_treeFor_0 : decode cX11_treeFor 0 = .ok (.iconst (-1), 1) := by decide +kernel
theorem dX11_treeFor_1 : decode cX11_treeFor 1 = .ok (.istore_n 3, 1) := by decide +kernel
theorem dX11_treeFor_2 : decode cX11_treeFor 2 = .ok (.iconst 0, 1) := by decide +kernel
theorem dX11_treeFor_3 : decode cX11_treeFor 3 = .ok (.istore 4, 2) := by decide +kernel
theorem dX11_treeFor_5 : decode cX11_treeFor 5 = .ok (.iload 4, 2) := by decide +kernel
theorem dX11_treeFor_7 : decode cX11_treeFor 7 = .ok (.aload_n 0, 1) := by decide +kernel
theorem dX11_treeFor_8 : decode cX11_treeFor 8 = .ok (.getfield 7, 3) := by decide +kernel
theorem dX11_treeFor_11 : decode cX11_treeFor 11 = .ok (.iconst 4, 1) := by decide +kernel
theorem dX11_treeFor_12 : decode cX11_treeFor 12 = .ok (.iaload, 1) := by decide +kernel
theorem dX11_treeFor_13 : decode cX11_treeFor 13 = .ok (.if_icmp .ge 97, 3) := by decide +kernel
theorem dX11_treeFor_16 : decode cX11_treeFor 16 = .ok (.aload_n 0, 1) := by decide +kernel
theorem dX11_treeFor_17 : decode cX11_treeFor 17 = .ok (.getfield 7, 3) := by decide +kernel
theorem dX11_treeFor_20 : decode cX11_treeFor 20 = .ok (.bipush 34, 2) := by decide +kernel
theorem dX11_treeFor_22 : decode cX11_treeFor 22 = .ok (.iload 4, 2) := by decide +kernel
theorem dX11_treeFor_24 : decode cX11_treeFor 24 = .ok (.iadd, 1) := by decide +kernel
theorem dX11_treeFor_25 : decode cX11_treeFor 25 = .ok (.iaload, 1) := by decide +kernel
theorem dX11_treeFor_26 : decode cX11_treeFor 26 = .ok (.iload_n 2, 1) := by decide +kernel
theorem dX11_treeFor_27 : decode cX11_treeFor 27 = .ok (.if_icmp .ne 77, 3) := by decide +kernel
theorem dX11_treeFor_30 : decode cX11_treeFor 30 = .ok (.aload_n 0, 1) := by decide +kernel
theorem dX11_treeFor_31 : decode cX11_treeFor 31 = .ok (.getfield 7, 3) := by decide +kernel
theorem dX11_treeFor_34 : decode cX11_treeFor 34 = .ok (.bipush 62, 2) := by decide +kernel
theorem dX11_treeFor_36 : decode cX11_treeFor 36 = .ok (.iload 4, 2) := by decide +kernel
theorem dX11_treeFor_38 : decode cX11_treeFor 38 = .ok (.iadd, 1) := by decide +kernel
theorem dX11_treeFor_39 : decode cX11_treeFor 39 = .ok (.iaload, 1) := by decide +kernel
theorem dX11_treeFor_40 : decode cX11_treeFor 40 = .ok (.ifCond .eq 64, 3) := by decide +kernel
theorem dX11_treeFor_43 : decode cX11_treeFor 43 = .ok (.aload_n 0, 1) := by decide +kernel
theorem dX11_treeFor_44 : decode cX11_treeFor 44 = .ok (.iload_n 1, 1) := by decide +kernel
theorem dX11_treeFor_45 : decode cX11_treeFor 45 = .ok (.aload_n 0, 1) := by decide +kernel
theorem dX11_treeFor_46 : decode cX11_treeFor 46 = .ok (.getfield 7, 3) := by decide +kernel
theorem dX11_treeFor_49 : decode cX11_treeFor 49 = .ok (.bipush 20, 2) := by decide +kernel
theorem dX11_treeFor_51 : decode cX11_treeFor 51 = .ok (.iload 4, 2) := by decide +kernel
theorem dX11_treeFor_53 : decode cX11_treeFor 53 = .ok (.iadd, 1) := by decide +kernel
theorem dX11_treeFor_54 : decode cX11_treeFor 54 = .ok (.iaload, 1) := by decide +kernel
theorem dX11_treeFor_55 : decode cX11_treeFor 55 = .ok (.invokevirtual 313, 3) := by decide +kernel
theorem dX11_treeFor_58 : decode cX11_treeFor 58 = .ok (.ifCond .ne 6, 3) := by decide +kernel
theorem dX11_treeFor_61 : decode cX11_treeFor 61 = .ok (.goto 43, 3) := by decide +kernel
theorem dX11_treeFor_64 : decode cX11_treeFor 64 = .ok (.iload_n 3, 1) := by decide +kernel
theorem dX11_treeFor_65 : decode cX11_treeFor 65 = .ok (.iconst (-1), 1) := by decide +kernel
theorem dX11_treeFor_66 : decode cX11_treeFor 66 = .ok (.if_icmp .eq 35, 3) := by decide +kernel
theorem dX11_treeFor_69 : decode cX11_treeFor 69 = .ok (.aload_n 0, 1) := by decide +kernel
theorem dX11_treeFor_70 : decode cX11_treeFor 70 = .ok (.iload_n 1, 1) := by decide +kernel
theorem dX11_treeFor_71 : decode cX11_treeFor 71 = .ok (.aload_n 0, 1) := by decide +kernel
theorem dX11_treeFor_72 : decode cX11_treeFor 72 = .ok (.getfield 7, 3) := by decide +kernel
theorem dX11_treeFor_75 : decode cX11_treeFor 75 = .ok (.bipush 20, 2) := by decide +kernel
theorem dX11_treeFor_77 : decode cX11_treeFor 77 = .ok (.iload 4, 2) := by decide +kernel
theorem dX11_treeFor_79 : decode cX11_treeFor 79 = .ok (.iadd, 1) := by decide +kernel
theorem dX11_treeFor_80 : decode cX11_treeFor 80 = .ok (.iaload, 1) := by decide +kernel
theorem dX11_treeFor_81 : decode cX11_treeFor 81 = .ok (.invokevirtual 313, 3) := by decide +kernel
theorem dX11_treeFor_84 : decode cX11_treeFor 84 = .ok (.aload_n 0, 1) := by decide +kernel
theorem dX11_treeFor_85 : decode cX11_treeFor 85 = .ok (.iload_n 1, 1) := by decide +kernel
theorem dX11_treeFor_86 : decode cX11_treeFor 86 = .ok (.aload_n 0, 1) := by decide +kernel
theorem dX11_treeFor_87 : decode cX11_treeFor 87 = .ok (.getfield 7, 3) := by decide +kernel
theorem dX11_treeFor_90 : decode cX11_treeFor 90 = .ok (.bipush 20, 2) := by decide +kernel
theorem dX11_treeFor_92 : decode cX11_treeFor 92 = .ok (.iload_n 3, 1) := by decide +kernel
theorem dX11_treeFor_93 : decode cX11_treeFor 93 = .ok (.iadd, 1) := by decide +kernel
theorem dX11_treeFor_94 : decode cX11_treeFor 94 = .ok (.iaload, 1) := by decide +kernel
theorem dX11_treeFor_95 : decode cX11_treeFor 95 = .ok (.invokevirtual 313, 3) := by decide +kernel
theorem dX11_treeFor_98 : decode cX11_treeFor 98 = .ok (.if_icmp .le 6, 3) := by decide +kernel
theorem dX11_treeFor_101 : decode cX11_treeFor 101 = .ok (.iload 4, 2) := by decide +kernel
theorem dX11_treeFor_103 : decode cX11_treeFor 103 = .ok (.istore_n 3, 1) := by decide +kernel
theorem dX11_treeFor_104 : decode cX11_treeFor 104 = .ok (.iinc 4 1, 3) := by decide +kernel
theorem dX11_treeFor_107 : decode cX11_treeFor 107 = .ok (.goto (-102), 3) := by decide +kernel
theorem dX11_treeFor_110 : decode cX11_treeFor 110 = .ok (.iload_n 3, 1) := by decide +kernel
theorem dX11_treeFor_111 : decode cX11_treeFor 111 = .ok (.ireturn, 1) := by decide +kernel
theorem dX11_jamFor_0 : decode cX11_jamFor 0 = .ok (.iconst (-1), 1) := by decide +kernel
theorem dX11_jamFor_1 : decode cX11_jamFor 1 = .ok (.istore_n 2, 1) := by decide +kernel
theorem dX11_jamFor_2 : decode cX11_jamFor 2 = .ok (.iconst 0, 1) := by decide +kernel
theorem dX11_jamFor_3 : decode cX11_jamFor 3 = .ok (.istore_n 3, 1) := by decide +kernel
theorem dX11_jamFor_4 : decode cX11_jamFor 4 = .ok (.iload_n 3, 1) := by decide +kernel
theorem dX11_jamFor_5 : decode cX11_jamFor 5 = .ok (.aload_n 0, 1) := by decide +kernel
theorem dX11_jamFor_6 : decode cX11_jamFor 6 = .ok (.getfield 116, 3) := by decide +kernel
theorem dX11_jamFor_9 : decode cX11_jamFor 9 = .ok (.if_icmp .ge 52, 3) := by decide +kernel
theorem dX11_jamFor_12 : decode cX11_jamFor 12 = .ok (.aload_n 0, 1) := by decide +kernel
theorem dX11_jamFor_13 : decode cX11_jamFor 13 = .ok (.getfield 7, 3) := by decide +kernel
theorem dX11_jamFor_16 : decode cX11_jamFor 16 = .ok (.bipush 15, 2) := by decide +kernel
theorem dX11_jamFor_18 : decode cX11_jamFor 18 = .ok (.iload_n 3, 1) := by decide +kernel
theorem dX11_jamFor_19 : decode cX11_jamFor 19 = .ok (.iadd, 1) := by decide +kernel
theorem dX11_jamFor_20 : decode cX11_jamFor 20 = .ok (.iaload, 1) := by decide +kernel
theorem dX11_jamFor_21 : decode cX11_jamFor 21 = .ok (.ifCond .le 34, 3) := by decide +kernel
theorem dX11_jamFor_24 : decode cX11_jamFor 24 = .ok (.aload_n 0, 1) := by decide +kernel
theorem dX11_jamFor_25 : decode cX11_jamFor 25 = .ok (.iload_n 1, 1) := by decide +kernel
theorem dX11_jamFor_26 : decode cX11_jamFor 26 = .ok (.iload_n 3, 1) := by decide +kernel
theorem dX11_jamFor_27 : decode cX11_jamFor 27 = .ok (.invokevirtual 313, 3) := by decide +kernel
theorem dX11_jamFor_30 : decode cX11_jamFor 30 = .ok (.ifCond .le 25, 3) := by decide +kernel
theorem dX11_jamFor_33 : decode cX11_jamFor 33 = .ok (.iload_n 2, 1) := by decide +kernel
theorem dX11_jamFor_34 : decode cX11_jamFor 34 = .ok (.iconst (-1), 1) := by decide +kernel
theorem dX11_jamFor_35 : decode cX11_jamFor 35 = .ok (.if_icmp .eq 18, 3) := by decide +kernel
theorem dX11_jamFor_38 : decode cX11_jamFor 38 = .ok (.aload_n 0, 1) := by decide +kernel
theorem dX11_jamFor_39 : decode cX11_jamFor 39 = .ok (.iload_n 1, 1) := by decide +kernel
theorem dX11_jamFor_40 : decode cX11_jamFor 40 = .ok (.iload_n 3, 1) := by decide +kernel
theorem dX11_jamFor_41 : decode cX11_jamFor 41 = .ok (.invokevirtual 313, 3) := by decide +kernel
theorem dX11_jamFor_44 : decode cX11_jamFor 44 = .ok (.aload_n 0, 1) := by decide +kernel
theorem dX11_jamFor_45 : decode cX11_jamFor 45 = .ok (.iload_n 1, 1) := by decide +kernel
theorem dX11_jamFor_46 : decode cX11_jamFor 46 = .ok (.iload_n 2, 1) := by decide +kernel
theorem dX11_jamFor_47 : decode cX11_jamFor 47 = .ok (.invokevirtual 313, 3) := by decide +kernel
theorem dX11_jamFor_50 : decode cX11_jamFor 50 = .ok (.if_icmp .le 5, 3) := by decide +kernel
theorem dX11_jamFor_53 : decode cX11_jamFor 53 = .ok (.iload_n 3, 1) := by decide +kernel
theorem dX11_jamFor_54 : decode cX11_jamFor 54 = .ok (.istore_n 2, 1) := by decide +kernel
theorem dX11_jamFor_55 : decode cX11_jamFor 55 = .ok (.iinc 3 1, 3) := by decide +kernel
theorem dX11_jamFor_58 : decode cX11_jamFor 58 = .ok (.goto (-54), 3) := by decide +kernel
theorem dX11_jamFor_61 : decode cX11_jamFor 61 = .ok (.iload_n 2, 1) := by decide +kernel
theorem dX11_jamFor_62 : decode cX11_jamFor 62 = .ok (.ireturn, 1) := by decide +kernel
theorem dX11_isGood_0 : decode cX11_isGood 0 = .ok (.aload_n 0, 1) := by decide +kernel
theorem dX11_isGood_1 : decode cX11_isGood 1 = .ok (.getfield 7, 3) := by decide +kernel
theorem dX11_isGood_4 : decode cX11_isGood 4 = .ok (.bipush 20, 2) := by decide +kernel
theorem dX11_isGood_6 : decode cX11_isGood 6 = .ok (.iload_n 2, 1) := by decide +kernel
theorem dX11_isGood_7 : decode cX11_isGood 7 = .ok (.iadd, 1) := by decide +kernel
theorem dX11_isGood_8 : decode cX11_isGood 8 = .ok (.iaload, 1) := by decide +kernel
theorem dX11_isGood_9 : decode cX11_isGood 9 = .ok (.istore_n 3, 1) := by decide +kernel
theorem dX11_isGood_10 : decode cX11_isGood 10 = .ok (.aload_n 0, 1) := by decide +kernel
theorem dX11_isGood_11 : decode cX11_isGood 11 = .ok (.iload_n 3, 1) := by decide +kernel
theorem dX11_isGood_12 : decode cX11_isGood 12 = .ok (.aload_n 0, 1) := by decide +kernel
theorem dX11_isGood_13 : decode cX11_isGood 13 = .ok (.iload_n 1, 1) := by decide +kernel
theorem dX11_isGood_14 : decode cX11_isGood 14 = .ok (.iload_n 3, 1) := by decide +kernel
theorem dX11_isGood_15 : decode cX11_isGood 15 = .ok (.iload_n 2, 1) := by decide +kernel
theorem dX11_isGood_16 : decode cX11_isGood 16 = .ok (.invokevirtual 348, 3) := by decide +kernel
theorem dX11_isGood_19 : decode cX11_isGood 19 = .ok (.invokevirtual 351, 3) := by decide +kernel
theorem dX11_isGood_22 : decode cX11_isGood 22 = .ok (.aload_n 0, 1) := by decide +kernel
theorem dX11_isGood_23 : decode cX11_isGood 23 = .ok (.getfield 7, 3) := by decide +kernel
theorem dX11_isGood_26 : decode cX11_isGood 26 = .ok (.bipush 62, 2) := by decide +kernel
theorem dX11_isGood_28 : decode cX11_isGood 28 = .ok (.iload_n 2, 1) := by decide +kernel
theorem dX11_isGood_29 : decode cX11_isGood 29 = .ok (.iadd, 1) := by decide +kernel
theorem dX11_isGood_30 : decode cX11_isGood 30 = .ok (.aload_n 0, 1) := by decide +kernel
theorem dX11_isGood_31 : decode cX11_isGood 31 = .ok (.getfield 7, 3) := by decide +kernel
theorem dX11_isGood_34 : decode cX11_isGood 34 = .ok (.bipush 62, 2) := by decide +kernel
theorem dX11_isGood_36 : decode cX11_isGood 36 = .ok (.iload_n 2, 1) := by decide +kernel
theorem dX11_isGood_37 : decode cX11_isGood 37 = .ok (.iadd, 1) := by decide +kernel
theorem dX11_isGood_38 : decode cX11_isGood 38 = .ok (.iaload, 1) := by decide +kernel
theorem dX11_isGood_39 : decode cX11_isGood 39 = .ok (.iconst 1, 1) := by decide +kernel
theorem dX11_isGood_40 : decode cX11_isGood 40 = .ok (.isub, 1) := by decide +kernel
theorem dX11_isGood_41 : decode cX11_isGood 41 = .ok (.iastore, 1) := by decide +kernel
theorem dX11_isGood_42 : decode cX11_isGood 42 = .ok (.aload_n 0, 1) := by decide +kernel
theorem dX11_isGood_43 : decode cX11_isGood 43 = .ok (.getfield 92, 3) := by decide +kernel
theorem dX11_isGood_46 : decode cX11_isGood 46 = .ok (.ifCond .ne 24, 3) := by decide +kernel
theorem dX11_isGood_49 : decode cX11_isGood 49 = .ok (.aload_n 0, 1) := by decide +kernel
theorem dX11_isGood_50 : decode cX11_isGood 50 = .ok (.getfield 147, 3) := by decide +kernel
theorem dX11_isGood_53 : decode cX11_isGood 53 = .ok (.ifCond .eq 17, 3) := by decide +kernel
theorem dX11_isGood_56 : decode cX11_isGood 56 = .ok (.aload_n 0, 1) := by decide +kernel
theorem dX11_isGood_57 : decode cX11_isGood 57 = .ok (.sipush 1000, 3) := by decide +kernel
theorem dX11_isGood_60 : decode cX11_isGood 60 = .ok (.invokevirtual 354, 3) := by decide +kernel
theorem dX11_isGood_63 : decode cX11_isGood 63 = .ok (.aload_n 0, 1) := by decide +kernel
theorem dX11_isGood_64 : decode cX11_isGood 64 = .ok (.getfield 147, 3) := by decide +kernel
theorem dX11_isGood_67 : decode cX11_isGood 67 = .ok (.if_icmp .lt 5, 3) := by decide +kernel
theorem dX11_isGood_70 : decode cX11_isGood 70 = .ok (.iconst 1, 1) := by decide +kernel
theorem dX11_isGood_71 : decode cX11_isGood 71 = .ok (.ireturn, 1) := by decide +kernel
theorem dX11_isGood_72 : decode cX11_isGood 72 = .ok (.aload_n 0, 1) := by decide +kernel
theorem dX11_isGood_73 : decode cX11_isGood 73 = .ok (.iload_n 1, 1) := by decide +kernel
theorem dX11_isGood_74 : decode cX11_isGood 74 = .ok (.iload_n 3, 1) := by decide +kernel
theorem dX11_isGood_75 : decode cX11_isGood 75 = .ok (.aload_n 0, 1) := by decide +kernel
theorem dX11_isGood_76 : decode cX11_isGood 76 = .ok (.iload_n 1, 1) := by decide +kernel
theorem dX11_isGood_77 : decode cX11_isGood 77 = .ok (.iload_n 3, 1) := by decide +kernel
theorem dX11_isGood_78 : decode cX11_isGood 78 = .ok (.invokevirtual 313, 3) := by decide +kernel
theorem dX11_isGood_81 : decode cX11_isGood 81 = .ok (.iconst 2, 1) := by decide +kernel
theorem dX11_isGood_82 : decode cX11_isGood 82 = .ok (.isub, 1) := by decide +kernel
theorem dX11_isGood_83 : decode cX11_isGood 83 = .ok (.invokevirtual 137, 3) := by decide +kernel
theorem dX11_isGood_86 : decode cX11_isGood 86 = .ok (.aload_n 0, 1) := by decide +kernel
theorem dX11_isGood_87 : decode cX11_isGood 87 = .ok (.iconst 4, 1) := by decide +kernel
theorem dX11_isGood_88 : decode cX11_isGood 88 = .ok (.iload_n 1, 1) := by decide +kernel
theorem dX11_isGood_89 : decode cX11_isGood 89 = .ok (.iload_n 3, 1) := by decide +kernel
theorem dX11_isGood_90 : decode cX11_isGood 90 = .ok (.invokevirtual 316, 3) := by decide +kernel
theorem dX11_isGood_93 : decode cX11_isGood 93 = .ok (.iconst 0, 1) := by decide +kernel
theorem dX11_isGood_94 : decode cX11_isGood 94 = .ok (.ireturn, 1) := by decide +kernel
theorem dX11_leftByPath_0 : decode cX11_leftByPath 0 = .ok (.iload_n 2, 1) := by decide +kernel
theorem dX11_leftByPath_1 : decode cX11_leftByPath 1 = .ok (.istore_n 3, 1) := by decide +kernel
theorem dX11_leftByPath_2 : decode cX11_leftByPath 2 = .ok (.bipush 9, 2) := by decide +kernel
theorem dX11_leftByPath_4 : decode cX11_leftByPath 4 = .ok (.iload_n 1, 1) := by decide +kernel
theorem dX11_leftByPath_5 : decode cX11_leftByPath 5 = .ok (.imul, 1) := by decide +kernel
theorem dX11_leftByPath_6 : decode cX11_leftByPath 6 = .ok (.istore 4, 2) := by decide +kernel
theorem dX11_leftByPath_8 : decode cX11_leftByPath 8 = .ok (.iconst 1, 1) := by decide +kernel
theorem dX11_leftByPath_9 : decode cX11_leftByPath 9 = .ok (.istore 5, 2) := by decide +kernel
theorem dX11_leftByPath_11 : decode cX11_leftByPath 11 = .ok (.iload 5, 2) := by decide +kernel
theorem dX11_leftByPath_13 : decode cX11_leftByPath 13 = .ok (.aload_n 0, 1) := by decide +kernel
theorem dX11_leftByPath_14 : decode cX11_leftByPath 14 = .ok (.getfield 56, 3) := by decide +kernel
theorem dX11_leftByPath_17 : decode cX11_leftByPath 17 = .ok (.iload 4, 2) := by decide +kernel
theorem dX11_leftByPath_19 : decode cX11_leftByPath 19 = .ok (.iaload, 1) := by decide +kernel
theorem dX11_leftByPath_20 : decode cX11_leftByPath 20 = .ok (.if_icmp .gt 81, 3) := by decide +kernel
theorem dX11_leftByPath_23 : decode cX11_leftByPath 23 = .ok (.aload_n 0, 1) := by decide +kernel
theorem dX11_leftByPath_24 : decode cX11_leftByPath 24 = .ok (.getfield 56, 3) := by decide +kernel
theorem dX11_leftByPath_27 : decode cX11_leftByPath 27 = .ok (.iload 4, 2) := by decide +kernel
theorem dX11_leftByPath_29 : decode cX11_leftByPath 29 = .ok (.iload 5, 2) := by decide +kernel
theorem dX11_leftByPath_31 : decode cX11_leftByPath 31 = .ok (.iadd, 1) := by decide +kernel
theorem dX11_leftByPath_32 : decode cX11_leftByPath 32 = .ok (.iaload, 1) := by decide +kernel
theorem dX11_leftByPath_33 : decode cX11_leftByPath 33 = .ok (.istore 6, 2) := by decide +kernel
theorem dX11_leftByPath_35 : decode cX11_leftByPath 35 = .ok (.aload_n 0, 1) := by decide +kernel
theorem dX11_leftByPath_36 : decode cX11_leftByPath 36 = .ok (.iload 6, 2) := by decide +kernel
theorem dX11_leftByPath_38 : decode cX11_leftByPath 38 = .ok (.invokevirtual 335, 3) := by decide +kernel
theorem dX11_leftByPath_41 : decode cX11_leftByPath 41 = .ok (.ifCond .eq 7, 3) := by decide +kernel
theorem dX11_leftByPath_44 : decode cX11_leftByPath 44 = .ok (.iconst (-1), 1) := by decide +kernel
theorem dX11_leftByPath_45 : decode cX11_leftByPath 45 = .ok (.goto 10, 3) := by decide +kernel
theorem dX11_leftByPath_48 : decode cX11_leftByPath 48 = .ok (.aload_n 0, 1) := by decide +kernel
theorem dX11_leftByPath_49 : decode cX11_leftByPath 49 = .ok (.iload_n 1, 1) := by decide +kernel
theorem dX11_leftByPath_50 : decode cX11_leftByPath 50 = .ok (.iload 6, 2) := by decide +kernel
theorem dX11_leftByPath_52 : decode cX11_leftByPath 52 = .ok (.invokevirtual 357, 3) := by decide +kernel
theorem dX11_leftByPath_55 : decode cX11_leftByPath 55 = .ok (.istore 7, 2) := by decide +kernel
theorem dX11_leftByPath_57 : decode cX11_leftByPath 57 = .ok (.iload_n 3, 1) := by decide +kernel
theorem dX11_leftByPath_58 : decode cX11_leftByPath 58 = .ok (.ifCond .le 37, 3) := by decide +kernel
theorem dX11_leftByPath_61 : decode cX11_leftByPath 61 = .ok (.iload 7, 2) := by decide +kernel
theorem dX11_leftByPath_63 : decode cX11_leftByPath 63 = .ok (.iconst (-1), 1) := by decide +kernel
theorem dX11_leftByPath_64 : decode cX11_leftByPath 64 = .ok (.if_icmp .eq 31, 3) := by decide +kernel
theorem dX11_leftByPath_67 : decode cX11_leftByPath 67 = .ok (.iload_n 3, 1) := by decide +kernel
theorem dX11_leftByPath_68 : decode cX11_leftByPath 68 = .ok (.iconst 1, 1) := by decide +kernel
theorem dX11_leftByPath_69 : decode cX11_leftByPath 69 = .ok (.isub, 1) := by decide +kernel
theorem dX11_leftByPath_70 : decode cX11_leftByPath 70 = .ok (.istore_n 3, 1) := by decide +kernel
theorem dX11_leftByPath_71 : decode cX11_leftByPath 71 = .ok (.aload_n 0, 1) := by decide +kernel
theorem dX11_leftByPath_72 : decode cX11_leftByPath 72 = .ok (.iload_n 1, 1) := by decide +kernel
theorem dX11_leftByPath_73 : decode cX11_leftByPath 73 = .ok (.iload 7, 2) := by decide +kernel
theorem dX11_leftByPath_75 : decode cX11_leftByPath 75 = .ok (.invokevirtual 360, 3) := by decide +kernel
theorem dX11_leftByPath_78 : decode cX11_leftByPath 78 = .ok (.ifCond .ne 5, 3) := by decide +kernel
theorem dX11_leftByPath_81 : decode cX11_leftByPath 81 = .ok (.iconst (-1), 1) := by decide +kernel
theorem dX11_leftByPath_82 : decode cX11_leftByPath 82 = .ok (.ireturn, 1) := by decide +kernel
theorem dX11_leftByPath_83 : decode cX11_leftByPath 83 = .ok (.aload_n 0, 1) := by decide +kernel
theorem dX11_leftByPath_84 : decode cX11_leftByPath 84 = .ok (.iload_n 1, 1) := by decide +kernel
theorem dX11_leftByPath_85 : decode cX11_leftByPath 85 = .ok (.iload 6, 2) := by decide +kernel
theorem dX11_leftByPath_87 : decode cX11_leftByPath 87 = .ok (.invokevirtual 357, 3) := by decide +kernel
theorem dX11_leftByPath_90 : decode cX11_leftByPath 90 = .ok (.istore 7, 2) := by decide +kernel
theorem dX11_leftByPath_92 : decode cX11_leftByPath 92 = .ok (.goto (-35), 3) := by decide +kernel
theorem dX11_leftByPath_95 : decode cX11_leftByPath 95 = .ok (.iinc 5 1, 3) := by decide +kernel
theorem dX11_leftByPath_98 : decode cX11_leftByPath 98 = .ok (.goto (-87), 3) := by decide +kernel
theorem dX11_leftByPath_101 : decode cX11_leftByPath 101 = .ok (.iload_n 3, 1) := by decide +kernel
theorem dX11_leftByPath_102 : decode cX11_leftByPath 102 = .ok (.ireturn, 1) := by decide +kernel
theorem dX11_isHungry_0 : decode cX11_isHungry 0 = .ok (.aload_n 0, 1) := by decide +kernel
theorem dX11_isHungry_1 : decode cX11_isHungry 1 = .ok (.iload_n 1, 1) := by decide +kernel
theorem dX11_isHungry_2 : decode cX11_isHungry 2 = .ok (.aload_n 0, 1) := by decide +kernel
theorem dX11_isHungry_3 : decode cX11_isHungry 3 = .ok (.iload_n 1, 1) := by decide +kernel
theorem dX11_isHungry_4 : decode cX11_isHungry 4 = .ok (.invokevirtual 363, 3) := by decide +kernel
theorem dX11_isHungry_7 : decode cX11_isHungry 7 = .ok (.invokevirtual 366, 3) := by decide +kernel
theorem dX11_isHungry_10 : decode cX11_isHungry 10 = .ok (.istore_n 2, 1) := by decide +kernel
theorem dX11_isHungry_11 : decode cX11_isHungry 11 = .ok (.iload_n 2, 1) := by decide +kernel
theorem dX11_isHungry_12 : decode cX11_isHungry 12 = .ok (.ifCond .le 11, 3) := by decide +kernel
theorem dX11_isHungry_15 : decode cX11_isHungry 15 = .ok (.aload_n 0, 1) := by decide +kernel
theorem dX11_isHungry_16 : decode cX11_isHungry 16 = .ok (.iload_n 1, 1) := by decide +kernel
theorem dX11_isHungry_17 : decode cX11_isHungry 17 = .ok (.invokevirtual 369, 3) := by decide +kernel
theorem dX11_isHungry_20 : decode cX11_isHungry 20 = .ok (.goto 4, 3) := by decide +kernel
theorem dX11_isHungry_23 : decode cX11_isHungry 23 = .ok (.iconst (-1), 1) := by decide +kernel
theorem dX11_isHungry_24 : decode cX11_isHungry 24 = .ok (.istore_n 3, 1) := by decide +kernel
theorem dX11_isHungry_25 : decode cX11_isHungry 25 = .ok (.iload_n 2, 1) := by decide +kernel
theorem dX11_isHungry_26 : decode cX11_isHungry 26 = .ok (.ifCond .le 53, 3) := by decide +kernel
theorem dX11_isHungry_29 : decode cX11_isHungry 29 = .ok (.iload_n 3, 1) := by decide +kernel
theorem dX11_isHungry_30 : decode cX11_isHungry 30 = .ok (.iconst (-1), 1) := by decide +kernel
theorem dX11_isHungry_31 : decode cX11_isHungry 31 = .ok (.if_icmp .eq 48, 3) := by decide +kernel
theorem dX11_isHungry_34 : decode cX11_isHungry 34 = .ok (.aload_n 0, 1) := by decide +kernel
theorem dX11_isHungry_35 : decode cX11_isHungry 35 = .ok (.iload_n 3, 1) := by decide +kernel
theorem dX11_isHungry_36 : decode cX11_isHungry 36 = .ok (.aload_n 0, 1) := by decide +kernel
theorem dX11_isHungry_37 : decode cX11_isHungry 37 = .ok (.iload_n 1, 1) := by decide +kernel
theorem dX11_isHungry_38 : decode cX11_isHungry 38 = .ok (.iload_n 3, 1) := by decide +kernel
theorem dX11_isHungry_39 : decode cX11_isHungry 39 = .ok (.iconst (-1), 1) := by decide +kernel
theorem dX11_isHungry_40 : decode cX11_isHungry 40 = .ok (.invokevirtual 348, 3) := by decide +kernel
theorem dX11_isHungry_43 : decode cX11_isHungry 43 = .ok (.invokevirtual 351, 3) := by decide +kernel
theorem dX11_isHungry_46 : decode cX11_isHungry 46 = .ok (.aload_n 0, 1) := by decide +kernel
theorem dX11_isHungry_47 : decode cX11_isHungry 47 = .ok (.getfield 7, 3) := by decide +kernel
theorem dX11_isHungry_50 : decode cX11_isHungry 50 = .ok (.bipush 15, 2) := by decide +kernel
theorem dX11_isHungry_52 : decode cX11_isHungry 52 = .ok (.iload_n 3, 1) := by decide +kernel
theorem dX11_isHungry_53 : decode cX11_isHungry 53 = .ok (.iadd, 1) := by decide +kernel
theorem dX11_isHungry_54 : decode cX11_isHungry 54 = .ok (.aload_n 0, 1) := by decide +kernel
theorem dX11_isHungry_55 : decode cX11_isHungry 55 = .ok (.getfield 7, 3) := by decide +kernel
theorem dX11_isHungry_58 : decode cX11_isHungry 58 = .ok (.bipush 15, 2) := by decide +kernel
theorem dX11_isHungry_60 : decode cX11_isHungry 60 = .ok (.iload_n 3, 1) := by decide +kernel
theorem dX11_isHungry_61 : decode cX11_isHungry 61 = .ok (.iadd, 1) := by decide +kernel
theorem dX11_isHungry_62 : decode cX11_isHungry 62 = .ok (.iaload, 1) := by decide +kernel
theorem dX11_isHungry_63 : decode cX11_isHungry 63 = .ok (.iconst 1, 1) := by decide +kernel
theorem dX11_isHungry_64 : decode cX11_isHungry 64 = .ok (.isub, 1) := by decide +kernel
theorem dX11_isHungry_65 : decode cX11_isHungry 65 = .ok (.iastore, 1) := by decide +kernel
theorem dX11_isHungry_66 : decode cX11_isHungry 66 = .ok (.iload_n 2, 1) := by decide +kernel
theorem dX11_isHungry_67 : decode cX11_isHungry 67 = .ok (.iconst 1, 1) := by decide +kernel
theorem dX11_isHungry_68 : decode cX11_isHungry 68 = .ok (.isub, 1) := by decide +kernel
theorem dX11_isHungry_69 : decode cX11_isHungry 69 = .ok (.istore_n 2, 1) := by decide +kernel
theorem dX11_isHungry_70 : decode cX11_isHungry 70 = .ok (.aload_n 0, 1) := by decide +kernel
theorem dX11_isHungry_71 : decode cX11_isHungry 71 = .ok (.iload_n 1, 1) := by decide +kernel
theorem dX11_isHungry_72 : decode cX11_isHungry 72 = .ok (.invokevirtual 369, 3) := by decide +kernel
theorem dX11_isHungry_75 : decode cX11_isHungry 75 = .ok (.istore_n 3, 1) := by decide +kernel
theorem dX11_isHungry_76 : decode cX11_isHungry 76 = .ok (.goto (-51), 3) := by decide +kernel
theorem dX11_isHungry_79 : decode cX11_isHungry 79 = .ok (.iload_n 2, 1) := by decide +kernel
theorem dX11_isHungry_80 : decode cX11_isHungry 80 = .ok (.ifCond .gt 5, 3) := by decide +kernel
theorem dX11_isHungry_83 : decode cX11_isHungry 83 = .ok (.iconst 0, 1) := by decide +kernel
theorem dX11_isHungry_84 : decode cX11_isHungry 84 = .ok (.ireturn, 1) := by decide +kernel
theorem dX11_isHungry_85 : decode cX11_isHungry 85 = .ok (.aload_n 0, 1) := by decide +kernel
theorem dX11_isHungry_86 : decode cX11_isHungry 86 = .ok (.iconst 5, 1) := by decide +kernel
theorem dX11_isHungry_87 : decode cX11_isHungry 87 = .ok (.iload_n 1, 1) := by decide +kernel
theorem dX11_isHungry_88 : decode cX11_isHungry 88 = .ok (.iload_n 2, 1) := by decide +kernel
theorem dX11_isHungry_89 : decode cX11_isHungry 89 = .ok (.invokevirtual 316, 3) := by decide +kernel
theorem dX11_isHungry_92 : decode cX11_isHungry 92 = .ok (.iconst 1, 1) := by decide +kernel
theorem dX11_isHungry_93 : decode cX11_isHungry 93 = .ok (.ireturn, 1) := by decide +kernel
theorem dX11_votesInAll_0 : decode cX11_votesInAll 0 = .ok (.iconst 0, 1) := by decide +kernel
theorem dX11_votesInAll_1 : decode cX11_votesInAll 1 = .ok (.istore_n 1, 1) := by decide +kernel
theorem dX11_votesInAll_2 : decode cX11_votesInAll 2 = .ok (.iconst 0, 1) := by decide +kernel
theorem dX11_votesInAll_3 : decode cX11_votesInAll 3 = .ok (.istore_n 2, 1) := by decide +kernel
theorem dX11_votesInAll_4 : decode cX11_votesInAll 4 = .ok (.iload_n 2, 1) := by decide +kernel
theorem dX11_votesInAll_5 : decode cX11_votesInAll 5 = .ok (.aload_n 0, 1) := by decide +kernel
theorem dX11_votesInAll_6 : decode cX11_votesInAll 6 = .ok (.getfield 116, 3) := by decide +kernel
theorem dX11_votesInAll_9 : decode cX11_votesInAll 9 = .ok (.if_icmp .ge 20, 3) := by decide +kernel
theorem dX11_votesInAll_12 : decode cX11_votesInAll 12 = .ok (.iload_n 1, 1) := by decide +kernel
theorem dX11_votesInAll_13 : decode cX11_votesInAll 13 = .ok (.aload_n 0, 1) := by decide +kernel
theorem dX11_votesInAll_14 : decode cX11_votesInAll 14 = .ok (.getfield 7, 3) := by decide +kernel
theorem dX11_votesInAll_17 : decode cX11_votesInAll 17 = .ok (.iconst 5, 1) := by decide +kernel
theorem dX11_votesInAll_18 : decode cX11_votesInAll 18 = .ok (.iload_n 2, 1) := by decide +kernel
theorem dX11_votesInAll_19 : decode cX11_votesInAll 19 = .ok (.iadd, 1) := by decide +kernel
theorem dX11_votesInAll_20 : decode cX11_votesInAll 20 = .ok (.iaload, 1) := by decide +kernel
theorem dX11_votesInAll_21 : decode cX11_votesInAll 21 = .ok (.iadd, 1) := by decide +kernel
theorem dX11_votesInAll_22 : decode cX11_votesInAll 22 = .ok (.istore_n 1, 1) := by decide +kernel
theorem dX11_votesInAll_23 : decode cX11_votesInAll 23 = .ok (.iinc 2 1, 3) := by decide +kernel
theorem dX11_votesInAll_26 : decode cX11_votesInAll 26 = .ok (.goto (-22), 3) := by decide +kernel
theorem dX11_votesInAll_29 : decode cX11_votesInAll 29 = .ok (.iload_n 1, 1) := by decide +kernel
theorem dX11_votesInAll_30 : decode cX11_votesInAll 30 = .ok (.ireturn, 1) := by decide +kernel
theorem dX11_isAhead_0 : decode cX11_isAhead 0 = .ok (.aload_n 0, 1) := by decide +kernel
theorem dX11_isAhead_1 : decode cX11_isAhead 1 = .ok (.getfield 71, 3) := by decide +kernel
theorem dX11_isAhead_4 : decode cX11_isAhead 4 = .ok (.iload_n 1, 1) := by decide +kernel
theorem dX11_isAhead_5 : decode cX11_isAhead 5 = .ok (.iaload, 1) := by decide +kernel
theorem dX11_isAhead_6 : decode cX11_isAhead 6 = .ok (.aload_n 0, 1) := by decide +kernel
theorem dX11_isAhead_7 : decode cX11_isAhead 7 = .ok (.getfield 71, 3) := by decide +kernel
theorem dX11_isAhead_10 : decode cX11_isAhead 10 = .ok (.iload_n 2, 1) := by decide +kernel
theorem dX11_isAhead_11 : decode cX11_isAhead 11 = .ok (.iaload, 1) := by decide +kernel
theorem dX11_isAhead_12 : decode cX11_isAhead 12 = .ok (.if_icmp .gt 33, 3) := by decide +kernel
theorem dX11_isAhead_15 : decode cX11_isAhead 15 = .ok (.aload_n 0, 1) := by decide +kernel
theorem dX11_isAhead_16 : decode cX11_isAhead 16 = .ok (.getfield 71, 3) := by decide +kernel
theorem dX11_isAhead_19 : decode cX11_isAhead 19 = .ok (.iload_n 1, 1) := by decide +kernel
theorem dX11_isAhead_20 : decode cX11_isAhead 20 = .ok (.iaload, 1) := by decide +kernel
theorem dX11_isAhead_21 : decode cX11_isAhead 21 = .ok (.aload_n 0, 1) := by decide +kernel
theorem dX11_isAhead_22 : decode cX11_isAhead 22 = .ok (.getfield 71, 3) := by decide +kernel
theorem dX11_isAhead_25 : decode cX11_isAhead 25 = .ok (.iload_n 2, 1) := by decide +kernel
theorem dX11_isAhead_26 : decode cX11_isAhead 26 = .ok (.iaload, 1) := by decide +kernel
theorem dX11_isAhead_27 : decode cX11_isAhead 27 = .ok (.if_icmp .ne 22, 3) := by decide +kernel
theorem dX11_isAhead_30 : decode cX11_isAhead 30 = .ok (.aload_n 0, 1) := by decide +kernel
theorem dX11_isAhead_31 : decode cX11_isAhead 31 = .ok (.getfield 68, 3) := by decide +kernel
theorem dX11_isAhead_34 : decode cX11_isAhead 34 = .ok (.iload_n 1, 1) := by decide +kernel
theorem dX11_isAhead_35 : decode cX11_isAhead 35 = .ok (.iaload, 1) := by decide +kernel
theorem dX11_isAhead_36 : decode cX11_isAhead 36 = .ok (.aload_n 0, 1) := by decide +kernel
theorem dX11_isAhead_37 : decode cX11_isAhead 37 = .ok (.getfield 68, 3) := by decide +kernel
theorem dX11_isAhead_40 : decode cX11_isAhead 40 = .ok (.iload_n 2, 1) := by decide +kernel
theorem dX11_isAhead_41 : decode cX11_isAhead 41 = .ok (.iaload, 1) := by decide +kernel
theorem dX11_isAhead_42 : decode cX11_isAhead 42 = .ok (.if_icmp .le 7, 3) := by decide +kernel
theorem dX11_isAhead_45 : decode cX11_isAhead 45 = .ok (.iconst 1, 1) := by decide +kernel
theorem dX11_isAhead_46 : decode cX11_isAhead 46 = .ok (.goto 4, 3) := by decide +kernel
theorem dX11_isAhead_49 : decode cX11_isAhead 49 = .ok (.iconst 0, 1) := by decide +kernel
theorem dX11_isAhead_50 : decode cX11_isAhead 50 = .ok (.ireturn, 1) := by decide +kernel
theorem dX11_findsGiven_0 : decode cX11_findsGiven 0 = .ok (.aload_n 0, 1) := by decide +kernel
theorem dX11_findsGiven_1 : decode cX11_findsGiven 1 = .ok (.invokevirtual 372, 3) := by decide +kernel
theorem dX11_findsGiven_4 : decode cX11_findsGiven 4 = .ok (.istore_n 1, 1) := by decide +kernel
theorem dX11_findsGiven_5 : decode cX11_findsGiven 5 = .ok (.aload_n 0, 1) := by decide +kernel
theorem dX11_findsGiven_6 : decode cX11_findsGiven 6 = .ok (.invokevirtual 375, 3) := by decide +kernel
theorem dX11_findsGiven_9 : decode cX11_findsGiven 9 = .ok (.istore_n 2, 1) := by decide +kernel
theorem dX11_findsGiven_10 : decode cX11_findsGiven 10 = .ok (.iconst 0, 1) := by decide +kernel
theorem dX11_findsGiven_11 : decode cX11_findsGiven 11 = .ok (.istore_n 3, 1) := by decide +kernel
theorem dX11_findsGiven_12 : decode cX11_findsGiven 12 = .ok (.iload_n 3, 1) := by decide +kernel
theorem dX11_findsGiven_13 : decode cX11_findsGiven 13 = .ok (.aload_n 0, 1) := by decide +kernel
theorem dX11_findsGiven_14 : decode cX11_findsGiven 14 = .ok (.getfield 116, 3) := by decide +kernel
theorem dX11_findsGiven_17 : decode cX11_findsGiven 17 = .ok (.if_icmp .ge 84, 3) := by decide +kernel
theorem dX11_findsGiven_20 : decode cX11_findsGiven 20 = .ok (.aload_n 0, 1) := by decide +kernel
theorem dX11_findsGiven_21 : decode cX11_findsGiven 21 = .ok (.getfield 68, 3) := by decide +kernel
theorem dX11_findsGiven_24 : decode cX11_findsGiven 24 = .ok (.iload_n 3, 1) := by decide +kernel
theorem dX11_findsGiven_25 : decode cX11_findsGiven 25 = .ok (.iload_n 1, 1) := by decide +kernel
theorem dX11_findsGiven_26 : decode cX11_findsGiven 26 = .ok (.ifCond .ne 15, 3) := by decide +kernel
theorem dX11_findsGiven_29 : decode cX11_findsGiven 29 = .ok (.aload_n 0, 1) := by decide +kernel
theorem dX11_findsGiven_30 : decode cX11_findsGiven 30 = .ok (.getfield 7, 3) := by decide +kernel
theorem dX11_findsGiven_33 : decode cX11_findsGiven 33 = .ok (.bipush 10, 2) := by decide +kernel
theorem dX11_findsGiven_35 : decode cX11_findsGiven 35 = .ok (.iload_n 3, 1) := by decide +kernel
theorem dX11_findsGiven_36 : decode cX11_findsGiven 36 = .ok (.iadd, 1) := by decide +kernel
theorem dX11_findsGiven_37 : decode cX11_findsGiven 37 = .ok (.iaload, 1) := by decide +kernel
theorem dX11_findsGiven_38 : decode cX11_findsGiven 38 = .ok (.goto 18, 3) := by decide +kernel
theorem dX11_findsGiven_41 : decode cX11_findsGiven 41 = .ok (.aload_n 0, 1) := by decide +kernel
theorem dX11_findsGiven_42 : decode cX11_findsGiven 42 = .ok (.getfield 7, 3) := by decide +kernel
theorem dX11_findsGiven_45 : decode cX11_findsGiven 45 = .ok (.iconst 5, 1) := by decide +kernel
theorem dX11_findsGiven_46 : decode cX11_findsGiven 46 = .ok (.iload_n 3, 1) := by decide +kernel
theorem dX11_findsGiven_47 : decode cX11_findsGiven 47 = .ok (.iadd, 1) := by decide +kernel
theorem dX11_findsGiven_48 : decode cX11_findsGiven 48 = .ok (.iaload, 1) := by decide +kernel
theorem dX11_findsGiven_49 : decode cX11_findsGiven 49 = .ok (.aload_n 0, 1) := by decide +kernel
theorem dX11_findsGiven_50 : decode cX11_findsGiven 50 = .ok (.invokevirtual 375, 3) := by decide +kernel
theorem dX11_findsGiven_53 : decode cX11_findsGiven 53 = .ok (.imul, 1) := by decide +kernel
theorem dX11_findsGiven_54 : decode cX11_findsGiven 54 = .ok (.iload_n 1, 1) := by decide +kernel
theorem dX11_findsGiven_55 : decode cX11_findsGiven 55 = .ok (.idiv, 1) := by decide +kernel
theorem dX11_findsGiven_56 : decode cX11_findsGiven 56 = .ok (.iastore, 1) := by decide +kernel
theorem dX11_findsGiven_57 : decode cX11_findsGiven 57 = .ok (.aload_n 0, 1) := by decide +kernel
theorem dX11_findsGiven_58 : decode cX11_findsGiven 58 = .ok (.getfield 71, 3) := by decide +kernel
theorem dX11_findsGiven_61 : decode cX11_findsGiven 61 = .ok (.iload_n 3, 1) := by decide +kernel
theorem dX11_findsGiven_62 : decode cX11_findsGiven 62 = .ok (.iload_n 1, 1) := by decide +kernel
theorem dX11_findsGiven_63 : decode cX11_findsGiven 63 = .ok (.ifCond .ne 7, 3) := by decide +kernel
theorem dX11_findsGiven_66 : decode cX11_findsGiven 66 = .ok (.iconst 0, 1) := by decide +kernel
theorem dX11_findsGiven_67 : decode cX11_findsGiven 67 = .ok (.goto 18, 3) := by decide +kernel
theorem dX11_findsGiven_70 : decode cX11_findsGiven 70 = .ok (.aload_n 0, 1) := by decide +kernel
theorem dX11_findsGiven_71 : decode cX11_findsGiven 71 = .ok (.getfield 7, 3) := by decide +kernel
theorem dX11_findsGiven_74 : decode cX11_findsGiven 74 = .ok (.iconst 5, 1) := by decide +kernel
theorem dX11_findsGiven_75 : decode cX11_findsGiven 75 = .ok (.iload_n 3, 1) := by decide +kernel
theorem dX11_findsGiven_76 : decode cX11_findsGiven 76 = .ok (.iadd, 1) := by decide +kernel
theorem dX11_findsGiven_77 : decode cX11_findsGiven 77 = .ok (.iaload, 1) := by decide +kernel
theorem dX11_findsGiven_78 : decode cX11_findsGiven 78 = .ok (.aload_n 0, 1) := by decide +kernel
theorem dX11_findsGiven_79 : decode cX11_findsGiven 79 = .ok (.invokevirtual 375, 3) := by decide +kernel
theorem dX11_findsGiven_82 : decode cX11_findsGiven 82 = .ok (.imul, 1) := by decide +kernel
theorem dX11_findsGiven_83 : decode cX11_findsGiven 83 = .ok (.iload_n 1, 1) := by decide +kernel
theorem dX11_findsGiven_84 : decode cX11_findsGiven 84 = .ok (.irem, 1) := by decide +kernel
theorem dX11_findsGiven_85 : decode cX11_findsGiven 85 = .ok (.iastore, 1) := by decide +kernel
theorem dX11_findsGiven_86 : decode cX11_findsGiven 86 = .ok (.iload_n 2, 1) := by decide +kernel
theorem dX11_findsGiven_87 : decode cX11_findsGiven 87 = .ok (.aload_n 0, 1) := by decide +kernel
theorem dX11_findsGiven_88 : decode cX11_findsGiven 88 = .ok (.getfield 68, 3) := by decide +kernel
theorem dX11_findsGiven_91 : decode cX11_findsGiven 91 = .ok (.iload_n 3, 1) := by decide +kernel
theorem dX11_findsGiven_92 : decode cX11_findsGiven 92 = .ok (.iaload, 1) := by decide +kernel
theorem dX11_findsGiven_93 : decode cX11_findsGiven 93 = .ok (.isub, 1) := by decide +kernel
theorem dX11_findsGiven_94 : decode cX11_findsGiven 94 = .ok (.istore_n 2, 1) := by decide +kernel
theorem dX11_findsGiven_95 : decode cX11_findsGiven 95 = .ok (.iinc 3 1, 3) := by decide +kernel
theorem dX11_findsGiven_98 : decode cX11_findsGiven 98 = .ok (.goto (-86), 3) := by decide +kernel
theorem dX11_findsGiven_101 : decode cX11_findsGiven 101 = .ok (.iconst 0, 1) := by decide +kernel
theorem dX11_findsGiven_102 : decode cX11_findsGiven 102 = .ok (.istore_n 3, 1) := by decide +kernel
theorem dX11_findsGiven_103 : decode cX11_findsGiven 103 = .ok (.iconst 0, 1) := by decide +kernel
theorem dX11_findsGiven_104 : decode cX11_findsGiven 104 = .ok (.istore 4, 2) := by decide +kernel
theorem dX11_findsGiven_106 : decode cX11_findsGiven 106 = .ok (.iload 4, 2) := by decide +kernel
theorem dX11_findsGiven_108 : decode cX11_findsGiven 108 = .ok (.iload_n 2, 1) := by decide +kernel
theorem dX11_findsGiven_109 : decode cX11_findsGiven 109 = .ok (.if_icmp .ge 78, 3) := by decide +kernel
theorem dX11_findsGiven_112 : decode cX11_findsGiven 112 = .ok (.iload_n 1, 1) := by decide +kernel
theorem dX11_findsGiven_113 : decode cX11_findsGiven 113 = .ok (.ifCond .le 74, 3) := by decide +kernel
theorem dX11_findsGiven_116 : decode cX11_findsGiven 116 = .ok (.iconst (-1), 1) := by decide +kernel
theorem dX11_findsGiven_117 : decode cX11_findsGiven 117 = .ok (.istore 5, 2) := by decide +kernel
theorem dX11_findsGiven_119 : decode cX11_findsGiven 119 = .ok (.iconst 0, 1) := by decide +kernel
theorem dX11_findsGiven_120 : decode cX11_findsGiven 120 = .ok (.istore 6, 2) := by decide +kernel
theorem dX11_findsGiven_122 : decode cX11_findsGiven 122 = .ok (.iload 6, 2) := by decide +kernel
theorem dX11_findsGiven_124 : decode cX11_findsGiven 124 = .ok (.aload_n 0, 1) := by decide +kernel
theorem dX11_findsGiven_125 : decode cX11_findsGiven 125 = .ok (.getfield 116, 3) := by decide +kernel
theorem dX11_findsGiven_128 : decode cX11_findsGiven 128 = .ok (.if_icmp .ge 40, 3) := by decide +kernel
theorem dX11_findsGiven_131 : decode cX11_findsGiven 131 = .ok (.aload_n 0, 1) := by decide +kernel
theorem dX11_findsGiven_132 : decode cX11_findsGiven 132 = .ok (.iload_n 3, 1) := by decide +kernel
theorem dX11_findsGiven_133 : decode cX11_findsGiven 133 = .ok (.iload 6, 2) := by decide +kernel
theorem dX11_findsGiven_135 : decode cX11_findsGiven 135 = .ok (.invokevirtual 319, 3) := by decide +kernel
theorem dX11_findsGiven_138 : decode cX11_findsGiven 138 = .ok (.ifCond .ne 24, 3) := by decide +kernel
theorem dX11_findsGiven_141 : decode cX11_findsGiven 141 = .ok (.iload 5, 2) := by decide +kernel
theorem dX11_findsGiven_143 : decode cX11_findsGiven 143 = .ok (.iconst (-1), 1) := by decide +kernel
theorem dX11_findsGiven_144 : decode cX11_findsGiven 144 = .ok (.if_icmp .eq 14, 3) := by decide +kernel
theorem dX11_findsGiven_147 : decode cX11_findsGiven 147 = .ok (.aload_n 0, 1) := by decide +kernel
theorem dX11_findsGiven_148 : decode cX11_findsGiven 148 = .ok (.iload 6, 2) := by decide +kernel
theorem dX11_findsGiven_150 : decode cX11_findsGiven 150 = .ok (.iload 5, 2) := by decide +kernel
theorem dX11_findsGiven_152 : decode cX11_findsGiven 152 = .ok (.invokevirtual 378, 3) := by decide +kernel
theorem dX11_findsGiven_155 : decode cX11_findsGiven 155 = .ok (.ifCond .eq 7, 3) := by decide +kernel
theorem dX11_findsGiven_158 : decode cX11_findsGiven 158 = .ok (.iload 6, 2) := by decide +kernel
theorem dX11_findsGiven_160 : decode cX11_findsGiven 160 = .ok (.istore 5, 2) := by decide +kernel
theorem dX11_findsGiven_162 : decode cX11_findsGiven 162 = .ok (.iinc 6 1, 3) := by decide +kernel
theorem dX11_findsGiven_165 : decode cX11_findsGiven 165 = .ok (.goto (-43), 3) := by decide +kernel
theorem dX11_findsGiven_168 : decode cX11_findsGiven 168 = .ok (.iload 5, 2) := by decide +kernel
theorem dX11_findsGiven_170 : decode cX11_findsGiven 170 = .ok (.iconst (-1), 1) := by decide +kernel
theorem dX11_findsGiven_171 : decode cX11_findsGiven 171 = .ok (.if_icmp .eq 10, 3) := by decide +kernel
theorem dX11_findsGiven_174 : decode cX11_findsGiven 174 = .ok (.iload_n 3, 1) := by decide +kernel
theorem dX11_findsGiven_175 : decode cX11_findsGiven 175 = .ok (.iconst 1, 1) := by decide +kernel
theorem dX11_findsGiven_176 : decode cX11_findsGiven 176 = .ok (.iload 5, 2) := by decide +kernel
theorem dX11_findsGiven_178 : decode cX11_findsGiven 178 = .ok (.ishl, 1) := by decide +kernel
theorem dX11_findsGiven_179 : decode cX11_findsGiven 179 = .ok (.ior, 1) := by decide +kernel
theorem dX11_findsGiven_180 : decode cX11_findsGiven 180 = .ok (.istore_n 3, 1) := by decide +kernel
theorem dX11_findsGiven_181 : decode cX11_findsGiven 181 = .ok (.iinc 4 1, 3) := by decide +kernel
theorem dX11_findsGiven_184 : decode cX11_findsGiven 184 = .ok (.goto (-78), 3) := by decide +kernel
theorem dX11_findsGiven_187 : decode cX11_findsGiven 187 = .ok (.iconst 0, 1) := by decide +kernel
theorem dX11_findsGiven_188 : decode cX11_findsGiven 188 = .ok (.istore 4, 2) := by decide +kernel
theorem dX11_findsGiven_190 : decode cX11_findsGiven 190 = .ok (.iload 4, 2) := by decide +kernel
theorem dX11_findsGiven_192 : decode cX11_findsGiven 192 = .ok (.aload_n 0, 1) := by decide +kernel
theorem dX11_findsGiven_193 : decode cX11_findsGiven 193 = .ok (.getfield 116, 3) := by decide +kernel
theorem dX11_findsGiven_196 : decode cX11_findsGiven 196 = .ok (.if_icmp .ge 35, 3) := by decide +kernel
theorem dX11_findsGiven_199 : decode cX11_findsGiven 199 = .ok (.aload_n 0, 1) := by decide +kernel
theorem dX11_findsGiven_200 : decode cX11_findsGiven 200 = .ok (.iload_n 3, 1) := by decide +kernel
theorem dX11_findsGiven_201 : decode cX11_findsGiven 201 = .ok (.iload 4, 2) := by decide +kernel
theorem dX11_findsGiven_203 : decode cX11_findsGiven 203 = .ok (.invokevirtual 319, 3) := by decide +kernel
theorem dX11_findsGiven_206 : decode cX11_findsGiven 206 = .ok (.ifCond .eq 19, 3) := by decide +kernel
theorem dX11_findsGiven_209 : decode cX11_findsGiven 209 = .ok (.aload_n 0, 1) := by decide +kernel
theorem dX11_findsGiven_210 : decode cX11_findsGiven 210 = .ok (.getfield 68, 3) := by decide +kernel
theorem dX11_findsGiven_213 : decode cX11_findsGiven 213 = .ok (.iload 4, 2) := by decide +kernel
theorem dX11_findsGiven_215 : decode cX11_findsGiven 215 = .ok (.aload_n 0, 1) := by decide +kernel
theorem dX11_findsGiven_216 : decode cX11_findsGiven 216 = .ok (.getfield 68, 3) := by decide +kernel
theorem dX11_findsGiven_219 : decode cX11_findsGiven 219 = .ok (.iload 4, 2) := by decide +kernel
theorem dX11_findsGiven_221 : decode cX11_findsGiven 221 = .ok (.iaload, 1) := by decide +kernel
theorem dX11_findsGiven_222 : decode cX11_findsGiven 222 = .ok (.iconst 1, 1) := by decide +kernel
theorem dX11_findsGiven_223 : decode cX11_findsGiven 223 = .ok (.iadd, 1) := by decide +kernel
theorem dX11_findsGiven_224 : decode cX11_findsGiven 224 = .ok (.iastore, 1) := by decide +kernel
theorem dX11_findsGiven_225 : decode cX11_findsGiven 225 = .ok (.iinc 4 1, 3) := by decide +kernel
theorem dX11_findsGiven_228 : decode cX11_findsGiven 228 = .ok (.goto (-38), 3) := by decide +kernel
theorem dX11_findsGiven_231 : decode cX11_findsGiven 231 = .ok (.return_, 1) := by decide +kernel
theorem dX11_strongest_0 : decode cX11_strongest 0 = .ok (.aload_n 0, 1) := by decide +kernel
theorem dX11_strongest_1 : decode cX11_strongest 1 = .ok (.getfield 116, 3) := by decide +kernel
theorem dX11_strongest_4 : decode cX11_strongest 4 = .ok (.ifCond .le 7, 3) := by decide +kernel
theorem dX11_strongest_7 : decode cX11_strongest 7 = .ok (.iconst 0, 1) := by decide +kernel
theorem dX11_strongest_8 : decode cX11_strongest 8 = .ok (.goto 4, 3) := by decide +kernel
theorem dX11_strongest_11 : decode cX11_strongest 11 = .ok (.iconst (-1), 1) := by decide +kernel
theorem dX11_strongest_12 : decode cX11_strongest 12 = .ok (.istore_n 1, 1) := by decide +kernel
theorem dX11_strongest_13 : decode cX11_strongest 13 = .ok (.iconst 1, 1) := by decide +kernel
theorem dX11_strongest_14 : decode cX11_strongest 14 = .ok (.istore_n 2, 1) := by decide +kernel
theorem dX11_strongest_15 : decode cX11_strongest 15 = .ok (.iload_n 2, 1) := by decide +kernel
theorem dX11_strongest_16 : decode cX11_strongest 16 = .ok (.aload_n 0, 1) := by decide +kernel
theorem dX11_strongest_17 : decode cX11_strongest 17 = .ok (.getfield 116, 3) := by decide +kernel
theorem dX11_strongest_20 : decode cX11_strongest 20 = .ok (.if_icmp .ge 32, 3) := by decide +kernel
theorem dX11_strongest_23 : decode cX11_strongest 23 = .ok (.aload_n 0, 1) := by decide +kernel
theorem dX11_strongest_24 : decode cX11_strongest 24 = .ok (.getfield 7, 3) := by decide +kernel
theorem dX11_strongest_27 : decode cX11_strongest 27 = .ok (.bipush 10, 2) := by decide +kernel
theorem dX11_strongest_29 : decode cX11_strongest 29 = .ok (.iload_n 2, 1) := by decide +kernel
theorem dX11_strongest_30 : decode cX11_strongest 30 = .ok (.iadd, 1) := by decide +kernel
theorem dX11_strongest_31 : decode cX11_strongest 31 = .ok (.iaload, 1) := by decide +kernel
theorem dX11_strongest_32 : decode cX11_strongest 32 = .ok (.aload_n 0, 1) := by decide +kernel
theorem dX11_strongest_33 : decode cX11_strongest 33 = .ok (.getfield 7, 3) := by decide +kernel
theorem dX11_strongest_36 : decode cX11_strongest 36 = .ok (.bipush 10, 2) := by decide +kernel
theorem dX11_strongest_38 : decode cX11_strongest 38 = .ok (.iload_n 1, 1) := by decide +kernel
theorem dX11_strongest_39 : decode cX11_strongest 39 = .ok (.iadd, 1) := by decide +kernel
theorem dX11_strongest_40 : decode cX11_strongest 40 = .ok (.iaload, 1) := by decide +kernel
theorem dX11_strongest_41 : decode cX11_strongest 41 = .ok (.if_icmp .le 5, 3) := by decide +kernel
theorem dX11_strongest_44 : decode cX11_strongest 44 = .ok (.iload_n 2, 1) := by decide +kernel
theorem dX11_strongest_45 : decode cX11_strongest 45 = .ok (.istore_n 1, 1) := by decide +kernel
theorem dX11_strongest_46 : decode cX11_strongest 46 = .ok (.iinc 2 1, 3) := by decide +kernel
theorem dX11_strongest_49 : decode cX11_strongest 49 = .ok (.goto (-34), 3) := by decide +kernel
theorem dX11_strongest_52 : decode cX11_strongest 52 = .ok (.iload_n 1, 1) := by decide +kernel
theorem dX11_strongest_53 : decode cX11_strongest 53 = .ok (.ireturn, 1) := by decide +kernel
theorem dX11_elects_0 : decode cX11_elects 0 = .ok (.aload_n 0, 1) := by decide +kernel
theorem dX11_elects_1 : decode cX11_elects 1 = .ok (.invokevirtual 381, 3) := by decide +kernel
theorem dX11_elects_4 : decode cX11_elects 4 = .ok (.iconst 0, 1) := by decide +kernel
theorem dX11_elects_5 : decode cX11_elects 5 = .ok (.istore_n 1, 1) := by decide +kernel
theorem dX11_elects_6 : decode cX11_elects 6 = .ok (.iload_n 1, 1) := by decide +kernel
theorem dX11_elects_7 : decode cX11_elects 7 = .ok (.aload_n 0, 1) := by decide +kernel
theorem dX11_elects_8 : decode cX11_elects 8 = .ok (.getfield 116, 3) := by decide +kernel
theorem dX11_elects_11 : decode cX11_elects 11 = .ok (.if_icmp .ge 33, 3) := by decide +kernel
theorem dX11_elects_14 : decode cX11_elects 14 = .ok (.aload_n 0, 1) := by decide +kernel
theorem dX11_elects_15 : decode cX11_elects 15 = .ok (.getfield 7, 3) := by decide +kernel
theorem dX11_elects_18 : decode cX11_elects 18 = .ok (.bipush 10, 2) := by decide +kernel
theorem dX11_elects_20 : decode cX11_elects 20 = .ok (.iload_n 1, 1) := by decide +kernel
theorem dX11_elects_21 : decode cX11_elects 21 = .ok (.iadd, 1) := by decide +kernel
theorem dX11_elects_22 : decode cX11_elects 22 = .ok (.aload_n 0, 1) := by decide +kernel
theorem dX11_elects_23 : decode cX11_elects 23 = .ok (.getfield 68, 3) := by decide +kernel
theorem dX11_elects_26 : decode cX11_elects 26 = .ok (.iload_n 1, 1) := by decide +kernel
theorem dX11_elects_27 : decode cX11_elects 27 = .ok (.iaload, 1) := by decide +kernel
theorem dX11_elects_28 : decode cX11_elects 28 = .ok (.iastore, 1) := by decide +kernel
theorem dX11_elects_29 : decode cX11_elects 29 = .ok (.aload_n 0, 1) := by decide +kernel
theorem dX11_elects_30 : decode cX11_elects 30 = .ok (.getfield 7, 3) := by decide +kernel
theorem dX11_elects_33 : decode cX11_elects 33 = .ok (.iconst 5, 1) := by decide +kernel
theorem dX11_elects_34 : decode cX11_elects 34 = .ok (.iload_n 1, 1) := by decide +kernel
theorem dX11_elects_35 : decode cX11_elects 35 = .ok (.iadd, 1) := by decide +kernel
theorem dX11_elects_36 : decode cX11_elects 36 = .ok (.iconst 0, 1) := by decide +kernel
theorem dX11_elects_37 : decode cX11_elects 37 = .ok (.iastore, 1) := by decide +kernel
theorem dX11_elects_38 : decode cX11_elects 38 = .ok (.iinc 1 1, 3) := by decide +kernel
theorem dX11_elects_41 : decode cX11_elects 41 = .ok (.goto (-35), 3) := by decide +kernel
theorem dX11_elects_44 : decode cX11_elects 44 = .ok (.aload_n 0, 1) := by decide +kernel
theorem dX11_elects_45 : decode cX11_elects 45 = .ok (.invokevirtual 384, 3) := by decide +kernel
theorem dX11_elects_48 : decode cX11_elects 48 = .ok (.istore_n 1, 1) := by decide +kernel
theorem dX11_elects_49 : decode cX11_elects 49 = .ok (.aload_n 0, 1) := by decide +kernel
theorem dX11_elects_50 : decode cX11_elects 50 = .ok (.bipush 7, 2) := by decide +kernel
theorem dX11_elects_52 : decode cX11_elects 52 = .ok (.iload_n 1, 1) := by decide +kernel
theorem dX11_elects_53 : decode cX11_elects 53 = .ok (.iload_n 1, 1) := by decide +kernel
theorem dX11_elects_54 : decode cX11_elects 54 = .ok (.iconst (-1), 1) := by decide +kernel
theorem dX11_elects_55 : decode cX11_elects 55 = .ok (.if_icmp .ne 7, 3) := by decide +kernel
theorem dX11_elects_58 : decode cX11_elects 58 = .ok (.iconst 0, 1) := by decide +kernel
theorem dX11_elects_59 : decode cX11_elects 59 = .ok (.goto 12, 3) := by decide +kernel
theorem dX11_elects_62 : decode cX11_elects 62 = .ok (.aload_n 0, 1) := by decide +kernel
theorem dX11_elects_63 : decode cX11_elects 63 = .ok (.getfield 7, 3) := by decide +kernel
theorem dX11_elects_66 : decode cX11_elects 66 = .ok (.bipush 10, 2) := by decide +kernel
theorem dX11_elects_68 : decode cX11_elects 68 = .ok (.iload_n 1, 1) := by decide +kernel
theorem dX11_elects_69 : decode cX11_elects 69 = .ok (.iadd, 1) := by decide +kernel
theorem dX11_elects_70 : decode cX11_elects 70 = .ok (.iaload, 1) := by decide +kernel
theorem dX11_elects_71 : decode cX11_elects 71 = .ok (.invokevirtual 316, 3) := by decide +kernel
theorem dX11_elects_74 : decode cX11_elects 74 = .ok (.return_, 1) := by decide +kernel
theorem dX11_does_0 : decode cX11_does 0 = .ok (.aload_n 0, 1) := by decide +kernel
theorem dX11_does_1 : decode cX11_does 1 = .ok (.getfield 59, 3) := by decide +kernel
theorem dX11_does_4 : decode cX11_does 4 = .ok (.iload_n 1, 1) := by decide +kernel
theorem dX11_does_5 : decode cX11_does 5 = .ok (.iconst 2, 1) := by decide +kernel
theorem dX11_does_6 : decode cX11_does 6 = .ok (.iadd, 1) := by decide +kernel
theorem dX11_does_7 : decode cX11_does 7 = .ok (.iaload, 1) := by decide +kernel
theorem dX11_does_8 : decode cX11_does 8 = .ok (.istore_n 2, 1) := by decide +kernel
theorem dX11_does_9 : decode cX11_does 9 = .ok (.aload_n 0, 1) := by decide +kernel
theorem dX11_does_10 : decode cX11_does 10 = .ok (.getfield 59, 3) := by decide +kernel
theorem dX11_does_13 : decode cX11_does 13 = .ok (.iload_n 1, 1) := by decide +kernel
theorem dX11_does_14 : decode cX11_does 14 = .ok (.iconst 1, 1) := by decide +kernel
theorem dX11_does_15 : decode cX11_does 15 = .ok (.iadd, 1) := by decide +kernel
theorem dX11_does_16 : decode cX11_does 16 = .ok (.iaload, 1) := by decide +kernel
theorem dX11_does_17 : decode cX11_does 17 = .ok (.ifCond .ne 29, 3) := by decide +kernel
theorem dX11_does_20 : decode cX11_does 20 = .ok (.aload_n 0, 1) := by decide +kernel
theorem dX11_does_21 : decode cX11_does 21 = .ok (.getfield 7, 3) := by decide +kernel
theorem dX11_does_24 : decode cX11_does 24 = .ok (.iconst 4, 1) := by decide +kernel
theorem dX11_does_25 : decode cX11_does 25 = .ok (.iaload, 1) := by decide +kernel
theorem dX11_does_26 : decode cX11_does 26 = .ok (.bipush 14, 2) := by decide +kernel
theorem dX11_does_28 : decode cX11_does 28 = .ok (.if_icmp .ge 18, 3) := by decide +kernel
theorem dX11_does_31 : decode cX11_does 31 = .ok (.aload_n 0, 1) := by decide +kernel
theorem dX11_does_32 : decode cX11_does 32 = .ok (.iload_n 2, 1) := by decide +kernel
theorem dX11_does_33 : decode cX11_does 33 = .ok (.aload_n 0, 1) := by decide +kernel
theorem dX11_does_34 : decode cX11_does 34 = .ok (.getfield 59, 3) := by decide +kernel
theorem dX11_does_37 : decode cX11_does 37 = .ok (.iload_n 1, 1) := by decide +kernel
theorem dX11_does_38 : decode cX11_does 38 = .ok (.iconst 3, 1) := by decide +kernel
theorem dX11_does_39 : decode cX11_does 39 = .ok (.iadd, 1) := by decide +kernel
theorem dX11_does_40 : decode cX11_does 40 = .ok (.iaload, 1) := by decide +kernel
theorem dX11_does_41 : decode cX11_does 41 = .ok (.iconst 0, 1) := by decide +kernel
theorem dX11_does_42 : decode cX11_does 42 = .ok (.invokevirtual 332, 3) := by decide +kernel
theorem dX11_does_45 : decode cX11_does 45 = .ok (.pop, 1) := by decide +kernel
theorem dX11_does_46 : decode cX11_does 46 = .ok (.aload_n 0, 1) := by decide +kernel
theorem dX11_does_47 : decode cX11_does 47 = .ok (.getfield 59, 3) := by decide +kernel
theorem dX11_does_50 : decode cX11_does 50 = .ok (.iload_n 1, 1) := by decide +kernel
theorem dX11_does_51 : decode cX11_does 51 = .ok (.iconst 1, 1) := by decide +kernel
theorem dX11_does_52 : decode cX11_does 52 = .ok (.iadd, 1) := by decide +kernel
theorem dX11_does_53 : decode cX11_does 53 = .ok (.iaload, 1) := by decide +kernel
theorem dX11_does_54 : decode cX11_does 54 = .ok (.iconst 1, 1) := by decide +kernel
theorem dX11_does_55 : decode cX11_does 55 = .ok (.if_icmp .ne 17, 3) := by decide +kernel
theorem dX11_does_58 : decode cX11_does 58 = .ok (.aload_n 0, 1) := by decide +kernel
theorem dX11_does_59 : decode cX11_does 59 = .ok (.iload_n 2, 1) := by decide +kernel
theorem dX11_does_60 : decode cX11_does 60 = .ok (.invokevirtual 335, 3) := by decide +kernel
theorem dX11_does_63 : decode cX11_does 63 = .ok (.ifCond .ne 9, 3) := by decide +kernel
theorem dX11_does_66 : decode cX11_does 66 = .ok (.aload_n 0, 1) := by decide +kernel
theorem dX11_does_67 : decode cX11_does 67 = .ok (.iload_n 2, 1) := by decide +kernel
theorem dX11_does_68 : decode cX11_does 68 = .ok (.iconst 1, 1) := by decide +kernel
theorem dX11_does_69 : decode cX11_does 69 = .ok (.invokevirtual 338, 3) := by decide +kernel
theorem dX11_does_72 : decode cX11_does 72 = .ok (.aload_n 0, 1) := by decide +kernel
theorem dX11_does_73 : decode cX11_does 73 = .ok (.getfield 59, 3) := by decide +kernel
theorem dX11_does_76 : decode cX11_does 76 = .ok (.iload_n 1, 1) := by decide +kernel
theorem dX11_does_77 : decode cX11_does 77 = .ok (.iconst 1, 1) := by decide +kernel
theorem dX11_does_78 : decode cX11_does 78 = .ok (.iadd, 1) := by decide +kernel
theorem dX11_does_79 : decode cX11_does 79 = .ok (.iaload, 1) := by decide +kernel
theorem dX11_does_80 : decode cX11_does 80 = .ok (.iconst 2, 1) := by decide +kernel
theorem dX11_does_81 : decode cX11_does 81 = .ok (.if_icmp .ne 17, 3) := by decide +kernel
theorem dX11_does_84 : decode cX11_does 84 = .ok (.aload_n 0, 1) := by decide +kernel
theorem dX11_does_85 : decode cX11_does 85 = .ok (.iload_n 2, 1) := by decide +kernel
theorem dX11_does_86 : decode cX11_does 86 = .ok (.invokevirtual 335, 3) := by decide +kernel
theorem dX11_does_89 : decode cX11_does 89 = .ok (.ifCond .eq 9, 3) := by decide +kernel
theorem dX11_does_92 : decode cX11_does 92 = .ok (.aload_n 0, 1) := by decide +kernel
theorem dX11_does_93 : decode cX11_does 93 = .ok (.iload_n 2, 1) := by decide +kernel
theorem dX11_does_94 : decode cX11_does 94 = .ok (.iconst 0, 1) := by decide +kernel
theorem dX11_does_95 : decode cX11_does 95 = .ok (.invokevirtual 338, 3) := by decide +kernel
theorem dX11_does_98 : decode cX11_does 98 = .ok (.aload_n 0, 1) := by decide +kernel
theorem dX11_does_99 : decode cX11_does 99 = .ok (.getfield 59, 3) := by decide +kernel
theorem dX11_does_102 : decode cX11_does 102 = .ok (.iload_n 1, 1) := by decide +kernel
theorem dX11_does_103 : decode cX11_does 103 = .ok (.iconst 1, 1) := by decide +kernel
theorem dX11_does_104 : decode cX11_does 104 = .ok (.iadd, 1) := by decide +kernel
theorem dX11_does_105 : decode cX11_does 105 = .ok (.iaload, 1) := by decide +kernel
theorem dX11_does_106 : decode cX11_does 106 = .ok (.iconst 3, 1) := by decide +kernel
theorem dX11_does_107 : decode cX11_does 107 = .ok (.if_icmp .ne 17, 3) := by decide +kernel
theorem dX11_does_110 : decode cX11_does 110 = .ok (.aload_n 0, 1) := by decide +kernel
theorem dX11_does_111 : decode cX11_does 111 = .ok (.iload_n 2, 1) := by decide +kernel
theorem dX11_does_112 : decode cX11_does 112 = .ok (.aload_n 0, 1) := by decide +kernel
theorem dX11_does_113 : decode cX11_does 113 = .ok (.getfield 59, 3) := by decide +kernel
theorem dX11_does_116 : decode cX11_does 116 = .ok (.iload_n 1, 1) := by decide +kernel
theorem dX11_does_117 : decode cX11_does 117 = .ok (.iconst 3, 1) := by decide +kernel
theorem dX11_does_118 : decode cX11_does 118 = .ok (.iadd, 1) := by decide +kernel
theorem dX11_does_119 : decode cX11_does 119 = .ok (.iaload, 1) := by decide +kernel
theorem dX11_does_120 : decode cX11_does 120 = .ok (.invokevirtual 342, 3) := by decide +kernel
theorem dX11_does_123 : decode cX11_does 123 = .ok (.pop, 1) := by decide +kernel
theorem dX11_does_124 : decode cX11_does 124 = .ok (.aload_n 0, 1) := by decide +kernel
theorem dX11_does_125 : decode cX11_does 125 = .ok (.getfield 59, 3) := by decide +kernel
theorem dX11_does_128 : decode cX11_does 128 = .ok (.iload_n 1, 1) := by decide +kernel
theorem dX11_does_129 : decode cX11_does 129 = .ok (.iconst 1, 1) := by decide +kernel
theorem dX11_does_130 : decode cX11_does 130 = .ok (.iadd, 1) := by decide +kernel
theorem dX11_does_131 : decode cX11_does 131 = .ok (.iaload, 1) := by decide +kernel
theorem dX11_does_132 : decode cX11_does 132 = .ok (.iconst 4, 1) := by decide +kernel
theorem dX11_does_133 : decode cX11_does 133 = .ok (.if_icmp .ne 30, 3) := by decide +kernel
theorem dX11_does_136 : decode cX11_does 136 = .ok (.aload_n 0, 1) := by decide +kernel
theorem dX11_does_137 : decode cX11_does 137 = .ok (.getfield 7, 3) := by decide +kernel
theorem dX11_does_140 : decode cX11_does 140 = .ok (.bipush 76, 2) := by decide +kernel
theorem dX11_does_142 : decode cX11_does 142 = .ok (.iload_n 2, 1) := by decide +kernel
theorem dX11_does_143 : decode cX11_does 143 = .ok (.iadd, 1) := by decide +kernel
theorem dX11_does_144 : decode cX11_does 144 = .ok (.aload_n 0, 1) := by decide +kernel
theorem dX11_does_145 : decode cX11_does 145 = .ok (.iconst 2, 1) := by decide +kernel
theorem dX11_does_146 : decode cX11_does 146 = .ok (.aload_n 0, 1) := by decide +kernel
theorem dX11_does_147 : decode cX11_does 147 = .ok (.getfield 7, 3) := by decide +kernel
theorem dX11_does_150 : decode cX11_does 150 = .ok (.bipush 76, 2) := by decide +kernel
theorem dX11_does_152 : decode cX11_does 152 = .ok (.iload_n 2, 1) := by decide +kernel
theorem dX11_does_153 : decode cX11_does 153 = .ok (.iadd, 1) := by decide +kernel
theorem dX11_does_154 : decode cX11_does 154 = .ok (.iaload, 1) := by decide +kernel
theorem dX11_does_155 : decode cX11_does 155 = .ok (.imul, 1) := by decide +kernel
theorem dX11_does_156 : decode cX11_does 156 = .ok (.iconst 0, 1) := by decide +kernel
theorem dX11_does_157 : decode cX11_does 157 = .ok (.bipush 20, 2) := by decide +kernel
theorem dX11_does_159 : decode cX11_does 159 = .ok (.invokevirtual 122, 3) := by decide +kernel
theorem dX11_does_162 : decode cX11_does 162 = .ok (.iastore, 1) := by decide +kernel
theorem dX11_does_163 : decode cX11_does 163 = .ok (.return_, 1) := by decide +kernel
theorem dX11_stings_0 : decode cX11_stings 0 = .ok (.aload_n 0, 1) := by decide +kernel
theorem dX11_stings_1 : decode cX11_stings 1 = .ok (.getfield 92, 3) := by decide +kernel
theorem dX11_stings_4 : decode cX11_stings 4 = .ok (.ifCond .ne 10, 3) := by decide +kernel
theorem dX11_stings_7 : decode cX11_stings 7 = .ok (.aload_n 0, 1) := by decide +kernel
theorem dX11_stings_8 : decode cX11_stings 8 = .ok (.getfield 150, 3) := by decide +kernel
theorem dX11_stings_11 : decode cX11_stings 11 = .ok (.ifCond .ne 4, 3) := by decide +kernel
theorem dX11_stings_14 : decode cX11_stings 14 = .ok (.return_, 1) := by decide +kernel
theorem dX11_stings_15 : decode cX11_stings 15 = .ok (.iconst 0, 1) := by decide +kernel
theorem dX11_stings_16 : decode cX11_stings 16 = .ok (.istore_n 1, 1) := by decide +kernel
theorem dX11_stings_17 : decode cX11_stings 17 = .ok (.iload_n 1, 1) := by decide +kernel
theorem dX11_stings_18 : decode cX11_stings 18 = .ok (.aload_n 0, 1) := by decide +kernel
theorem dX11_stings_19 : decode cX11_stings 19 = .ok (.getfield 7, 3) := by decide +kernel
theorem dX11_stings_22 : decode cX11_stings 22 = .ok (.iconst 4, 1) := by decide +kernel
theorem dX11_stings_23 : decode cX11_stings 23 = .ok (.iaload, 1) := by decide +kernel
theorem dX11_stings_24 : decode cX11_stings 24 = .ok (.if_icmp .ge 81, 3) := by decide +kernel
theorem dX11_stings_27 : decode cX11_stings 27 = .ok (.aload_n 0, 1) := by decide +kernel
theorem dX11_stings_28 : decode cX11_stings 28 = .ok (.getfield 7, 3) := by decide +kernel
theorem dX11_stings_31 : decode cX11_stings 31 = .ok (.bipush 62, 2) := by decide +kernel
theorem dX11_stings_33 : decode cX11_stings 33 = .ok (.iload_n 1, 1) := by decide +kernel
theorem dX11_stings_34 : decode cX11_stings 34 = .ok (.iadd, 1) := by decide +kernel
theorem dX11_stings_35 : decode cX11_stings 35 = .ok (.iaload, 1) := by decide +kernel
theorem dX11_stings_36 : decode cX11_stings 36 = .ok (.bipush 10, 2) := by decide +kernel
theorem dX11_stings_38 : decode cX11_stings 38 = .ok (.if_icmp .lt 61, 3) := by decide +kernel
theorem dX11_stings_41 : decode cX11_stings 41 = .ok (.aload_n 0, 1) := by decide +kernel
theorem dX11_stings_42 : decode cX11_stings 42 = .ok (.sipush 1000, 3) := by decide +kernel
theorem dX11_stings_45 : decode cX11_stings 45 = .ok (.invokevirtual 354, 3) := by decide +kernel
theorem dX11_stings_48 : decode cX11_stings 48 = .ok (.aload_n 0, 1) := by decide +kernel
theorem dX11_stings_49 : decode cX11_stings 49 = .ok (.getfield 150, 3) := by decide +kernel
theorem dX11_stings_52 : decode cX11_stings 52 = .ok (.if_icmp .lt 6, 3) := by decide +kernel
theorem dX11_stings_55 : decode cX11_stings 55 = .ok (.goto 44, 3) := by decide +kernel
theorem dX11_stings_58 : decode cX11_stings 58 = .ok (.aload_n 0, 1) := by decide +kernel
theorem dX11_stings_59 : decode cX11_stings 59 = .ok (.getfield 7, 3) := by decide +kernel
theorem dX11_stings_62 : decode cX11_stings 62 = .ok (.bipush 62, 2) := by decide +kernel
theorem dX11_stings_64 : decode cX11_stings 64 = .ok (.iload_n 1, 1) := by decide +kernel
theorem dX11_stings_65 : decode cX11_stings 65 = .ok (.iadd, 1) := by decide +kernel
theorem dX11_stings_66 : decode cX11_stings 66 = .ok (.iaload, 1) := by decide +kernel
theorem dX11_stings_67 : decode cX11_stings 67 = .ok (.bipush 10, 2) := by decide +kernel
theorem dX11_stings_69 : decode cX11_stings 69 = .ok (.idiv, 1) := by decide +kernel
theorem dX11_stings_70 : decode cX11_stings 70 = .ok (.istore_n 2, 1) := by decide +kernel
theorem dX11_stings_71 : decode cX11_stings 71 = .ok (.aload_n 0, 1) := by decide +kernel
theorem dX11_stings_72 : decode cX11_stings 72 = .ok (.getfield 7, 3) := by decide +kernel
theorem dX11_stings_75 : decode cX11_stings 75 = .ok (.bipush 62, 2) := by decide +kernel
theorem dX11_stings_77 : decode cX11_stings 77 = .ok (.iload_n 1, 1) := by decide +kernel
theorem dX11_stings_78 : decode cX11_stings 78 = .ok (.iadd, 1) := by decide +kernel
theorem dX11_stings_79 : decode cX11_stings 79 = .ok (.aload_n 0, 1) := by decide +kernel
theorem dX11_stings_80 : decode cX11_stings 80 = .ok (.getfield 7, 3) := by decide +kernel
theorem dX11_stings_83 : decode cX11_stings 83 = .ok (.bipush 62, 2) := by decide +kernel
theorem dX11_stings_85 : decode cX11_stings 85 = .ok (.iload_n 1, 1) := by decide +kernel
theorem dX11_stings_86 : decode cX11_stings 86 = .ok (.iadd, 1) := by decide +kernel
theorem dX11_stings_87 : decode cX11_stings 87 = .ok (.iaload, 1) := by decide +kernel
theorem dX11_stings_88 : decode cX11_stings 88 = .ok (.iload_n 2, 1) := by decide +kernel
theorem dX11_stings_89 : decode cX11_stings 89 = .ok (.isub, 1) := by decide +kernel
theorem dX11_stings_90 : decode cX11_stings 90 = .ok (.iastore, 1) := by decide +kernel
theorem dX11_stings_91 : decode cX11_stings 91 = .ok (.aload_n 0, 1) := by decide +kernel
theorem dX11_stings_92 : decode cX11_stings 92 = .ok (.bipush 6, 2) := by decide +kernel
theorem dX11_stings_94 : decode cX11_stings 94 = .ok (.iload_n 1, 1) := by decide +kernel
theorem dX11_stings_95 : decode cX11_stings 95 = .ok (.iload_n 2, 1) := by decide +kernel
theorem dX11_stings_96 : decode cX11_stings 96 = .ok (.invokevirtual 316, 3) := by decide +kernel
theorem dX11_stings_99 : decode cX11_stings 99 = .ok (.iinc 1 1, 3) := by decide +kernel
theorem dX11_stings_102 : decode cX11_stings 102 = .ok (.goto (-85), 3) := by decide +kernel
theorem dX11_stings_105 : decode cX11_stings 105 = .ok (.return_, 1) := by decide +kernel
theorem dX11_eats_0 : decode cX11_eats 0 = .ok (.iconst 0, 1) := by decide +kernel
theorem dX11_eats_1 : decode cX11_eats 1 = .ok (.istore_n 1, 1) := by decide +kernel
theorem dX11_eats_2 : decode cX11_eats 2 = .ok (.iconst 0, 1) := by decide +kernel
theorem dX11_eats_3 : decode cX11_eats 3 = .ok (.istore_n 2, 1) := by decide +kernel
theorem dX11_eats_4 : decode cX11_eats 4 = .ok (.iload_n 2, 1) := by decide +kernel
theorem dX11_eats_5 : decode cX11_eats 5 = .ok (.aload_n 0, 1) := by decide +kernel
theorem dX11_eats_6 : decode cX11_eats 6 = .ok (.getfield 119, 3) := by decide +kernel
theorem dX11_eats_9 : decode cX11_eats 9 = .ok (.if_icmp .ge 50, 3) := by decide +kernel
theorem dX11_eats_12 : decode cX11_eats 12 = .ok (.aload_n 0, 1) := by decide +kernel
theorem dX11_eats_13 : decode cX11_eats 13 = .ok (.iload_n 2, 1) := by decide +kernel
theorem dX11_eats_14 : decode cX11_eats 14 = .ok (.invokevirtual 387, 3) := by decide +kernel
theorem dX11_eats_17 : decode cX11_eats 17 = .ok (.ifCond .ne 6, 3) := by decide +kernel
theorem dX11_eats_20 : decode cX11_eats 20 = .ok (.goto 33, 3) := by decide +kernel
theorem dX11_eats_23 : decode cX11_eats 23 = .ok (.iload_n 1, 1) := by decide +kernel
theorem dX11_eats_24 : decode cX11_eats 24 = .ok (.iconst 1, 1) := by decide +kernel
theorem dX11_eats_25 : decode cX11_eats 25 = .ok (.iadd, 1) := by decide +kernel
theorem dX11_eats_26 : decode cX11_eats 26 = .ok (.istore_n 1, 1) := by decide +kernel
theorem dX11_eats_27 : decode cX11_eats 27 = .ok (.aload_n 0, 1) := by decide +kernel
theorem dX11_eats_28 : decode cX11_eats 28 = .ok (.getfield 99, 3) := by decide +kernel
theorem dX11_eats_31 : decode cX11_eats 31 = .ok (.iconst (-1), 1) := by decide +kernel
theorem dX11_eats_32 : decode cX11_eats 32 = .ok (.if_icmp .eq 6, 3) := by decide +kernel
theorem dX11_eats_35 : decode cX11_eats 35 = .ok (.goto 18, 3) := by decide +kernel
theorem dX11_eats_38 : decode cX11_eats 38 = .ok (.aload_n 0, 1) := by decide +kernel
theorem dX11_eats_39 : decode cX11_eats 39 = .ok (.iload_n 2, 1) := by decide +kernel
theorem dX11_eats_40 : decode cX11_eats 40 = .ok (.putfield 99, 3) := by decide +kernel
theorem dX11_eats_43 : decode cX11_eats 43 = .ok (.aload_n 0, 1) := by decide +kernel
theorem dX11_eats_44 : decode cX11_eats 44 = .ok (.aload_n 0, 1) := by decide +kernel
theorem dX11_eats_45 : decode cX11_eats 45 = .ok (.getfield 7, 3) := by decide +kernel
theorem dX11_eats_48 : decode cX11_eats 48 = .ok (.iconst 0, 1) := by decide +kernel
theorem dX11_eats_49 : decode cX11_eats 49 = .ok (.iaload, 1) := by decide +kernel
theorem dX11_eats_50 : decode cX11_eats 50 = .ok (.putfield 102, 3) := by decide +kernel
theorem dX11_eats_53 : decode cX11_eats 53 = .ok (.iinc 2 1, 3) := by decide +kernel
theorem dX11_eats_56 : decode cX11_eats 56 = .ok (.goto (-52), 3) := by decide +kernel
theorem dX11_eats_59 : decode cX11_eats 59 = .ok (.iload_n 1, 1) := by decide +kernel
theorem dX11_eats_60 : decode cX11_eats 60 = .ok (.ireturn, 1) := by decide +kernel
theorem dX11_goesBy_0 : decode cX11_goesBy 0 = .ok (.iconst 0, 1) := by decide +kernel
theorem dX11_goesBy_1 : decode cX11_goesBy 1 = .ok (.istore_n 1, 1) := by decide +kernel
theorem dX11_goesBy_2 : decode cX11_goesBy 2 = .ok (.iload_n 1, 1) := by decide +kernel
theorem dX11_goesBy_3 : decode cX11_goesBy 3 = .ok (.aload_n 0, 1) := by decide +kernel
theorem dX11_goesBy_4 : decode cX11_goesBy 4 = .ok (.getfield 282, 3) := by decide +kernel
theorem dX11_goesBy_7 : decode cX11_goesBy 7 = .ok (.if_icmp .ge 33, 3) := by decide +kernel
theorem dX11_goesBy_10 : decode cX11_goesBy 10 = .ok (.aload_n 0, 1) := by decide +kernel
theorem dX11_goesBy_11 : decode cX11_goesBy 11 = .ok (.getfield 59, 3) := by decide +kernel
theorem dX11_goesBy_14 : decode cX11_goesBy 14 = .ok (.iconst 4, 1) := by decide +kernel
theorem dX11_goesBy_15 : decode cX11_goesBy 15 = .ok (.iload_n 1, 1) := by decide +kernel
theorem dX11_goesBy_16 : decode cX11_goesBy 16 = .ok (.imul, 1) := by decide +kernel
theorem dX11_goesBy_17 : decode cX11_goesBy 17 = .ok (.iaload, 1) := by decide +kernel
theorem dX11_goesBy_18 : decode cX11_goesBy 18 = .ok (.aload_n 0, 1) := by decide +kernel
theorem dX11_goesBy_19 : decode cX11_goesBy 19 = .ok (.getfield 7, 3) := by decide +kernel
theorem dX11_goesBy_22 : decode cX11_goesBy 22 = .ok (.iconst 0, 1) := by decide +kernel
theorem dX11_goesBy_23 : decode cX11_goesBy 23 = .ok (.iaload, 1) := by decide +kernel
theorem dX11_goesBy_24 : decode cX11_goesBy 24 = .ok (.if_icmp .ne 10, 3) := by decide +kernel
theorem dX11_goesBy_27 : decode cX11_goesBy 27 = .ok (.aload_n 0, 1) := by decide +kernel
theorem dX11_goesBy_28 : decode cX11_goesBy 28 = .ok (.iconst 4, 1) := by decide +kernel
theorem dX11_goesBy_29 : decode cX11_goesBy 29 = .ok (.iload_n 1, 1) := by decide +kernel
theorem dX11_goesBy_30 : decode cX11_goesBy 30 = .ok (.imul, 1) := by decide +kernel
theorem dX11_goesBy_31 : decode cX11_goesBy 31 = .ok (.invokevirtual 390, 3) := by decide +kernel
theorem dX11_goesBy_34 : decode cX11_goesBy 34 = .ok (.iinc 1 1, 3) := by decide +kernel
theorem dX11_goesBy_37 : decode cX11_goesBy 37 = .ok (.goto (-35), 3) := by decide +kernel
theorem dX11_goesBy_40 : decode cX11_goesBy 40 = .ok (.iconst 0, 1) := by decide +kernel
theorem dX11_goesBy_41 : decode cX11_goesBy 41 = .ok (.istore_n 1, 1) := by decide +kernel
theorem dX11_goesBy_42 : decode cX11_goesBy 42 = .ok (.iload_n 1, 1) := by decide +kernel
theorem dX11_goesBy_43 : decode cX11_goesBy 43 = .ok (.aload_n 0, 1) := by decide +kernel
theorem dX11_goesBy_44 : decode cX11_goesBy 44 = .ok (.getfield 7, 3) := by decide +kernel
theorem dX11_goesBy_47 : decode cX11_goesBy 47 = .ok (.iconst 4, 1) := by decide +kernel
theorem dX11_goesBy_48 : decode cX11_goesBy 48 = .ok (.iaload, 1) := by decide +kernel
theorem dX11_goesBy_49 : decode cX11_goesBy 49 = .ok (.if_icmp .ge 40, 3) := by decide +kernel
theorem dX11_goesBy_52 : decode cX11_goesBy 52 = .ok (.aload_n 0, 1) := by decide +kernel
theorem dX11_goesBy_53 : decode cX11_goesBy 53 = .ok (.getfield 7, 3) := by decide +kernel
theorem dX11_goesBy_56 : decode cX11_goesBy 56 = .ok (.bipush 62, 2) := by decide +kernel
theorem dX11_goesBy_58 : decode cX11_goesBy 58 = .ok (.iload_n 1, 1) := by decide +kernel
theorem dX11_goesBy_59 : decode cX11_goesBy 59 = .ok (.iadd, 1) := by decide +kernel
theorem dX11_goesBy_60 : decode cX11_goesBy 60 = .ok (.aload_n 0, 1) := by decide +kernel
theorem dX11_goesBy_61 : decode cX11_goesBy 61 = .ok (.aload_n 0, 1) := by decide +kernel
theorem dX11_goesBy_62 : decode cX11_goesBy 62 = .ok (.getfield 7, 3) := by decide +kernel
theorem dX11_goesBy_65 : decode cX11_goesBy 65 = .ok (.bipush 62, 2) := by decide +kernel
theorem dX11_goesBy_67 : decode cX11_goesBy 67 = .ok (.iload_n 1, 1) := by decide +kernel
theorem dX11_goesBy_68 : decode cX11_goesBy 68 = .ok (.iadd, 1) := by decide +kernel
theorem dX11_goesBy_69 : decode cX11_goesBy 69 = .ok (.iaload, 1) := by decide +kernel
theorem dX11_goesBy_70 : decode cX11_goesBy 70 = .ok (.aload_n 0, 1) := by decide +kernel
theorem dX11_goesBy_71 : decode cX11_goesBy 71 = .ok (.iload_n 1, 1) := by decide +kernel
theorem dX11_goesBy_72 : decode cX11_goesBy 72 = .ok (.invokevirtual 393, 3) := by decide +kernel
theorem dX11_goesBy_75 : decode cX11_goesBy 75 = .ok (.iadd, 1) := by decide +kernel
theorem dX11_goesBy_76 : decode cX11_goesBy 76 = .ok (.iconst 0, 1) := by decide +kernel
theorem dX11_goesBy_77 : decode cX11_goesBy 77 = .ok (.bipush 99, 2) := by decide +kernel
theorem dX11_goesBy_79 : decode cX11_goesBy 79 = .ok (.invokevirtual 122, 3) := by decide +kernel
theorem dX11_goesBy_82 : decode cX11_goesBy 82 = .ok (.iastore, 1) := by decide +kernel
theorem dX11_goesBy_83 : decode cX11_goesBy 83 = .ok (.iinc 1 1, 3) := by decide +kernel
theorem dX11_goesBy_86 : decode cX11_goesBy 86 = .ok (.goto (-44), 3) := by decide +kernel
theorem dX11_goesBy_89 : decode cX11_goesBy 89 = .ok (.aload_n 0, 1) := by decide +kernel
theorem dX11_goesBy_90 : decode cX11_goesBy 90 = .ok (.invokevirtual 396, 3) := by decide +kernel
theorem dX11_goesBy_93 : decode cX11_goesBy 93 = .ok (.istore_n 1, 1) := by decide +kernel
theorem dX11_goesBy_94 : decode cX11_goesBy 94 = .ok (.aload_n 0, 1) := by decide +kernel
theorem dX11_goesBy_95 : decode cX11_goesBy 95 = .ok (.invokevirtual 399, 3) := by decide +kernel
theorem dX11_goesBy_98 : decode cX11_goesBy 98 = .ok (.aload_n 0, 1) := by decide +kernel
theorem dX11_goesBy_99 : decode cX11_goesBy 99 = .ok (.getfield 7, 3) := by decide +kernel
theorem dX11_goesBy_102 : decode cX11_goesBy 102 = .ok (.iconst 0, 1) := by decide +kernel
theorem dX11_goesBy_103 : decode cX11_goesBy 103 = .ok (.iaload, 1) := by decide +kernel
theorem dX11_goesBy_104 : decode cX11_goesBy 104 = .ok (.iconst 1, 1) := by decide +kernel
theorem dX11_goesBy_105 : decode cX11_goesBy 105 = .ok (.iadd, 1) := by decide +kernel
theorem dX11_goesBy_106 : decode cX11_goesBy 106 = .ok (.aload_n 0, 1) := by decide +kernel
theorem dX11_goesBy_107 : decode cX11_goesBy 107 = .ok (.invokevirtual 402, 3) := by decide +kernel
theorem dX11_goesBy_110 : decode cX11_goesBy 110 = .ok (.irem, 1) := by decide +kernel
theorem dX11_goesBy_111 : decode cX11_goesBy 111 = .ok (.ifCond .ne 7, 3) := by decide +kernel
theorem dX11_goesBy_114 : decode cX11_goesBy 114 = .ok (.aload_n 0, 1) := by decide +kernel
theorem dX11_goesBy_115 : decode cX11_goesBy 115 = .ok (.invokevirtual 405, 3) := by decide +kernel
theorem dX11_goesBy_118 : decode cX11_goesBy 118 = .ok (.aload_n 0, 1) := by decide +kernel
theorem dX11_goesBy_119 : decode cX11_goesBy 119 = .ok (.getfield 7, 3) := by decide +kernel
theorem dX11_goesBy_122 : decode cX11_goesBy 122 = .ok (.iconst 0, 1) := by decide +kernel
theorem dX11_goesBy_123 : decode cX11_goesBy 123 = .ok (.aload_n 0, 1) := by decide +kernel
theorem dX11_goesBy_124 : decode cX11_goesBy 124 = .ok (.getfield 7, 3) := by decide +kernel
theorem dX11_goesBy_127 : decode cX11_goesBy 127 = .ok (.iconst 0, 1) := by decide +kernel
theorem dX11_goesBy_128 : decode cX11_goesBy 128 = .ok (.iaload, 1) := by decide +kernel
theorem dX11_goesBy_129 : decode cX11_goesBy 129 = .ok (.iconst 1, 1) := by decide +kernel
theorem dX11_goesBy_130 : decode cX11_goesBy 130 = .ok (.iadd, 1) := by decide +kernel
theorem dX11_goesBy_131 : decode cX11_goesBy 131 = .ok (.iastore, 1) := by decide +kernel
theorem dX11_goesBy_132 : decode cX11_goesBy 132 = .ok (.iconst 0, 1) := by decide +kernel
theorem dX11_goesBy_133 : decode cX11_goesBy 133 = .ok (.istore_n 2, 1) := by decide +kernel
theorem dX11_goesBy_134 : decode cX11_goesBy 134 = .ok (.iload_n 2, 1) := by decide +kernel
theorem dX11_goesBy_135 : decode cX11_goesBy 135 = .ok (.aload_n 0, 1) := by decide +kernel
theorem dX11_goesBy_136 : decode cX11_goesBy 136 = .ok (.getfield 7, 3) := by decide +kernel
theorem dX11_goesBy_139 : decode cX11_goesBy 139 = .ok (.iconst 4, 1) := by decide +kernel
theorem dX11_goesBy_140 : decode cX11_goesBy 140 = .ok (.iaload, 1) := by decide +kernel
theorem dX11_goesBy_141 : decode cX11_goesBy 141 = .ok (.if_icmp .ge 48, 3) := by decide +kernel
theorem dX11_goesBy_144 : decode cX11_goesBy 144 = .ok (.aload_n 0, 1) := by decide +kernel
theorem dX11_goesBy_145 : decode cX11_goesBy 145 = .ok (.getfield 7, 3) := by decide +kernel
theorem dX11_goesBy_148 : decode cX11_goesBy 148 = .ok (.iconst 0, 1) := by decide +kernel
theorem dX11_goesBy_149 : decode cX11_goesBy 149 = .ok (.iaload, 1) := by decide +kernel
theorem dX11_goesBy_150 : decode cX11_goesBy 150 = .ok (.bipush 52, 2) := by decide +kernel
theorem dX11_goesBy_152 : decode cX11_goesBy 152 = .ok (.irem, 1) := by decide +kernel
theorem dX11_goesBy_153 : decode cX11_goesBy 153 = .ok (.ifCond .ne 36, 3) := by decide +kernel
theorem dX11_goesBy_156 : decode cX11_goesBy 156 = .ok (.aload_n 0, 1) := by decide +kernel
theorem dX11_goesBy_157 : decode cX11_goesBy 157 = .ok (.getfield 7, 3) := by decide +kernel
theorem dX11_goesBy_160 : decode cX11_goesBy 160 = .ok (.bipush 48, 2) := by decide +kernel
theorem dX11_goesBy_162 : decode cX11_goesBy 162 = .ok (.iload_n 2, 1) := by decide +kernel
theorem dX11_goesBy_163 : decode cX11_goesBy 163 = .ok (.iadd, 1) := by decide +kernel
theorem dX11_goesBy_164 : decode cX11_goesBy 164 = .ok (.aload_n 0, 1) := by decide +kernel
theorem dX11_goesBy_165 : decode cX11_goesBy 165 = .ok (.aload_n 0, 1) := by decide +kernel
theorem dX11_goesBy_166 : decode cX11_goesBy 166 = .ok (.getfield 7, 3) := by decide +kernel
theorem dX11_goesBy_169 : decode cX11_goesBy 169 = .ok (.bipush 48, 2) := by decide +kernel
theorem dX11_goesBy_171 : decode cX11_goesBy 171 = .ok (.iload_n 2, 1) := by decide +kernel
theorem dX11_goesBy_172 : decode cX11_goesBy 172 = .ok (.iadd, 1) := by decide +kernel
theorem dX11_goesBy_173 : decode cX11_goesBy 173 = .ok (.iaload, 1) := by decide +kernel
theorem dX11_goesBy_174 : decode cX11_goesBy 174 = .ok (.iconst 1, 1) := by decide +kernel
theorem dX11_goesBy_175 : decode cX11_goesBy 175 = .ok (.iadd, 1) := by decide +kernel
theorem dX11_goesBy_176 : decode cX11_goesBy 176 = .ok (.iconst 0, 1) := by decide +kernel
theorem dX11_goesBy_177 : decode cX11_goesBy 177 = .ok (.bipush 99, 2) := by decide +kernel
theorem dX11_goesBy_179 : decode cX11_goesBy 179 = .ok (.invokevirtual 122, 3) := by decide +kernel
theorem dX11_goesBy_182 : decode cX11_goesBy 182 = .ok (.iastore, 1) := by decide +kernel
theorem dX11_goesBy_183 : decode cX11_goesBy 183 = .ok (.iinc 2 1, 3) := by decide +kernel
theorem dX11_goesBy_186 : decode cX11_goesBy 186 = .ok (.goto (-52), 3) := by decide +kernel
theorem dX11_goesBy_189 : decode cX11_goesBy 189 = .ok (.iload_n 1, 1) := by decide +kernel
theorem dX11_goesBy_190 : decode cX11_goesBy 190 = .ok (.ireturn, 1) := by decide +kernel
theorem dX11_goesFor_0 : decode cX11_goesFor 0 = .ok (.iconst 0, 1) := by decide +kernel
theorem dX11_goesFor_1 : decode cX11_goesFor 1 = .ok (.istore_n 2, 1) := by decide +kernel
theorem dX11_goesFor_2 : decode cX11_goesFor 2 = .ok (.iload_n 2, 1) := by decide +kernel
theorem dX11_goesFor_3 : decode cX11_goesFor 3 = .ok (.iload_n 1, 1) := by decide +kernel
theorem dX11_goesFor_4 : decode cX11_goesFor 4 = .ok (.if_icmp .ge 14, 3) := by decide +kernel
theorem dX11_goesFor_7 : decode cX11_goesFor 7 = .ok (.aload_n 0, 1) := by decide +kernel
theorem dX11_goesFor_8 : decode cX11_goesFor 8 = .ok (.invokevirtual 408, 3) := by decide +kernel
theorem dX11_goesFor_11 : decode cX11_goesFor 11 = .ok (.pop, 1) := by decide +kernel
theorem dX11_goesFor_12 : decode cX11_goesFor 12 = .ok (.iinc 2 1, 3) := by decide +kernel
theorem dX11_goesFor_15 : decode cX11_goesFor 15 = .ok (.goto (-13), 3) := by decide +kernel
theorem dX11_goesFor_18 : decode cX11_goesFor 18 = .ok (.return_, 1) := by decide +kernel
theorem dX11_weeks_0 : decode cX11_weeks 0 = .ok (.aload_n 0, 1) := by decide +kernel
theorem dX11_weeks_1 : decode cX11_weeks 1 = .ok (.iconst 0, 1) := by decide +kernel
theorem dX11_weeks_2 : decode cX11_weeks 2 = .ok (.putfield 86, 3) := by decide +kernel
theorem dX11_weeks_5 : decode cX11_weeks 5 = .ok (.aload_n 0, 1) := by decide +kernel
theorem dX11_weeks_6 : decode cX11_weeks 6 = .ok (.iload_n 1, 1) := by decide +kernel
theorem dX11_weeks_7 : decode cX11_weeks 7 = .ok (.iconst 1, 1) := by decide +kernel
theorem dX11_weeks_8 : decode cX11_weeks 8 = .ok (.bipush 60, 2) := by decide +kernel
theorem dX11_weeks_10 : decode cX11_weeks 10 = .ok (.invokevirtual 126, 3) := by decide +kernel
theorem dX11_weeks_13 : decode cX11_weeks 13 = .ok (.ifCond .eq 17, 3) := by decide +kernel
theorem dX11_weeks_16 : decode cX11_weeks 16 = .ok (.aload_n 0, 1) := by decide +kernel
theorem dX11_weeks_17 : decode cX11_weeks 17 = .ok (.getfield 7, 3) := by decide +kernel
theorem dX11_weeks_20 : decode cX11_weeks 20 = .ok (.iconst 0, 1) := by decide +kernel
theorem dX11_weeks_21 : decode cX11_weeks 21 = .ok (.iaload, 1) := by decide +kernel
theorem dX11_weeks_22 : decode cX11_weeks 22 = .ok (.iload_n 1, 1) := by decide +kernel
theorem dX11_weeks_23 : decode cX11_weeks 23 = .ok (.iadd, 1) := by decide +kernel
theorem dX11_weeks_24 : decode cX11_weeks 24 = .ok (.sipush 9999, 3) := by decide +kernel
theorem dX11_weeks_27 : decode cX11_weeks 27 = .ok (.if_icmp .le 5, 3) := by decide +kernel
theorem dX11_weeks_30 : decode cX11_weeks 30 = .ok (.iconst (-1), 1) := by decide +kernel
theorem dX11_weeks_31 : decode cX11_weeks 31 = .ok (.ireturn, 1) := by decide +kernel
theorem dX11_weeks_32 : decode cX11_weeks 32 = .ok (.iconst 0, 1) := by decide +kernel
theorem dX11_weeks_33 : decode cX11_weeks 33 = .ok (.istore_n 2, 1) := by decide +kernel
theorem dX11_weeks_34 : decode cX11_weeks 34 = .ok (.iconst 0, 1) := by decide +kernel
theorem dX11_weeks_35 : decode cX11_weeks 35 = .ok (.istore_n 3, 1) := by decide +kernel
theorem dX11_weeks_36 : decode cX11_weeks 36 = .ok (.iload_n 3, 1) := by decide +kernel
theorem dX11_weeks_37 : decode cX11_weeks 37 = .ok (.iload_n 1, 1) := by decide +kernel
theorem dX11_weeks_38 : decode cX11_weeks 38 = .ok (.if_icmp .ge 20, 3) := by decide +kernel
theorem dX11_weeks_41 : decode cX11_weeks 41 = .ok (.aload_n 0, 1) := by decide +kernel
theorem dX11_weeks_42 : decode cX11_weeks 42 = .ok (.invokevirtual 329, 3) := by decide +kernel
theorem dX11_weeks_45 : decode cX11_weeks 45 = .ok (.iload_n 2, 1) := by decide +kernel
theorem dX11_weeks_46 : decode cX11_weeks 46 = .ok (.aload_n 0, 1) := by decide +kernel
theorem dX11_weeks_47 : decode cX11_weeks 47 = .ok (.invokevirtual 408, 3) := by decide +kernel
theorem dX11_weeks_50 : decode cX11_weeks 50 = .ok (.iadd, 1) := by decide +kernel
theorem dX11_weeks_51 : decode cX11_weeks 51 = .ok (.istore_n 2, 1) := by decide +kernel
theorem dX11_weeks_52 : decode cX11_weeks 52 = .ok (.iinc 3 1, 3) := by decide +kernel
theorem dX11_weeks_55 : decode cX11_weeks 55 = .ok (.goto (-19), 3) := by decide +kernel
theorem dX11_weeks_58 : decode cX11_weeks 58 = .ok (.iload_n 2, 1) := by decide +kernel
theorem dX11_weeks_59 : decode cX11_weeks 59 = .ok (.ireturn, 1) := by decide +kernel
theorem dX11_of_0 : decode cX11_of 0 = .ok (.aload_n 0, 1) := by decide +kernel
theorem dX11_of_1 : decode cX11_of 1 = .ok (.iconst 0, 1) := by decide +kernel
theorem dX11_of_2 : decode cX11_of 2 = .ok (.putfield 86, 3) := by decide +kernel
theorem dX11_of_5 : decode cX11_of 5 = .ok (.aload_n 0, 1) := by decide +kernel
theorem dX11_of_6 : decode cX11_of 6 = .ok (.iload_n 1, 1) := by decide +kernel
theorem dX11_of_7 : decode cX11_of 7 = .ok (.invokevirtual 134, 3) := by decide +kernel
theorem dX11_of_10 : decode cX11_of 10 = .ok (.ifCond .eq 13, 3) := by decide +kernel
theorem dX11_of_13 : decode cX11_of 13 = .ok (.aload_n 0, 1) := by decide +kernel
theorem dX11_of_14 : decode cX11_of 14 = .ok (.iload_n 2, 1) := by decide +kernel
theorem dX11_of_15 : decode cX11_of 15 = .ok (.iconst 0, 1) := by decide +kernel
theorem dX11_of_16 : decode cX11_of 16 = .ok (.iconst 3, 1) := by decide +kernel
theorem dX11_of_17 : decode cX11_of 17 = .ok (.invokevirtual 126, 3) := by decide +kernel
theorem dX11_of_20 : decode cX11_of 20 = .ok (.ifCond .ne 5, 3) := by decide +kernel
theorem dX11_of_23 : decode cX11_of 23 = .ok (.iconst (-1), 1) := by decide +kernel
theorem dX11_of_24 : decode cX11_of 24 = .ok (.ireturn, 1) := by decide +kernel
theorem dX11_of_25 : decode cX11_of 25 = .ok (.iload_n 2, 1) := by decide +kernel
theorem dX11_of_26 : decode cX11_of 26 = .ok (.iconst 3, 1) := by decide +kernel
theorem dX11_of_27 : decode cX11_of 27 = .ok (.if_icmp .ge 31, 3) := by decide +kernel
theorem dX11_of_30 : decode cX11_of 30 = .ok (.aload_n 0, 1) := by decide +kernel
theorem dX11_of_31 : decode cX11_of 31 = .ok (.getfield 7, 3) := by decide +kernel
theorem dX11_of_34 : decode cX11_of 34 = .ok (.iload_n 1, 1) := by decide +kernel
theorem dX11_of_35 : decode cX11_of 35 = .ok (.iload_n 2, 1) := by decide +kernel
theorem dX11_of_36 : decode cX11_of 36 = .ok (.ifCond .ne 8, 3) := by decide +kernel
theorem dX11_of_39 : decode cX11_of 39 = .ok (.bipush 15, 2) := by decide +kernel
theorem dX11_of_41 : decode cX11_of 41 = .ok (.goto 14, 3) := by decide +kernel
theorem dX11_of_44 : decode cX11_of 44 = .ok (.iload_n 2, 1) := by decide +kernel
theorem dX11_of_45 : decode cX11_of 45 = .ok (.iconst 1, 1) := by decide +kernel
theorem dX11_of_46 : decode cX11_of 46 = .ok (.if_icmp .ne 7, 3) := by decide +kernel
theorem dX11_of_49 : decode cX11_of 49 = .ok (.iconst 5, 1) := by decide +kernel
theorem dX11_of_50 : decode cX11_of 50 = .ok (.goto 5, 3) := by decide +kernel
theorem dX11_of_53 : decode cX11_of 53 = .ok (.bipush 10, 2) := by decide +kernel
theorem dX11_of_55 : decode cX11_of 55 = .ok (.iadd, 1) := by decide +kernel
theorem dX11_of_56 : decode cX11_of 56 = .ok (.iaload, 1) := by decide +kernel
theorem dX11_of_57 : decode cX11_of 57 = .ok (.ireturn, 1) := by decide +kernel
theorem dX11_of_58 : decode cX11_of 58 = .ok (.iconst 0, 1) := by decide +kernel
theorem dX11_of_59 : decode cX11_of 59 = .ok (.istore_n 3, 1) := by decide +kernel
theorem dX11_of_60 : decode cX11_of 60 = .ok (.iconst 0, 1) := by decide +kernel
theorem dX11_of_61 : decode cX11_of 61 = .ok (.istore 4, 2) := by decide +kernel
theorem dX11_of_63 : decode cX11_of 63 = .ok (.iload 4, 2) := by decide +kernel
theorem dX11_of_65 : decode cX11_of 65 = .ok (.aload_n 0, 1) := by decide +kernel
theorem dX11_of_66 : decode cX11_of 66 = .ok (.getfield 7, 3) := by decide +kernel
theorem dX11_of_69 : decode cX11_of 69 = .ok (.iconst 4, 1) := by decide +kernel
theorem dX11_of_70 : decode cX11_of 70 = .ok (.iaload, 1) := by decide +kernel
theorem dX11_of_71 : decode cX11_of 71 = .ok (.if_icmp .ge 36, 3) := by decide +kernel
theorem dX11_of_74 : decode cX11_of 74 = .ok (.aload_n 0, 1) := by decide +kernel
theorem dX11_of_75 : decode cX11_of 75 = .ok (.getfield 7, 3) := by decide +kernel
theorem dX11_of_78 : decode cX11_of 78 = .ok (.bipush 20, 2) := by decide +kernel
theorem dX11_of_80 : decode cX11_of 80 = .ok (.iload 4, 2) := by decide +kernel
theorem dX11_of_82 : decode cX11_of 82 = .ok (.iadd, 1) := by decide +kernel
theorem dX11_of_83 : decode cX11_of 83 = .ok (.iaload, 1) := by decide +kernel
theorem dX11_of_84 : decode cX11_of 84 = .ok (.iload_n 1, 1) := by decide +kernel
theorem dX11_of_85 : decode cX11_of 85 = .ok (.if_icmp .ne 16, 3) := by decide +kernel
theorem dX11_of_88 : decode cX11_of 88 = .ok (.iload_n 3, 1) := by decide +kernel
theorem dX11_of_89 : decode cX11_of 89 = .ok (.aload_n 0, 1) := by decide +kernel
theorem dX11_of_90 : decode cX11_of 90 = .ok (.getfield 7, 3) := by decide +kernel
theorem dX11_of_93 : decode cX11_of 93 = .ok (.bipush 62, 2) := by decide +kernel
theorem dX11_of_95 : decode cX11_of 95 = .ok (.iload 4, 2) := by decide +kernel
theorem dX11_of_97 : decode cX11_of 97 = .ok (.iadd, 1) := by decide +kernel
theorem dX11_of_98 : decode cX11_of 98 = .ok (.iaload, 1) := by decide +kernel
theorem dX11_of_99 : decode cX11_of 99 = .ok (.iadd, 1) := by decide +kernel
theorem dX11_of_100 : decode cX11_of 100 = .ok (.istore_n 3, 1) := by decide +kernel
theorem dX11_of_101 : decode cX11_of 101 = .ok (.iinc 4 1, 3) := by decide +kernel
theorem dX11_of_104 : decode cX11_of 104 = .ok (.goto (-41), 3) := by decide +kernel
theorem dX11_of_107 : decode cX11_of 107 = .ok (.iload_n 3, 1) := by decide +kernel
theorem dX11_of_108 : decode cX11_of 108 = .ok (.ireturn, 1) := by decide +kernel
theorem dX11_tree_0 : decode cX11_tree 0 = .ok (.aload_n 0, 1) := by decide +kernel
theorem dX11_tree_1 : decode cX11_tree 1 = .ok (.iconst 0, 1) := by decide +kernel
theorem dX11_tree_2 : decode cX11_tree 2 = .ok (.putfield 86, 3) := by decide +kernel
theorem dX11_tree_5 : decode cX11_tree 5 = .ok (.aload_n 0, 1) := by decide +kernel
theorem dX11_tree_6 : decode cX11_tree 6 = .ok (.iload_n 1, 1) := by decide +kernel
theorem dX11_tree_7 : decode cX11_tree 7 = .ok (.invokevirtual 141, 3) := by decide +kernel
theorem dX11_tree_10 : decode cX11_tree 10 = .ok (.ifCond .eq 13, 3) := by decide +kernel
theorem dX11_tree_13 : decode cX11_tree 13 = .ok (.aload_n 0, 1) := by decide +kernel
theorem dX11_tree_14 : decode cX11_tree 14 = .ok (.iload_n 2, 1) := by decide +kernel
theorem dX11_tree_15 : decode cX11_tree 15 = .ok (.iconst 0, 1) := by decide +kernel
theorem dX11_tree_16 : decode cX11_tree 16 = .ok (.iconst 4, 1) := by decide +kernel
theorem dX11_tree_17 : decode cX11_tree 17 = .ok (.invokevirtual 126, 3) := by decide +kernel
theorem dX11_tree_20 : decode cX11_tree 20 = .ok (.ifCond .ne 5, 3) := by decide +kernel
theorem dX11_tree_23 : decode cX11_tree 23 = .ok (.iconst (-1), 1) := by decide +kernel
theorem dX11_tree_24 : decode cX11_tree 24 = .ok (.ireturn, 1) := by decide +kernel
theorem dX11_tree_25 : decode cX11_tree 25 = .ok (.iload_n 2, 1) := by decide +kernel
theorem dX11_tree_26 : decode cX11_tree 26 = .ok (.iconst 4, 1) := by decide +kernel
theorem dX11_tree_27 : decode cX11_tree 27 = .ok (.if_icmp .ne 11, 3) := by decide +kernel
theorem dX11_tree_30 : decode cX11_tree 30 = .ok (.aload_n 0, 1) := by decide +kernel
theorem dX11_tree_31 : decode cX11_tree 31 = .ok (.iload_n 1, 1) := by decide +kernel
theorem dX11_tree_32 : decode cX11_tree 32 = .ok (.invokevirtual 393, 3) := by decide +kernel
theorem dX11_tree_35 : decode cX11_tree 35 = .ok (.goto 17, 3) := by decide +kernel
theorem dX11_tree_38 : decode cX11_tree 38 = .ok (.aload_n 0, 1) := by decide +kernel
theorem dX11_tree_39 : decode cX11_tree 39 = .ok (.getfield 7, 3) := by decide +kernel
theorem dX11_tree_42 : decode cX11_tree 42 = .ok (.bipush 20, 2) := by decide +kernel
theorem dX11_tree_44 : decode cX11_tree 44 = .ok (.bipush 14, 2) := by decide +kernel
theorem dX11_tree_46 : decode cX11_tree 46 = .ok (.iload_n 2, 1) := by decide +kernel
theorem dX11_tree_47 : decode cX11_tree 47 = .ok (.imul, 1) := by decide +kernel
theorem dX11_tree_48 : decode cX11_tree 48 = .ok (.iadd, 1) := by decide +kernel
theorem dX11_tree_49 : decode cX11_tree 49 = .ok (.iload_n 1, 1) := by decide +kernel
theorem dX11_tree_50 : decode cX11_tree 50 = .ok (.iadd, 1) := by decide +kernel
theorem dX11_tree_51 : decode cX11_tree 51 = .ok (.iaload, 1) := by decide +kernel
theorem dX11_tree_52 : decode cX11_tree 52 = .ok (.ireturn, 1) := by decide +kernel
theorem dX11_who_0 : decode cX11_who 0 = .ok (.aload_n 0, 1) := by decide +kernel
theorem dX11_who_1 : decode cX11_who 1 = .ok (.iconst 0, 1) := by decide +kernel
theorem dX11_who_2 : decode cX11_who 2 = .ok (.putfield 86, 3) := by decide +kernel
theorem dX11_who_5 : decode cX11_who 5 = .ok (.aload_n 0, 1) := by decide +kernel
theorem dX11_who_6 : decode cX11_who 6 = .ok (.iload_n 1, 1) := by decide +kernel
theorem dX11_who_7 : decode cX11_who 7 = .ok (.invokevirtual 130, 3) := by decide +kernel
theorem dX11_who_10 : decode cX11_who 10 = .ok (.ifCond .ne 5, 3) := by decide +kernel
theorem dX11_who_13 : decode cX11_who 13 = .ok (.iconst (-1), 1) := by decide +kernel
theorem dX11_who_14 : decode cX11_who 14 = .ok (.ireturn, 1) := by decide +kernel
theorem dX11_who_15 : decode cX11_who 15 = .ok (.aload_n 0, 1) := by decide +kernel
theorem dX11_who_16 : decode cX11_who 16 = .ok (.getfield 56, 3) := by decide +kernel
theorem dX11_who_19 : decode cX11_who 19 = .ok (.bipush 9, 2) := by decide +kernel
theorem dX11_who_21 : decode cX11_who 21 = .ok (.iload_n 1, 1) := by decide +kernel
theorem dX11_who_22 : decode cX11_who 22 = .ok (.imul, 1) := by decide +kernel
theorem dX11_who_23 : decode cX11_who 23 = .ok (.iaload, 1) := by decide +kernel
theorem dX11_who_24 : decode cX11_who 24 = .ok (.istore_n 3, 1) := by decide +kernel
theorem dX11_who_25 : decode cX11_who 25 = .ok (.iload_n 2, 1) := by decide +kernel
theorem dX11_who_26 : decode cX11_who 26 = .ok (.ifCond .ne 13, 3) := by decide +kernel
theorem dX11_who_29 : decode cX11_who 29 = .ok (.aload_n 0, 1) := by decide +kernel
theorem dX11_who_30 : decode cX11_who 30 = .ok (.getfield 7, 3) := by decide +kernel
theorem dX11_who_33 : decode cX11_who 33 = .ok (.bipush 76, 2) := by decide +kernel
theorem dX11_who_35 : decode cX11_who 35 = .ok (.iload_n 1, 1) := by decide +kernel
theorem dX11_who_36 : decode cX11_who 36 = .ok (.iadd, 1) := by decide +kernel
theorem dX11_who_37 : decode cX11_who 37 = .ok (.iaload, 1) := by decide +kernel
theorem dX11_who_38 : decode cX11_who 38 = .ok (.ireturn, 1) := by decide +kernel
theorem dX11_who_39 : decode cX11_who 39 = .ok (.iload_n 2, 1) := by decide +kernel
theorem dX11_who_40 : decode cX11_who 40 = .ok (.iconst 1, 1) := by decide +kernel
theorem dX11_who_41 : decode cX11_who 41 = .ok (.if_icmp .ne 9, 3) := by decide +kernel
theorem dX11_who_44 : decode cX11_who 44 = .ok (.aload_n 0, 1) := by decide +kernel
theorem dX11_who_45 : decode cX11_who 45 = .ok (.iload_n 1, 1) := by decide +kernel
theorem dX11_who_46 : decode cX11_who 46 = .ok (.invokevirtual 363, 3) := by decide +kernel
theorem dX11_who_49 : decode cX11_who 49 = .ok (.ireturn, 1) := by decide +kernel
theorem dX11_who_50 : decode cX11_who 50 = .ok (.iload_n 2, 1) := by decide +kernel
theorem dX11_who_51 : decode cX11_who 51 = .ok (.iconst 2, 1) := by decide +kernel
theorem dX11_who_52 : decode cX11_who 52 = .ok (.if_icmp .ne 5, 3) := by decide +kernel
theorem dX11_who_55 : decode cX11_who 55 = .ok (.iload_n 3, 1) := by decide +kernel
theorem dX11_who_56 : decode cX11_who 56 = .ok (.ireturn, 1) := by decide +kernel
theorem dX11_who_57 : decode cX11_who 57 = .ok (.aload_n 0, 1) := by decide +kernel
theorem dX11_who_58 : decode cX11_who 58 = .ok (.iload_n 2, 1) := by decide +kernel
theorem dX11_who_59 : decode cX11_who 59 = .ok (.bipush 10, 2) := by decide +kernel
theorem dX11_who_61 : decode cX11_who 61 = .ok (.bipush 9, 2) := by decide +kernel
theorem dX11_who_63 : decode cX11_who 63 = .ok (.iload_n 3, 1) := by decide +kernel
theorem dX11_who_64 : decode cX11_who 64 = .ok (.iadd, 1) := by decide +kernel
theorem dX11_who_65 : decode cX11_who 65 = .ok (.invokevirtual 126, 3) := by decide +kernel
theorem dX11_who_68 : decode cX11_who 68 = .ok (.ifCond .eq 18, 3) := by decide +kernel
theorem dX11_who_71 : decode cX11_who 71 = .ok (.aload_n 0, 1) := by decide +kernel
theorem dX11_who_72 : decode cX11_who 72 = .ok (.getfield 56, 3) := by decide +kernel
theorem dX11_who_75 : decode cX11_who 75 = .ok (.bipush 9, 2) := by decide +kernel
theorem dX11_who_77 : decode cX11_who 77 = .ok (.iload_n 1, 1) := by decide +kernel
theorem dX11_who_78 : decode cX11_who 78 = .ok (.imul, 1) := by decide +kernel
theorem dX11_who_79 : decode cX11_who 79 = .ok (.iload_n 2, 1) := by decide +kernel
theorem dX11_who_80 : decode cX11_who 80 = .ok (.iadd, 1) := by decide +kernel
theorem dX11_who_81 : decode cX11_who 81 = .ok (.bipush 9, 2) := by decide +kernel
theorem dX11_who_83 : decode cX11_who 83 = .ok (.isub, 1) := by decide +kernel
theorem dX11_who_84 : decode cX11_who 84 = .ok (.iaload, 1) := by decide +kernel
theorem dX11_who_85 : decode cX11_who 85 = .ok (.ireturn, 1) := by decide +kernel
theorem dX11_who_86 : decode cX11_who 86 = .ok (.aload_n 0, 1) := by decide +kernel
theorem dX11_who_87 : decode cX11_who 87 = .ok (.iload_n 2, 1) := by decide +kernel
theorem dX11_who_88 : decode cX11_who 88 = .ok (.bipush 20, 2) := by decide +kernel
theorem dX11_who_90 : decode cX11_who 90 = .ok (.bipush 19, 2) := by decide +kernel
theorem dX11_who_92 : decode cX11_who 92 = .ok (.aload_n 0, 1) := by decide +kernel
theorem dX11_who_93 : decode cX11_who 93 = .ok (.getfield 116, 3) := by decide +kernel
theorem dX11_who_96 : decode cX11_who 96 = .ok (.iadd, 1) := by decide +kernel
theorem dX11_who_97 : decode cX11_who 97 = .ok (.invokevirtual 126, 3) := by decide +kernel
theorem dX11_who_100 : decode cX11_who 100 = .ok (.ifCond .eq 15, 3) := by decide +kernel
theorem dX11_who_103 : decode cX11_who 103 = .ok (.aload_n 0, 1) := by decide +kernel
theorem dX11_who_104 : decode cX11_who 104 = .ok (.iload_n 1, 1) := by decide +kernel
theorem dX11_who_105 : decode cX11_who 105 = .ok (.iload_n 2, 1) := by decide +kernel
theorem dX11_who_106 : decode cX11_who 106 = .ok (.bipush 20, 2) := by decide +kernel
theorem dX11_who_108 : decode cX11_who 108 = .ok (.isub, 1) := by decide +kernel
theorem dX11_who_109 : decode cX11_who 109 = .ok (.invokevirtual 313, 3) := by decide +kernel
theorem dX11_who_112 : decode cX11_who 112 = .ok (.goto 4, 3) := by decide +kernel
theorem dX11_who_115 : decode cX11_who 115 = .ok (.iconst (-1), 1) := by decide +kernel
theorem dX11_who_116 : decode cX11_who 116 = .ok (.ireturn, 1) := by decide +kernel
theorem dX11_at_0 : decode cX11_at 0 = .ok (.aload_n 0, 1) := by decide +kernel
theorem dX11_at_1 : decode cX11_at 1 = .ok (.iconst 0, 1) := by decide +kernel
theorem dX11_at_2 : decode cX11_at 2 = .ok (.putfield 86, 3) := by decide +kernel
theorem dX11_at_5 : decode cX11_at 5 = .ok (.aload_n 0, 1) := by decide +kernel
theorem dX11_at_6 : decode cX11_at 6 = .ok (.iload_n 1, 1) := by decide +kernel
theorem dX11_at_7 : decode cX11_at 7 = .ok (.invokevirtual 326, 3) := by decide +kernel
theorem dX11_at_10 : decode cX11_at 10 = .ok (.ifCond .eq 19, 3) := by decide +kernel
theorem dX11_at_13 : decode cX11_at 13 = .ok (.aload_n 0, 1) := by decide +kernel
theorem dX11_at_14 : decode cX11_at 14 = .ok (.iload_n 1, 1) := by decide +kernel
theorem dX11_at_15 : decode cX11_at 15 = .ok (.invokevirtual 335, 3) := by decide +kernel
theorem dX11_at_18 : decode cX11_at 18 = .ok (.ifCond .eq 7, 3) := by decide +kernel
theorem dX11_at_21 : decode cX11_at 21 = .ok (.iconst 1, 1) := by decide +kernel
theorem dX11_at_22 : decode cX11_at 22 = .ok (.goto 8, 3) := by decide +kernel
theorem dX11_at_25 : decode cX11_at 25 = .ok (.iconst 0, 1) := by decide +kernel
theorem dX11_at_26 : decode cX11_at 26 = .ok (.goto 4, 3) := by decide +kernel
theorem dX11_at_29 : decode cX11_at 29 = .ok (.iconst (-1), 1) := by decide +kernel
theorem dX11_at_30 : decode cX11_at 30 = .ok (.ireturn, 1) := by decide +kernel
theorem dX11_book_0 : decode cX11_book 0 = .ok (.aload_n 0, 1) := by decide +kernel
theorem dX11_book_1 : decode cX11_book 1 = .ok (.iconst 0, 1) := by decide +kernel
theorem dX11_book_2 : decode cX11_book 2 = .ok (.putfield 86, 3) := by decide +kernel
theorem dX11_book_5 : decode cX11_book 5 = .ok (.aload_n 0, 1) := by decide +kernel
theorem dX11_book_6 : decode cX11_book 6 = .ok (.iload_n 1, 1) := by decide +kernel
theorem dX11_book_7 : decode cX11_book 7 = .ok (.iconst 0, 1) := by decide +kernel
theorem dX11_book_8 : decode cX11_book 8 = .ok (.aload_n 0, 1) := by decide +kernel
theorem dX11_book_9 : decode cX11_book 9 = .ok (.getfield 7, 3) := by decide +kernel
theorem dX11_book_12 : decode cX11_book 12 = .ok (.iconst 2, 1) := by decide +kernel
theorem dX11_book_13 : decode cX11_book 13 = .ok (.iaload, 1) := by decide +kernel
theorem dX11_book_14 : decode cX11_book 14 = .ok (.iconst 1, 1) := by decide +kernel
theorem dX11_book_15 : decode cX11_book 15 = .ok (.isub, 1) := by decide +kernel
theorem dX11_book_16 : decode cX11_book 16 = .ok (.invokevirtual 126, 3) := by decide +kernel
theorem dX11_book_19 : decode cX11_book 19 = .ok (.ifCond .eq 26, 3) := by decide +kernel
theorem dX11_book_22 : decode cX11_book 22 = .ok (.aload_n 0, 1) := by decide +kernel
theorem dX11_book_23 : decode cX11_book 23 = .ok (.iload_n 2, 1) := by decide +kernel
theorem dX11_book_24 : decode cX11_book 24 = .ok (.iconst 0, 1) := by decide +kernel
theorem dX11_book_25 : decode cX11_book 25 = .ok (.iconst 3, 1) := by decide +kernel
theorem dX11_book_26 : decode cX11_book 26 = .ok (.invokevirtual 126, 3) := by decide +kernel
theorem dX11_book_29 : decode cX11_book 29 = .ok (.ifCond .eq 16, 3) := by decide +kernel
theorem dX11_book_32 : decode cX11_book 32 = .ok (.aload_n 0, 1) := by decide +kernel
theorem dX11_book_33 : decode cX11_book 33 = .ok (.getfield 19, 3) := by decide +kernel
theorem dX11_book_36 : decode cX11_book 36 = .ok (.iconst 4, 1) := by decide +kernel
theorem dX11_book_37 : decode cX11_book 37 = .ok (.iload_n 1, 1) := by decide +kernel
theorem dX11_book_38 : decode cX11_book 38 = .ok (.imul, 1) := by decide +kernel
theorem dX11_book_39 : decode cX11_book 39 = .ok (.iload_n 2, 1) := by decide +kernel
theorem dX11_book_40 : decode cX11_book 40 = .ok (.iadd, 1) := by decide +kernel
theorem dX11_book_41 : decode cX11_book 41 = .ok (.iaload, 1) := by decide +kernel
theorem dX11_book_42 : decode cX11_book 42 = .ok (.goto 4, 3) := by decide +kernel
theorem dX11_book_45 : decode cX11_book 45 = .ok (.iconst (-1), 1) := by decide +kernel
theorem dX11_book_46 : decode cX11_book 46 = .ok (.ireturn, 1) := by decide +kernel
theorem dX11_goes_0 : decode cX11_goes 0 = .ok (.aload_n 0, 1) := by decide +kernel
theorem dX11_goes_1 : decode cX11_goes 1 = .ok (.iconst 0, 1) := by decide +kernel
theorem dX11_goes_2 : decode cX11_goes 2 = .ok (.putfield 86, 3) := by decide +kernel
theorem dX11_goes_5 : decode cX11_goes 5 = .ok (.aload_n 0, 1) := by decide +kernel
theorem dX11_goes_6 : decode cX11_goes 6 = .ok (.iload_n 1, 1) := by decide +kernel
theorem dX11_goes_7 : decode cX11_goes 7 = .ok (.iconst 1, 1) := by decide +kernel
theorem dX11_goes_8 : decode cX11_goes 8 = .ok (.bipush 60, 2) := by decide +kernel
theorem dX11_goes_10 : decode cX11_goes 10 = .ok (.invokevirtual 126, 3) := by decide +kernel
theorem dX11_goes_13 : decode cX11_goes 13 = .ok (.ifCond .eq 26, 3) := by decide +kernel
theorem dX11_goes_16 : decode cX11_goes 16 = .ok (.aload_n 0, 1) := by decide +kernel
theorem dX11_goes_17 : decode cX11_goes 17 = .ok (.iload_n 3, 1) := by decide +kernel
theorem dX11_goes_18 : decode cX11_goes 18 = .ok (.iconst 0, 1) := by decide +kernel
theorem dX11_goes_19 : decode cX11_goes 19 = .ok (.iconst 3, 1) := by decide +kernel
theorem dX11_goes_20 : decode cX11_goes 20 = .ok (.invokevirtual 126, 3) := by decide +kernel
theorem dX11_goes_23 : decode cX11_goes 23 = .ok (.ifCond .eq 16, 3) := by decide +kernel
theorem dX11_goes_26 : decode cX11_goes 26 = .ok (.iload_n 3, 1) := by decide +kernel
theorem dX11_goes_27 : decode cX11_goes 27 = .ok (.iconst 2, 1) := by decide +kernel
theorem dX11_goes_28 : decode cX11_goes 28 = .ok (.if_icmp .ge 14, 3) := by decide +kernel
theorem dX11_goes_31 : decode cX11_goes 31 = .ok (.aload_n 0, 1) := by decide +kernel
theorem dX11_goes_32 : decode cX11_goes 32 = .ok (.iload_n 2, 1) := by decide +kernel
theorem dX11_goes_33 : decode cX11_goes 33 = .ok (.invokevirtual 134, 3) := by decide +kernel
theorem dX11_goes_36 : decode cX11_goes 36 = .ok (.ifCond .ne 6, 3) := by decide +kernel
theorem dX11_goes_39 : decode cX11_goes 39 = .ok (.bipush (-2), 2) := by decide +kernel
theorem dX11_goes_41 : decode cX11_goes 41 = .ok (.ireturn, 1) := by decide +kernel
theorem dX11_goes_42 : decode cX11_goes 42 = .ok (.aload_n 0, 1) := by decide +kernel
theorem dX11_goes_43 : decode cX11_goes 43 = .ok (.invokevirtual 411, 3) := by decide +kernel
theorem dX11_goes_46 : decode cX11_goes 46 = .ok (.aload_n 0, 1) := by decide +kernel
theorem dX11_goes_47 : decode cX11_goes 47 = .ok (.iload_n 1, 1) := by decide +kernel
theorem dX11_goes_48 : decode cX11_goes 48 = .ok (.invokevirtual 414, 3) := by decide +kernel
theorem dX11_goes_51 : decode cX11_goes 51 = .ok (.iload_n 3, 1) := by decide +kernel
theorem dX11_goes_52 : decode cX11_goes 52 = .ok (.ifCond .ne 15, 3) := by decide +kernel
theorem dX11_goes_55 : decode cX11_goes 55 = .ok (.aload_n 0, 1) := by decide +kernel
theorem dX11_goes_56 : decode cX11_goes 56 = .ok (.getfield 7, 3) := by decide +kernel
theorem dX11_goes_59 : decode cX11_goes 59 = .ok (.bipush 10, 2) := by decide +kernel
theorem dX11_goes_61 : decode cX11_goes 61 = .ok (.iload_n 2, 1) := by decide +kernel
theorem dX11_goes_62 : decode cX11_goes 62 = .ok (.iadd, 1) := by decide +kernel
theorem dX11_goes_63 : decode cX11_goes 63 = .ok (.iaload, 1) := by decide +kernel
theorem dX11_goes_64 : decode cX11_goes 64 = .ok (.goto 35, 3) := by decide +kernel
theorem dX11_goes_67 : decode cX11_goes 67 = .ok (.iload_n 3, 1) := by decide +kernel
theorem dX11_goes_68 : decode cX11_goes 68 = .ok (.iconst 1, 1) := by decide +kernel
theorem dX11_goes_69 : decode cX11_goes 69 = .ok (.if_icmp .ne 14, 3) := by decide +kernel
theorem dX11_goes_72 : decode cX11_goes 72 = .ok (.aload_n 0, 1) := by decide +kernel
theorem dX11_goes_73 : decode cX11_goes 73 = .ok (.getfield 7, 3) := by decide +kernel
theorem dX11_goes_76 : decode cX11_goes 76 = .ok (.iconst 5, 1) := by decide +kernel
theorem dX11_goes_77 : decode cX11_goes 77 = .ok (.iload_n 2, 1) := by decide +kernel
theorem dX11_goes_78 : decode cX11_goes 78 = .ok (.iadd, 1) := by decide +kernel
theorem dX11_goes_79 : decode cX11_goes 79 = .ok (.iaload, 1) := by decide +kernel
theorem dX11_goes_80 : decode cX11_goes 80 = .ok (.goto 19, 3) := by decide +kernel
theorem dX11_goes_83 : decode cX11_goes 83 = .ok (.iload_n 3, 1) := by decide +kernel
theorem dX11_goes_84 : decode cX11_goes 84 = .ok (.iconst 2, 1) := by decide +kernel
theorem dX11_goes_85 : decode cX11_goes 85 = .ok (.if_icmp .ne 10, 3) := by decide +kernel
theorem dX11_goes_88 : decode cX11_goes 88 = .ok (.aload_n 0, 1) := by decide +kernel
theorem dX11_goes_89 : decode cX11_goes 89 = .ok (.getfield 99, 3) := by decide +kernel
theorem dX11_goes_92 : decode cX11_goes 92 = .ok (.goto 7, 3) := by decide +kernel
theorem dX11_goes_95 : decode cX11_goes 95 = .ok (.aload_n 0, 1) := by decide +kernel
theorem dX11_goes_96 : decode cX11_goes 96 = .ok (.getfield 102, 3) := by decide +kernel
theorem dX11_goes_99 : decode cX11_goes 99 = .ok (.istore 4, 2) := by decide +kernel
theorem dX11_goes_101 : decode cX11_goes 101 = .ok (.aload_n 0, 1) := by decide +kernel
theorem dX11_goes_102 : decode cX11_goes 102 = .ok (.invokevirtual 417, 3) := by decide +kernel
theorem dX11_goes_105 : decode cX11_goes 105 = .ok (.iload 4, 2) := by decide +kernel
theorem dX11_goes_107 : decode cX11_goes 107 = .ok (.ireturn, 1) := by decide +kernel
theorem dX11_falls_0 : decode cX11_falls 0 = .ok (.aload_n 0, 1) := by decide +kernel
theorem dX11_falls_1 : decode cX11_falls 1 = .ok (.iconst 0, 1) := by decide +kernel
theorem dX11_falls_2 : decode cX11_falls 2 = .ok (.putfield 86, 3) := by decide +kernel
theorem dX11_falls_5 : decode cX11_falls 5 = .ok (.aload_n 0, 1) := by decide +kernel
theorem dX11_falls_6 : decode cX11_falls 6 = .ok (.iload_n 1, 1) := by decide +kernel
theorem dX11_falls_7 : decode cX11_falls 7 = .ok (.invokevirtual 134, 3) := by decide +kernel
theorem dX11_falls_10 : decode cX11_falls 10 = .ok (.ifCond .ne 5, 3) := by decide +kernel
theorem dX11_falls_13 : decode cX11_falls 13 = .ok (.iconst (-1), 1) := by decide +kernel
theorem dX11_falls_14 : decode cX11_falls 14 = .ok (.ireturn, 1) := by decide +kernel
theorem dX11_falls_15 : decode cX11_falls 15 = .ok (.aload_n 0, 1) := by decide +kernel
theorem dX11_falls_16 : decode cX11_falls 16 = .ok (.invokevirtual 381, 3) := by decide +kernel
theorem dX11_falls_19 : decode cX11_falls 19 = .ok (.aload_n 0, 1) := by decide +kernel
theorem dX11_falls_20 : decode cX11_falls 20 = .ok (.getfield 68, 3) := by decide +kernel
theorem dX11_falls_23 : decode cX11_falls 23 = .ok (.iload_n 1, 1) := by decide +kernel
theorem dX11_falls_24 : decode cX11_falls 24 = .ok (.iaload, 1) := by decide +kernel
theorem dX11_falls_25 : decode cX11_falls 25 = .ok (.ireturn, 1) := by decide +kernel
theorem dX11_brings_0 : decode cX11_brings 0 = .ok (.aload_n 0, 1) := by decide +kernel
theorem dX11_brings_1 : decode cX11_brings 1 = .ok (.iconst 0, 1) := by decide +kernel
theorem dX11_brings_2 : decode cX11_brings 2 = .ok (.putfield 86, 3) := by decide +kernel
theorem dX11_brings_5 : decode cX11_brings 5 = .ok (.aload_n 0, 1) := by decide +kernel
theorem dX11_brings_6 : decode cX11_brings 6 = .ok (.iload_n 1, 1) := by decide +kernel
theorem dX11_brings_7 : decode cX11_brings 7 = .ok (.invokevirtual 134, 3) := by decide +kernel
theorem dX11_brings_10 : decode cX11_brings 10 = .ok (.ifCond .eq 35, 3) := by decide +kernel
theorem dX11_brings_13 : decode cX11_brings 13 = .ok (.aload_n 0, 1) := by decide +kernel
theorem dX11_brings_14 : decode cX11_brings 14 = .ok (.iload_n 2, 1) := by decide +kernel
theorem dX11_brings_15 : decode cX11_brings 15 = .ok (.iconst 1, 1) := by decide +kernel
theorem dX11_brings_16 : decode cX11_brings 16 = .ok (.bipush 20, 2) := by decide +kernel
theorem dX11_brings_18 : decode cX11_brings 18 = .ok (.invokevirtual 126, 3) := by decide +kernel
theorem dX11_brings_21 : decode cX11_brings 21 = .ok (.ifCond .eq 24, 3) := by decide +kernel
theorem dX11_brings_24 : decode cX11_brings 24 = .ok (.aload_n 0, 1) := by decide +kernel
theorem dX11_brings_25 : decode cX11_brings 25 = .ok (.iload_n 3, 1) := by decide +kernel
theorem dX11_brings_26 : decode cX11_brings 26 = .ok (.iconst 0, 1) := by decide +kernel
theorem dX11_brings_27 : decode cX11_brings 27 = .ok (.iconst 1, 1) := by decide +kernel
theorem dX11_brings_28 : decode cX11_brings 28 = .ok (.invokevirtual 126, 3) := by decide +kernel
theorem dX11_brings_31 : decode cX11_brings 31 = .ok (.ifCond .eq 14, 3) := by decide +kernel
theorem dX11_brings_34 : decode cX11_brings 34 = .ok (.aload_n 0, 1) := by decide +kernel
theorem dX11_brings_35 : decode cX11_brings 35 = .ok (.getfield 7, 3) := by decide +kernel
theorem dX11_brings_38 : decode cX11_brings 38 = .ok (.iconst 4, 1) := by decide +kernel
theorem dX11_brings_39 : decode cX11_brings 39 = .ok (.iaload, 1) := by decide +kernel
theorem dX11_brings_40 : decode cX11_brings 40 = .ok (.bipush 14, 2) := by decide +kernel
theorem dX11_brings_42 : decode cX11_brings 42 = .ok (.if_icmp .ne 5, 3) := by decide +kernel
theorem dX11_brings_45 : decode cX11_brings 45 = .ok (.iconst (-1), 1) := by decide +kernel
theorem dX11_brings_46 : decode cX11_brings 46 = .ok (.ireturn, 1) := by decide +kernel
theorem dX11_brings_47 : decode cX11_brings 47 = .ok (.iconst (-1), 1) := by decide +kernel
theorem dX11_brings_48 : decode cX11_brings 48 = .ok (.istore 4, 2) := by decide +kernel
theorem dX11_brings_50 : decode cX11_brings 50 = .ok (.iconst (-1), 1) := by decide +kernel
theorem dX11_brings_51 : decode cX11_brings 51 = .ok (.istore 5, 2) := by decide +kernel
theorem dX11_brings_53 : decode cX11_brings 53 = .ok (.aload_n 0, 1) := by decide +kernel
theorem dX11_brings_54 : decode cX11_brings 54 = .ok (.invokevirtual 411, 3) := by decide +kernel
theorem dX11_brings_57 : decode cX11_brings 57 = .ok (.aload_n 0, 1) := by decide +kernel
theorem dX11_brings_58 : decode cX11_brings 58 = .ok (.iload_n 1, 1) := by decide +kernel
theorem dX11_brings_59 : decode cX11_brings 59 = .ok (.putfield 345, 3) := by decide +kernel
theorem dX11_brings_62 : decode cX11_brings 62 = .ok (.iconst 0, 1) := by decide +kernel
theorem dX11_brings_63 : decode cX11_brings 63 = .ok (.istore 6, 2) := by decide +kernel
theorem dX11_brings_65 : decode cX11_brings 65 = .ok (.iload 6, 2) := by decide +kernel
theorem dX11_brings_67 : decode cX11_brings 67 = .ok (.bipush 10, 2) := by decide +kernel
theorem dX11_brings_69 : decode cX11_brings 69 = .ok (.if_icmp .ge 63, 3) := by decide +kernel
theorem dX11_brings_72 : decode cX11_brings 72 = .ok (.aload_n 0, 1) := by decide +kernel
theorem dX11_brings_73 : decode cX11_brings 73 = .ok (.invokevirtual 105, 3) := by decide +kernel
theorem dX11_brings_76 : decode cX11_brings 76 = .ok (.aload_n 0, 1) := by decide +kernel
theorem dX11_brings_77 : decode cX11_brings 77 = .ok (.iconst 0, 1) := by decide +kernel
theorem dX11_brings_78 : decode cX11_brings 78 = .ok (.putfield 96, 3) := by decide +kernel
theorem dX11_brings_81 : decode cX11_brings 81 = .ok (.aload_n 0, 1) := by decide +kernel
theorem dX11_brings_82 : decode cX11_brings 82 = .ok (.iload_n 1, 1) := by decide +kernel
theorem dX11_brings_83 : decode cX11_brings 83 = .ok (.iload 6, 2) := by decide +kernel
theorem dX11_brings_85 : decode cX11_brings 85 = .ok (.bipush 10, 2) := by decide +kernel
theorem dX11_brings_87 : decode cX11_brings 87 = .ok (.invokevirtual 332, 3) := by decide +kernel
theorem dX11_brings_90 : decode cX11_brings 90 = .ok (.pop, 1) := by decide +kernel
theorem dX11_brings_91 : decode cX11_brings 91 = .ok (.aload_n 0, 1) := by decide +kernel
theorem dX11_brings_92 : decode cX11_brings 92 = .ok (.iload_n 2, 1) := by decide +kernel
theorem dX11_brings_93 : decode cX11_brings 93 = .ok (.invokevirtual 414, 3) := by decide +kernel
theorem dX11_brings_96 : decode cX11_brings 96 = .ok (.aload_n 0, 1) := by decide +kernel
theorem dX11_brings_97 : decode cX11_brings 97 = .ok (.getfield 96, 3) := by decide +kernel
theorem dX11_brings_100 : decode cX11_brings 100 = .ok (.iload 5, 2) := by decide +kernel
theorem dX11_brings_102 : decode cX11_brings 102 = .ok (.if_icmp .le 8, 3) := by decide +kernel
theorem dX11_brings_105 : decode cX11_brings 105 = .ok (.iload 6, 2) := by decide +kernel
theorem dX11_brings_107 : decode cX11_brings 107 = .ok (.goto 5, 3) := by decide +kernel
theorem dX11_brings_110 : decode cX11_brings 110 = .ok (.iload 4, 2) := by decide +kernel
theorem dX11_brings_112 : decode cX11_brings 112 = .ok (.istore 4, 2) := by decide +kernel
theorem dX11_brings_114 : decode cX11_brings 114 = .ok (.aload_n 0, 1) := by decide +kernel
theorem dX11_brings_115 : decode cX11_brings 115 = .ok (.iload 5, 2) := by decide +kernel
theorem dX11_brings_117 : decode cX11_brings 117 = .ok (.aload_n 0, 1) := by decide +kernel
theorem dX11_brings_118 : decode cX11_brings 118 = .ok (.getfield 96, 3) := by decide +kernel
theorem dX11_brings_121 : decode cX11_brings 121 = .ok (.invokevirtual 420, 3) := by decide +kernel
theorem dX11_brings_124 : decode cX11_brings 124 = .ok (.istore 5, 2) := by decide +kernel
theorem dX11_brings_126 : decode cX11_brings 126 = .ok (.iinc 6 1, 3) := by decide +kernel
theorem dX11_brings_129 : decode cX11_brings 129 = .ok (.goto (-64), 3) := by decide +kernel
theorem dX11_brings_132 : decode cX11_brings 132 = .ok (.aload_n 0, 1) := by decide +kernel
theorem dX11_brings_133 : decode cX11_brings 133 = .ok (.invokevirtual 417, 3) := by decide +kernel
theorem dX11_brings_136 : decode cX11_brings 136 = .ok (.iload_n 3, 1) := by decide +kernel
theorem dX11_brings_137 : decode cX11_brings 137 = .ok (.ifCond .ne 8, 3) := by decide +kernel
theorem dX11_brings_140 : decode cX11_brings 140 = .ok (.iload 4, 2) := by decide +kernel
theorem dX11_brings_142 : decode cX11_brings 142 = .ok (.goto 5, 3) := by decide +kernel
theorem dX11_brings_145 : decode cX11_brings 145 = .ok (.iload 5, 2) := by decide +kernel
theorem dX11_brings_147 : decode cX11_brings 147 = .ok (.ireturn, 1) := by decide +kernel
theorem dX11_strongestBehind_0 : decode cX11_strongestBehind 0 = .ok (.aload_n 0, 1) := by decide +kernel
theorem dX11_strongestBehind_1 : decode cX11_strongestBehind 1 = .ok (.invokevirtual 105, 3) := by decide +kernel
theorem dX11_strongestBehind_4 : decode cX11_strongestBehind 4 = .ok (.aload_n 0, 1) := by decide +kernel
theorem dX11_strongestBehind_5 : decode cX11_strongestBehind 5 = .ok (.getfield 7, 3) := by decide +kernel
theorem dX11_strongestBehind_8 : decode cX11_strongestBehind 8 = .ok (.bipush 62, 2) := by decide +kernel
theorem dX11_strongestBehind_10 : decode cX11_strongestBehind 10 = .ok (.iload_n 1, 1) := by decide +kernel
theorem dX11_strongestBehind_11 : decode cX11_strongestBehind 11 = .ok (.iadd, 1) := by decide +kernel
theorem dX11_strongestBehind_12 : decode cX11_strongestBehind 12 = .ok (.aload_n 0, 1) := by decide +kernel
theorem dX11_strongestBehind_13 : decode cX11_strongestBehind 13 = .ok (.getfield 7, 3) := by decide +kernel
theorem dX11_strongestBehind_16 : decode cX11_strongestBehind 16 = .ok (.bipush 62, 2) := by decide +kernel
theorem dX11_strongestBehind_18 : decode cX11_strongestBehind 18 = .ok (.iload_n 1, 1) := by decide +kernel
theorem dX11_strongestBehind_19 : decode cX11_strongestBehind 19 = .ok (.iadd, 1) := by decide +kernel
theorem dX11_strongestBehind_20 : decode cX11_strongestBehind 20 = .ok (.iaload, 1) := by decide +kernel
theorem dX11_strongestBehind_21 : decode cX11_strongestBehind 21 = .ok (.iload_n 2, 1) := by decide +kernel
theorem dX11_strongestBehind_22 : decode cX11_strongestBehind 22 = .ok (.isub, 1) := by decide +kernel
theorem dX11_strongestBehind_23 : decode cX11_strongestBehind 23 = .ok (.iastore, 1) := by decide +kernel
theorem dX11_strongestBehind_24 : decode cX11_strongestBehind 24 = .ok (.aload_n 0, 1) := by decide +kernel
theorem dX11_strongestBehind_25 : decode cX11_strongestBehind 25 = .ok (.iload_n 3, 1) := by decide +kernel
theorem dX11_strongestBehind_26 : decode cX11_strongestBehind 26 = .ok (.invokevirtual 414, 3) := by decide +kernel
theorem dX11_strongestBehind_29 : decode cX11_strongestBehind 29 = .ok (.aload_n 0, 1) := by decide +kernel
theorem dX11_strongestBehind_30 : decode cX11_strongestBehind 30 = .ok (.invokevirtual 384, 3) := by decide +kernel
theorem dX11_strongestBehind_33 : decode cX11_strongestBehind 33 = .ok (.ireturn, 1) := by decide +kernel
theorem dX11_swings_0 : decode cX11_swings 0 = .ok (.aload_n 0, 1) := by decide +kernel
theorem dX11_swings_1 : decode cX11_swings 1 = .ok (.iconst 0, 1) := by decide +kernel
theorem dX11_swings_2 : decode cX11_swings 2 = .ok (.putfield 86, 3) := by decide +kernel
theorem dX11_swings_5 : decode cX11_swings 5 = .ok (.aload_n 0, 1) := by decide +kernel
theorem dX11_swings_6 : decode cX11_swings 6 = .ok (.iload_n 1, 1) := by decide +kernel
theorem dX11_swings_7 : decode cX11_swings 7 = .ok (.invokevirtual 141, 3) := by decide +kernel
theorem dX11_swings_10 : decode cX11_swings 10 = .ok (.ifCond .eq 14, 3) := by decide +kernel
theorem dX11_swings_13 : decode cX11_swings 13 = .ok (.aload_n 0, 1) := by decide +kernel
theorem dX11_swings_14 : decode cX11_swings 14 = .ok (.iload_n 2, 1) := by decide +kernel
theorem dX11_swings_15 : decode cX11_swings 15 = .ok (.iconst 1, 1) := by decide +kernel
theorem dX11_swings_16 : decode cX11_swings 16 = .ok (.bipush 20, 2) := by decide +kernel
theorem dX11_swings_18 : decode cX11_swings 18 = .ok (.invokevirtual 126, 3) := by decide +kernel
theorem dX11_swings_21 : decode cX11_swings 21 = .ok (.ifCond .ne 5, 3) := by decide +kernel
theorem dX11_swings_24 : decode cX11_swings 24 = .ok (.iconst (-1), 1) := by decide +kernel
theorem dX11_swings_25 : decode cX11_swings 25 = .ok (.ireturn, 1) := by decide +kernel
theorem dX11_swings_26 : decode cX11_swings 26 = .ok (.aload_n 0, 1) := by decide +kernel
theorem dX11_swings_27 : decode cX11_swings 27 = .ok (.getfield 7, 3) := by decide +kernel
theorem dX11_swings_30 : decode cX11_swings 30 = .ok (.bipush 62, 2) := by decide +kernel
theorem dX11_swings_32 : decode cX11_swings 32 = .ok (.iload_n 1, 1) := by decide +kernel
theorem dX11_swings_33 : decode cX11_swings 33 = .ok (.iadd, 1) := by decide +kernel
theorem dX11_swings_34 : decode cX11_swings 34 = .ok (.iaload, 1) := by decide +kernel
theorem dX11_swings_35 : decode cX11_swings 35 = .ok (.istore_n 3, 1) := by decide +kernel
theorem dX11_swings_36 : decode cX11_swings 36 = .ok (.iconst (-1), 1) := by decide +kernel
theorem dX11_swings_37 : decode cX11_swings 37 = .ok (.istore 4, 2) := by decide +kernel
theorem dX11_swings_39 : decode cX11_swings 39 = .ok (.aload_n 0, 1) := by decide +kernel
theorem dX11_swings_40 : decode cX11_swings 40 = .ok (.invokevirtual 411, 3) := by decide +kernel
theorem dX11_swings_43 : decode cX11_swings 43 = .ok (.aload_n 0, 1) := by decide +kernel
theorem dX11_swings_44 : decode cX11_swings 44 = .ok (.iload_n 1, 1) := by decide +kernel
theorem dX11_swings_45 : decode cX11_swings 45 = .ok (.iconst 0, 1) := by decide +kernel
theorem dX11_swings_46 : decode cX11_swings 46 = .ok (.iload_n 2, 1) := by decide +kernel
theorem dX11_swings_47 : decode cX11_swings 47 = .ok (.invokevirtual 423, 3) := by decide +kernel
theorem dX11_swings_50 : decode cX11_swings 50 = .ok (.istore 5, 2) := by decide +kernel
theorem dX11_swings_52 : decode cX11_swings 52 = .ok (.iconst 1, 1) := by decide +kernel
theorem dX11_swings_53 : decode cX11_swings 53 = .ok (.istore 6, 2) := by decide +kernel
theorem dX11_swings_55 : decode cX11_swings 55 = .ok (.iload 6, 2) := by decide +kernel
theorem dX11_swings_57 : decode cX11_swings 57 = .ok (.iload_n 3, 1) := by decide +kernel
theorem dX11_swings_58 : decode cX11_swings 58 = .ok (.if_icmp .gt 32, 3) := by decide +kernel
theorem dX11_swings_61 : decode cX11_swings 61 = .ok (.iload 4, 2) := by decide +kernel
theorem dX11_swings_63 : decode cX11_swings 63 = .ok (.iconst (-1), 1) := by decide +kernel
theorem dX11_swings_64 : decode cX11_swings 64 = .ok (.if_icmp .ne 26, 3) := by decide +kernel
theorem dX11_swings_67 : decode cX11_swings 67 = .ok (.aload_n 0, 1) := by decide +kernel
theorem dX11_swings_68 : decode cX11_swings 68 = .ok (.iload_n 1, 1) := by decide +kernel
theorem dX11_swings_69 : decode cX11_swings 69 = .ok (.iload 6, 2) := by decide +kernel
theorem dX11_swings_71 : decode cX11_swings 71 = .ok (.iload_n 2, 1) := by decide +kernel
theorem dX11_swings_72 : decode cX11_swings 72 = .ok (.invokevirtual 423, 3) := by decide +kernel
theorem dX11_swings_75 : decode cX11_swings 75 = .ok (.iload 5, 2) := by decide +kernel
theorem dX11_swings_77 : decode cX11_swings 77 = .ok (.if_icmp .eq 7, 3) := by decide +kernel
theorem dX11_swings_80 : decode cX11_swings 80 = .ok (.iload 6, 2) := by decide +kernel
theorem dX11_swings_82 : decode cX11_swings 82 = .ok (.istore 4, 2) := by decide +kernel
theorem dX11_swings_84 : decode cX11_swings 84 = .ok (.iinc 6 1, 3) := by decide +kernel
theorem dX11_swings_87 : decode cX11_swings 87 = .ok (.goto (-32), 3) := by decide +kernel
theorem dX11_swings_90 : decode cX11_swings 90 = .ok (.aload_n 0, 1) := by decide +kernel
theorem dX11_swings_91 : decode cX11_swings 91 = .ok (.invokevirtual 417, 3) := by decide +kernel
theorem dX11_swings_94 : decode cX11_swings 94 = .ok (.iload 4, 2) := by decide +kernel
theorem dX11_swings_96 : decode cX11_swings 96 = .ok (.ireturn, 1) := by decide +kernel
theorem dX11_placesOf_0 : decode cX11_placesOf 0 = .ok (.iconst 0, 1) := by decide +kernel
theorem dX11_placesOf_1 : decode cX11_placesOf 1 = .ok (.istore_n 2, 1) := by decide +kernel
theorem dX11_placesOf_2 : decode cX11_placesOf 2 = .ok (.iconst 1, 1) := by decide +kernel
theorem dX11_placesOf_3 : decode cX11_placesOf 3 = .ok (.istore_n 3, 1) := by decide +kernel
theorem dX11_placesOf_4 : decode cX11_placesOf 4 = .ok (.iload_n 3, 1) := by decide +kernel
theorem dX11_placesOf_5 : decode cX11_placesOf 5 = .ok (.aload_n 0, 1) := by decide +kernel
theorem dX11_placesOf_6 : decode cX11_placesOf 6 = .ok (.getfield 56, 3) := by decide +kernel
theorem dX11_placesOf_9 : decode cX11_placesOf 9 = .ok (.bipush 9, 2) := by decide +kernel
theorem dX11_placesOf_11 : decode cX11_placesOf 11 = .ok (.iload_n 1, 1) := by decide +kernel
theorem dX11_placesOf_12 : decode cX11_placesOf 12 = .ok (.imul, 1) := by decide +kernel
theorem dX11_placesOf_13 : decode cX11_placesOf 13 = .ok (.iaload, 1) := by decide +kernel
theorem dX11_placesOf_14 : decode cX11_placesOf 14 = .ok (.if_icmp .gt 25, 3) := by decide +kernel
theorem dX11_placesOf_17 : decode cX11_placesOf 17 = .ok (.iload_n 2, 1) := by decide +kernel
theorem dX11_placesOf_18 : decode cX11_placesOf 18 = .ok (.iconst 1, 1) := by decide +kernel
theorem dX11_placesOf_19 : decode cX11_placesOf 19 = .ok (.aload_n 0, 1) := by decide +kernel
theorem dX11_placesOf_20 : decode cX11_placesOf 20 = .ok (.getfield 56, 3) := by decide +kernel
theorem dX11_placesOf_23 : decode cX11_placesOf 23 = .ok (.bipush 9, 2) := by decide +kernel
theorem dX11_placesOf_25 : decode cX11_placesOf 25 = .ok (.iload_n 1, 1) := by decide +kernel
theorem dX11_placesOf_26 : decode cX11_placesOf 26 = .ok (.imul, 1) := by decide +kernel
theorem dX11_placesOf_27 : decode cX11_placesOf 27 = .ok (.iload_n 3, 1) := by decide +kernel
theorem dX11_placesOf_28 : decode cX11_placesOf 28 = .ok (.iadd, 1) := by decide +kernel
theorem dX11_placesOf_29 : decode cX11_placesOf 29 = .ok (.iaload, 1) := by decide +kernel
theorem dX11_placesOf_30 : decode cX11_placesOf 30 = .ok (.ishl, 1) := by decide +kernel
theorem dX11_placesOf_31 : decode cX11_placesOf 31 = .ok (.ior, 1) := by decide +kernel
theorem dX11_placesOf_32 : decode cX11_placesOf 32 = .ok (.istore_n 2, 1) := by decide +kernel
theorem dX11_placesOf_33 : decode cX11_placesOf 33 = .ok (.iinc 3 1, 3) := by decide +kernel
theorem dX11_placesOf_36 : decode cX11_placesOf 36 = .ok (.goto (-32), 3) := by decide +kernel
theorem dX11_placesOf_39 : decode cX11_placesOf 39 = .ok (.iload_n 2, 1) := by decide +kernel
theorem dX11_placesOf_40 : decode cX11_placesOf 40 = .ok (.ireturn, 1) := by decide +kernel
theorem dX11_feedsAll_0 : decode cX11_feedsAll 0 = .ok (.iconst 0, 1) := by decide +kernel
theorem dX11_feedsAll_1 : decode cX11_feedsAll 1 = .ok (.istore_n 2, 1) := by decide +kernel
theorem dX11_feedsAll_2 : decode cX11_feedsAll 2 = .ok (.iload_n 2, 1) := by decide +kernel
theorem dX11_feedsAll_3 : decode cX11_feedsAll 3 = .ok (.aload_n 0, 1) := by decide +kernel
theorem dX11_feedsAll_4 : decode cX11_feedsAll 4 = .ok (.getfield 119, 3) := by decide +kernel
theorem dX11_feedsAll_7 : decode cX11_feedsAll 7 = .ok (.if_icmp .ge 29, 3) := by decide +kernel
theorem dX11_feedsAll_10 : decode cX11_feedsAll 10 = .ok (.aload_n 0, 1) := by decide +kernel
theorem dX11_feedsAll_11 : decode cX11_feedsAll 11 = .ok (.iload_n 2, 1) := by decide +kernel
theorem dX11_feedsAll_12 : decode cX11_feedsAll 12 = .ok (.invokevirtual 426, 3) := by decide +kernel
theorem dX11_feedsAll_15 : decode cX11_feedsAll 15 = .ok (.ifCond .eq 15, 3) := by decide +kernel
theorem dX11_feedsAll_18 : decode cX11_feedsAll 18 = .ok (.aload_n 0, 1) := by decide +kernel
theorem dX11_feedsAll_19 : decode cX11_feedsAll 19 = .ok (.iload_n 2, 1) := by decide +kernel
theorem dX11_feedsAll_20 : decode cX11_feedsAll 20 = .ok (.invokevirtual 426, 3) := by decide +kernel
theorem dX11_feedsAll_23 : decode cX11_feedsAll 23 = .ok (.iload_n 1, 1) := by decide +kernel
theorem dX11_feedsAll_24 : decode cX11_feedsAll 24 = .ok (.iand, 1) := by decide +kernel
theorem dX11_feedsAll_25 : decode cX11_feedsAll 25 = .ok (.ifCond .ne 5, 3) := by decide +kernel
theorem dX11_feedsAll_28 : decode cX11_feedsAll 28 = .ok (.iconst 0, 1) := by decide +kernel
theorem dX11_feedsAll_29 : decode cX11_feedsAll 29 = .ok (.ireturn, 1) := by decide +kernel
theorem dX11_feedsAll_30 : decode cX11_feedsAll 30 = .ok (.iinc 2 1, 3) := by decide +kernel
theorem dX11_feedsAll_33 : decode cX11_feedsAll 33 = .ok (.goto (-31), 3) := by decide +kernel
theorem dX11_feedsAll_36 : decode cX11_feedsAll 36 = .ok (.iconst 1, 1) := by decide +kernel
theorem dX11_feedsAll_37 : decode cX11_feedsAll 37 = .ok (.ireturn, 1) := by decide +kernel
theorem dX11_feeds_0 : decode cX11_feeds 0 = .ok (.aload_n 0, 1) := by decide +kernel
theorem dX11_feeds_1 : decode cX11_feeds 1 = .ok (.iconst 0, 1) := by decide +kernel
theorem dX11_feeds_2 : decode cX11_feeds 2 = .ok (.putfield 86, 3) := by decide +kernel
theorem dX11_feeds_5 : decode cX11_feeds 5 = .ok (.aload_n 0, 1) := by decide +kernel
theorem dX11_feeds_6 : decode cX11_feeds 6 = .ok (.iload_n 1, 1) := by decide +kernel
theorem dX11_feeds_7 : decode cX11_feeds 7 = .ok (.iconst 0, 1) := by decide +kernel
theorem dX11_feeds_8 : decode cX11_feeds 8 = .ok (.iconst 1, 1) := by decide +kernel
theorem dX11_feeds_9 : decode cX11_feeds 9 = .ok (.invokevirtual 126, 3) := by decide +kernel
theorem dX11_feeds_12 : decode cX11_feeds 12 = .ok (.ifCond .ne 5, 3) := by decide +kernel
theorem dX11_feeds_15 : decode cX11_feeds 15 = .ok (.iconst (-1), 1) := by decide +kernel
theorem dX11_feeds_16 : decode cX11_feeds 16 = .ok (.ireturn, 1) := by decide +kernel
theorem dX11_feeds_17 : decode cX11_feeds 17 = .ok (.iconst (-1), 1) := by decide +kernel
theorem dX11_feeds_18 : decode cX11_feeds 18 = .ok (.istore_n 2, 1) := by decide +kernel
theorem dX11_feeds_19 : decode cX11_feeds 19 = .ok (.iconst 0, 1) := by decide +kernel
theorem dX11_feeds_20 : decode cX11_feeds 20 = .ok (.istore_n 3, 1) := by decide +kernel
theorem dX11_feeds_21 : decode cX11_feeds 21 = .ok (.iload_n 3, 1) := by decide +kernel
theorem dX11_feeds_22 : decode cX11_feeds 22 = .ok (.sipush 1024, 3) := by decide +kernel
theorem dX11_feeds_25 : decode cX11_feeds 25 = .ok (.if_icmp .ge 37, 3) := by decide +kernel
theorem dX11_feeds_28 : decode cX11_feeds 28 = .ok (.iload_n 2, 1) := by decide +kernel
theorem dX11_feeds_29 : decode cX11_feeds 29 = .ok (.iconst (-1), 1) := by decide +kernel
theorem dX11_feeds_30 : decode cX11_feeds 30 = .ok (.if_icmp .eq 16, 3) := by decide +kernel
theorem dX11_feeds_33 : decode cX11_feeds 33 = .ok (.aload_n 0, 1) := by decide +kernel
theorem dX11_feeds_34 : decode cX11_feeds 34 = .ok (.iload_n 3, 1) := by decide +kernel
theorem dX11_feeds_35 : decode cX11_feeds 35 = .ok (.invokevirtual 429, 3) := by decide +kernel
theorem dX11_feeds_38 : decode cX11_feeds 38 = .ok (.aload_n 0, 1) := by decide +kernel
theorem dX11_feeds_39 : decode cX11_feeds 39 = .ok (.iload_n 2, 1) := by decide +kernel
theorem dX11_feeds_40 : decode cX11_feeds 40 = .ok (.invokevirtual 429, 3) := by decide +kernel
theorem dX11_feeds_43 : decode cX11_feeds 43 = .ok (.if_icmp .ge 13, 3) := by decide +kernel
theorem dX11_feeds_46 : decode cX11_feeds 46 = .ok (.aload_n 0, 1) := by decide +kernel
theorem dX11_feeds_47 : decode cX11_feeds 47 = .ok (.iload_n 3, 1) := by decide +kernel
theorem dX11_feeds_48 : decode cX11_feeds 48 = .ok (.invokevirtual 432, 3) := by decide +kernel
theorem dX11_feeds_51 : decode cX11_feeds 51 = .ok (.ifCond .eq 5, 3) := by decide +kernel
theorem dX11_feeds_54 : decode cX11_feeds 54 = .ok (.iload_n 3, 1) := by decide +kernel
theorem dX11_feeds_55 : decode cX11_feeds 55 = .ok (.istore_n 2, 1) := by decide +kernel
theorem dX11_feeds_56 : decode cX11_feeds 56 = .ok (.iinc 3 1, 3) := by decide +kernel
theorem dX11_feeds_59 : decode cX11_feeds 59 = .ok (.goto (-38), 3) := by decide +kernel
theorem dX11_feeds_62 : decode cX11_feeds 62 = .ok (.iload_n 1, 1) := by decide +kernel
theorem dX11_feeds_63 : decode cX11_feeds 63 = .ok (.ifCond .ne 11, 3) := by decide +kernel
theorem dX11_feeds_66 : decode cX11_feeds 66 = .ok (.aload_n 0, 1) := by decide +kernel
theorem dX11_feeds_67 : decode cX11_feeds 67 = .ok (.iload_n 2, 1) := by decide +kernel
theorem dX11_feeds_68 : decode cX11_feeds 68 = .ok (.invokevirtual 429, 3) := by decide +kernel
theorem dX11_feeds_71 : decode cX11_feeds 71 = .ok (.goto 4, 3) := by decide +kernel
theorem dX11_feeds_74 : decode cX11_feeds 74 = .ok (.iload_n 2, 1) := by decide +kernel
theorem dX11_feeds_75 : decode cX11_feeds 75 = .ok (.ireturn, 1) := by decide +kernel
theorem dX11_core_0 : decode cX11_core 0 = .ok (.aload_n 0, 1) := by decide +kernel
theorem dX11_core_1 : decode cX11_core 1 = .ok (.iconst 0, 1) := by decide +kernel
theorem dX11_core_2 : decode cX11_core 2 = .ok (.putfield 86, 3) := by decide +kernel
theorem dX11_core_5 : decode cX11_core 5 = .ok (.iload_n 1, 1) := by decide +kernel
theorem dX11_core_6 : decode cX11_core 6 = .ok (.iconst (-1), 1) := by decide +kernel
theorem dX11_core_7 : decode cX11_core 7 = .ok (.if_icmp .ne 10, 3) := by decide +kernel
theorem dX11_core_10 : decode cX11_core 10 = .ok (.aload_n 0, 1) := by decide +kernel
theorem dX11_core_11 : decode cX11_core 11 = .ok (.iconst 0, 1) := by decide +kernel
theorem dX11_core_12 : decode cX11_core 12 = .ok (.putfield 435, 3) := by decide +kernel
theorem dX11_core_15 : decode cX11_core 15 = .ok (.iconst 0, 1) := by decide +kernel
theorem dX11_core_16 : decode cX11_core 16 = .ok (.ireturn, 1) := by decide +kernel
theorem dX11_core_17 : decode cX11_core 17 = .ok (.aload_n 0, 1) := by decide +kernel
theorem dX11_core_18 : decode cX11_core 18 = .ok (.iload_n 1, 1) := by decide +kernel
theorem dX11_core_19 : decode cX11_core 19 = .ok (.invokevirtual 134, 3) := by decide +kernel
theorem dX11_core_22 : decode cX11_core 22 = .ok (.ifCond .eq 20, 3) := by decide +kernel
theorem dX11_core_25 : decode cX11_core 25 = .ok (.aload_n 0, 1) := by decide +kernel
theorem dX11_core_26 : decode cX11_core 26 = .ok (.iload_n 2, 1) := by decide +kernel
theorem dX11_core_27 : decode cX11_core 27 = .ok (.invokevirtual 326, 3) := by decide +kernel
theorem dX11_core_30 : decode cX11_core 30 = .ok (.ifCond .eq 12, 3) := by decide +kernel
theorem dX11_core_33 : decode cX11_core 33 = .ok (.aload_n 0, 1) := by decide +kernel
theorem dX11_core_34 : decode cX11_core 34 = .ok (.getfield 435, 3) := by decide +kernel
theorem dX11_core_37 : decode cX11_core 37 = .ok (.bipush 8, 2) := by decide +kernel
theorem dX11_core_39 : decode cX11_core 39 = .ok (.if_icmp .ne 5, 3) := by decide +kernel
theorem dX11_core_42 : decode cX11_core 42 = .ok (.iconst (-1), 1) := by decide +kernel
theorem dX11_core_43 : decode cX11_core 43 = .ok (.ireturn, 1) := by decide +kernel
theorem dX11_core_44 : decode cX11_core 44 = .ok (.aload_n 0, 1) := by decide +kernel
theorem dX11_core_45 : decode cX11_core 45 = .ok (.getfield 74, 3) := by decide +kernel
theorem dX11_core_48 : decode cX11_core 48 = .ok (.iconst 2, 1) := by decide +kernel
theorem dX11_core_49 : decode cX11_core 49 = .ok (.aload_n 0, 1) := by decide +kernel
theorem dX11_core_50 : decode cX11_core 50 = .ok (.getfield 435, 3) := by decide +kernel
theorem dX11_core_53 : decode cX11_core 53 = .ok (.imul, 1) := by decide +kernel
theorem dX11_core_54 : decode cX11_core 54 = .ok (.iload_n 1, 1) := by decide +kernel
theorem dX11_core_55 : decode cX11_core 55 = .ok (.iastore, 1) := by decide +kernel
theorem dX11_core_56 : decode cX11_core 56 = .ok (.aload_n 0, 1) := by decide +kernel
theorem dX11_core_57 : decode cX11_core 57 = .ok (.getfield 74, 3) := by decide +kernel
theorem dX11_core_60 : decode cX11_core 60 = .ok (.iconst 2, 1) := by decide +kernel
theorem dX11_core_61 : decode cX11_core 61 = .ok (.aload_n 0, 1) := by decide +kernel
theorem dX11_core_62 : decode cX11_core 62 = .ok (.getfield 435, 3) := by decide +kernel
theorem dX11_core_65 : decode cX11_core 65 = .ok (.imul, 1) := by decide +kernel
theorem dX11_core_66 : decode cX11_core 66 = .ok (.iconst 1, 1) := by decide +kernel
theorem dX11_core_67 : decode cX11_core 67 = .ok (.iadd, 1) := by decide +kernel
theorem dX11_core_68 : decode cX11_core 68 = .ok (.iload_n 2, 1) := by decide +kernel
theorem dX11_core_69 : decode cX11_core 69 = .ok (.iastore, 1) := by decide +kernel
theorem dX11_core_70 : decode cX11_core 70 = .ok (.aload_n 0, 1) := by decide +kernel
theorem dX11_core_71 : decode cX11_core 71 = .ok (.aload_n 0, 1) := by decide +kernel
theorem dX11_core_72 : decode cX11_core 72 = .ok (.getfield 435, 3) := by decide +kernel
theorem dX11_core_75 : decode cX11_core 75 = .ok (.iconst 1, 1) := by decide +kernel
theorem dX11_core_76 : decode cX11_core 76 = .ok (.iadd, 1) := by decide +kernel
theorem dX11_core_77 : decode cX11_core 77 = .ok (.putfield 435, 3) := by decide +kernel
theorem dX11_core_80 : decode cX11_core 80 = .ok (.aload_n 0, 1) := by decide +kernel
theorem dX11_core_81 : decode cX11_core 81 = .ok (.getfield 435, 3) := by decide +kernel
theorem dX11_core_84 : decode cX11_core 84 = .ok (.ireturn, 1) := by decide +kernel
theorem dX11_eatersOfAll_0 : decode cX11_eatersOfAll 0 = .ok (.iconst 0, 1) := by decide +kernel
theorem dX11_eatersOfAll_1 : decode cX11_eatersOfAll 1 = .ok (.istore_n 1, 1) := by decide +kernel
theorem dX11_eatersOfAll_2 : decode cX11_eatersOfAll 2 = .ok (.iconst 0, 1) := by decide +kernel
theorem dX11_eatersOfAll_3 : decode cX11_eatersOfAll 3 = .ok (.istore_n 2, 1) := by decide +kernel
theorem dX11_eatersOfAll_4 : decode cX11_eatersOfAll 4 = .ok (.iload_n 2, 1) := by decide +kernel
theorem dX11_eatersOfAll_5 : decode cX11_eatersOfAll 5 = .ok (.aload_n 0, 1) := by decide +kernel
theorem dX11_eatersOfAll_6 : decode cX11_eatersOfAll 6 = .ok (.getfield 119, 3) := by decide +kernel
theorem dX11_eatersOfAll_9 : decode cX11_eatersOfAll 9 = .ok (.if_icmp .ge 81, 3) := by decide +kernel
theorem dX11_eatersOfAll_12 : decode cX11_eatersOfAll 12 = .ok (.iconst 1, 1) := by decide +kernel
theorem dX11_eatersOfAll_13 : decode cX11_eatersOfAll 13 = .ok (.istore_n 3, 1) := by decide +kernel
theorem dX11_eatersOfAll_14 : decode cX11_eatersOfAll 14 = .ok (.iconst 0, 1) := by decide +kernel
theorem dX11_eatersOfAll_15 : decode cX11_eatersOfAll 15 = .ok (.istore 4, 2) := by decide +kernel
theorem dX11_eatersOfAll_17 : decode cX11_eatersOfAll 17 = .ok (.iload 4, 2) := by decide +kernel
theorem dX11_eatersOfAll_19 : decode cX11_eatersOfAll 19 = .ok (.aload_n 0, 1) := by decide +kernel
theorem dX11_eatersOfAll_20 : decode cX11_eatersOfAll 20 = .ok (.getfield 435, 3) := by decide +kernel
theorem dX11_eatersOfAll_23 : decode cX11_eatersOfAll 23 = .ok (.if_icmp .ge 51, 3) := by decide +kernel
theorem dX11_eatersOfAll_26 : decode cX11_eatersOfAll 26 = .ok (.aload_n 0, 1) := by decide +kernel
theorem dX11_eatersOfAll_27 : decode cX11_eatersOfAll 27 = .ok (.iload_n 2, 1) := by decide +kernel
theorem dX11_eatersOfAll_28 : decode cX11_eatersOfAll 28 = .ok (.aload_n 0, 1) := by decide +kernel
theorem dX11_eatersOfAll_29 : decode cX11_eatersOfAll 29 = .ok (.getfield 74, 3) := by decide +kernel
theorem dX11_eatersOfAll_32 : decode cX11_eatersOfAll 32 = .ok (.iconst 2, 1) := by decide +kernel
theorem dX11_eatersOfAll_33 : decode cX11_eatersOfAll 33 = .ok (.iload 4, 2) := by decide +kernel
theorem dX11_eatersOfAll_35 : decode cX11_eatersOfAll 35 = .ok (.imul, 1) := by decide +kernel
theorem dX11_eatersOfAll_36 : decode cX11_eatersOfAll 36 = .ok (.iaload, 1) := by decide +kernel
theorem dX11_eatersOfAll_37 : decode cX11_eatersOfAll 37 = .ok (.invokevirtual 313, 3) := by decide +kernel
theorem dX11_eatersOfAll_40 : decode cX11_eatersOfAll 40 = .ok (.ifCond .eq 26, 3) := by decide +kernel
theorem dX11_eatersOfAll_43 : decode cX11_eatersOfAll 43 = .ok (.aload_n 0, 1) := by decide +kernel
theorem dX11_eatersOfAll_44 : decode cX11_eatersOfAll 44 = .ok (.aload_n 0, 1) := by decide +kernel
theorem dX11_eatersOfAll_45 : decode cX11_eatersOfAll 45 = .ok (.iload_n 2, 1) := by decide +kernel
theorem dX11_eatersOfAll_46 : decode cX11_eatersOfAll 46 = .ok (.invokevirtual 426, 3) := by decide +kernel
theorem dX11_eatersOfAll_49 : decode cX11_eatersOfAll 49 = .ok (.aload_n 0, 1) := by decide +kernel
theorem dX11_eatersOfAll_50 : decode cX11_eatersOfAll 50 = .ok (.getfield 74, 3) := by decide +kernel
theorem dX11_eatersOfAll_53 : decode cX11_eatersOfAll 53 = .ok (.iconst 2, 1) := by decide +kernel
theorem dX11_eatersOfAll_54 : decode cX11_eatersOfAll 54 = .ok (.iload 4, 2) := by decide +kernel
theorem dX11_eatersOfAll_56 : decode cX11_eatersOfAll 56 = .ok (.imul, 1) := by decide +kernel
theorem dX11_eatersOfAll_57 : decode cX11_eatersOfAll 57 = .ok (.iconst 1, 1) := by decide +kernel
theorem dX11_eatersOfAll_58 : decode cX11_eatersOfAll 58 = .ok (.iadd, 1) := by decide +kernel
theorem dX11_eatersOfAll_59 : decode cX11_eatersOfAll 59 = .ok (.iaload, 1) := by decide +kernel
theorem dX11_eatersOfAll_60 : decode cX11_eatersOfAll 60 = .ok (.invokevirtual 319, 3) := by decide +kernel
theorem dX11_eatersOfAll_63 : decode cX11_eatersOfAll 63 = .ok (.ifCond .ne 5, 3) := by decide +kernel
theorem dX11_eatersOfAll_66 : decode cX11_eatersOfAll 66 = .ok (.iconst 0, 1) := by decide +kernel
theorem dX11_eatersOfAll_67 : decode cX11_eatersOfAll 67 = .ok (.istore_n 3, 1) := by decide +kernel
theorem dX11_eatersOfAll_68 : decode cX11_eatersOfAll 68 = .ok (.iinc 4 1, 3) := by decide +kernel
theorem dX11_eatersOfAll_71 : decode cX11_eatersOfAll 71 = .ok (.goto (-54), 3) := by decide +kernel
theorem dX11_eatersOfAll_74 : decode cX11_eatersOfAll 74 = .ok (.iload_n 3, 1) := by decide +kernel
theorem dX11_eatersOfAll_75 : decode cX11_eatersOfAll 75 = .ok (.ifCond .eq 9, 3) := by decide +kernel
theorem dX11_eatersOfAll_78 : decode cX11_eatersOfAll 78 = .ok (.iload_n 1, 1) := by decide +kernel
theorem dX11_eatersOfAll_79 : decode cX11_eatersOfAll 79 = .ok (.iconst 1, 1) := by decide +kernel
theorem dX11_eatersOfAll_80 : decode cX11_eatersOfAll 80 = .ok (.iload_n 2, 1) := by decide +kernel
theorem dX11_eatersOfAll_81 : decode cX11_eatersOfAll 81 = .ok (.ishl, 1) := by decide +kernel
theorem dX11_eatersOfAll_82 : decode cX11_eatersOfAll 82 = .ok (.ior, 1) := by decide +kernel
theorem dX11_eatersOfAll_83 : decode cX11_eatersOfAll 83 = .ok (.istore_n 1, 1) := by decide +kernel
theorem dX11_eatersOfAll_84 : decode cX11_eatersOfAll 84 = .ok (.iinc 2 1, 3) := by decide +kernel
theorem dX11_eatersOfAll_87 : decode cX11_eatersOfAll 87 = .ok (.goto (-83), 3) := by decide +kernel
theorem dX11_eatersOfAll_90 : decode cX11_eatersOfAll 90 = .ok (.iload_n 1, 1) := by decide +kernel
theorem dX11_eatersOfAll_91 : decode cX11_eatersOfAll 91 = .ok (.ireturn, 1) := by decide +kernel
theorem dX11_likersOf_0 : decode cX11_likersOf 0 = .ok (.iconst 0, 1) := by decide +kernel
theorem dX11_likersOf_1 : decode cX11_likersOf 1 = .ok (.istore_n 3, 1) := by decide +kernel
theorem dX11_likersOf_2 : decode cX11_likersOf 2 = .ok (.iconst 0, 1) := by decide +kernel
theorem dX11_likersOf_3 : decode cX11_likersOf 3 = .ok (.istore 4, 2) := by decide +kernel
theorem dX11_likersOf_5 : decode cX11_likersOf 5 = .ok (.iload 4, 2) := by decide +kernel
theorem dX11_likersOf_7 : decode cX11_likersOf 7 = .ok (.aload_n 0, 1) := by decide +kernel
theorem dX11_likersOf_8 : decode cX11_likersOf 8 = .ok (.getfield 119, 3) := by decide +kernel
theorem dX11_likersOf_11 : decode cX11_likersOf 11 = .ok (.if_icmp .ge 34, 3) := by decide +kernel
theorem dX11_likersOf_14 : decode cX11_likersOf 14 = .ok (.aload_n 0, 1) := by decide +kernel
theorem dX11_likersOf_15 : decode cX11_likersOf 15 = .ok (.iload_n 1, 1) := by decide +kernel
theorem dX11_likersOf_16 : decode cX11_likersOf 16 = .ok (.iload 4, 2) := by decide +kernel
theorem dX11_likersOf_18 : decode cX11_likersOf 18 = .ok (.invokevirtual 319, 3) := by decide +kernel
theorem dX11_likersOf_21 : decode cX11_likersOf 21 = .ok (.ifCond .eq 18, 3) := by decide +kernel
theorem dX11_likersOf_24 : decode cX11_likersOf 24 = .ok (.aload_n 0, 1) := by decide +kernel
theorem dX11_likersOf_25 : decode cX11_likersOf 25 = .ok (.iload 4, 2) := by decide +kernel
theorem dX11_likersOf_27 : decode cX11_likersOf 27 = .ok (.iload_n 2, 1) := by decide +kernel
theorem dX11_likersOf_28 : decode cX11_likersOf 28 = .ok (.invokevirtual 313, 3) := by decide +kernel
theorem dX11_likersOf_31 : decode cX11_likersOf 31 = .ok (.iconst 5, 1) := by decide +kernel
theorem dX11_likersOf_32 : decode cX11_likersOf 32 = .ok (.if_icmp .lt 7, 3) := by decide +kernel
theorem dX11_likersOf_35 : decode cX11_likersOf 35 = .ok (.iload_n 3, 1) := by decide +kernel
theorem dX11_likersOf_36 : decode cX11_likersOf 36 = .ok (.iconst 1, 1) := by decide +kernel
theorem dX11_likersOf_37 : decode cX11_likersOf 37 = .ok (.iadd, 1) := by decide +kernel
theorem dX11_likersOf_38 : decode cX11_likersOf 38 = .ok (.istore_n 3, 1) := by decide +kernel
theorem dX11_likersOf_39 : decode cX11_likersOf 39 = .ok (.iinc 4 1, 3) := by decide +kernel
theorem dX11_likersOf_42 : decode cX11_likersOf 42 = .ok (.goto (-37), 3) := by decide +kernel
theorem dX11_likersOf_45 : decode cX11_likersOf 45 = .ok (.iload_n 3, 1) := by decide +kernel
theorem dX11_likersOf_46 : decode cX11_likersOf 46 = .ok (.ireturn, 1) := by decide +kernel
theorem dX11_whose_0 : decode cX11_whose 0 = .ok (.aload_n 0, 1) := by decide +kernel
theorem dX11_whose_1 : decode cX11_whose 1 = .ok (.iconst 0, 1) := by decide +kernel
theorem dX11_whose_2 : decode cX11_whose 2 = .ok (.putfield 86, 3) := by decide +kernel
theorem dX11_whose_5 : decode cX11_whose 5 = .ok (.aload_n 0, 1) := by decide +kernel
theorem dX11_whose_6 : decode cX11_whose 6 = .ok (.iload_n 1, 1) := by decide +kernel
theorem dX11_whose_7 : decode cX11_whose 7 = .ok (.iconst 0, 1) := by decide +kernel
theorem dX11_whose_8 : decode cX11_whose 8 = .ok (.iconst 1, 1) := by decide +kernel
theorem dX11_whose_9 : decode cX11_whose 9 = .ok (.invokevirtual 126, 3) := by decide +kernel
theorem dX11_whose_12 : decode cX11_whose 12 = .ok (.ifCond .ne 5, 3) := by decide +kernel
theorem dX11_whose_15 : decode cX11_whose 15 = .ok (.iconst (-1), 1) := by decide +kernel
theorem dX11_whose_16 : decode cX11_whose 16 = .ok (.ireturn, 1) := by decide +kernel
theorem dX11_whose_17 : decode cX11_whose 17 = .ok (.aload_n 0, 1) := by decide +kernel
theorem dX11_whose_18 : decode cX11_whose 18 = .ok (.invokevirtual 438, 3) := by decide +kernel
theorem dX11_whose_21 : decode cX11_whose 21 = .ok (.istore_n 2, 1) := by decide +kernel
theorem dX11_whose_22 : decode cX11_whose 22 = .ok (.iload_n 1, 1) := by decide +kernel
theorem dX11_whose_23 : decode cX11_whose 23 = .ok (.ifCond .ne 5, 3) := by decide +kernel
theorem dX11_whose_26 : decode cX11_whose 26 = .ok (.iload_n 2, 1) := by decide +kernel
theorem dX11_whose_27 : decode cX11_whose 27 = .ok (.ireturn, 1) := by decide +kernel
theorem dX11_whose_28 : decode cX11_whose 28 = .ok (.aload_n 0, 1) := by decide +kernel
theorem dX11_whose_29 : decode cX11_whose 29 = .ok (.iload_n 2, 1) := by decide +kernel
theorem dX11_whose_30 : decode cX11_whose 30 = .ok (.invokevirtual 429, 3) := by decide +kernel
theorem dX11_whose_33 : decode cX11_whose 33 = .ok (.istore_n 3, 1) := by decide +kernel
theorem dX11_whose_34 : decode cX11_whose 34 = .ok (.iload_n 3, 1) := by decide +kernel
theorem dX11_whose_35 : decode cX11_whose 35 = .ok (.iconst 2, 1) := by decide +kernel
theorem dX11_whose_36 : decode cX11_whose 36 = .ok (.if_icmp .ge 5, 3) := by decide +kernel
theorem dX11_whose_39 : decode cX11_whose 39 = .ok (.iconst (-1), 1) := by decide +kernel
theorem dX11_whose_40 : decode cX11_whose 40 = .ok (.ireturn, 1) := by decide +kernel
theorem dX11_whose_41 : decode cX11_whose 41 = .ok (.iconst (-1), 1) := by decide +kernel
theorem dX11_whose_42 : decode cX11_whose 42 = .ok (.istore 4, 2) := by decide +kernel
theorem dX11_whose_44 : decode cX11_whose 44 = .ok (.ldc_w 441, 3) := by decide +kernel
theorem dX11_whose_47 : decode cX11_whose 47 = .ok (.istore 5, 2) := by decide +kernel
theorem dX11_whose_49 : decode cX11_whose 49 = .ok (.iconst 0, 1) := by decide +kernel
theorem dX11_whose_50 : decode cX11_whose 50 = .ok (.istore 6, 2) := by decide +kernel
theorem dX11_whose_52 : decode cX11_whose 52 = .ok (.iload 6, 2) := by decide +kernel
theorem dX11_whose_54 : decode cX11_whose 54 = .ok (.aload_n 0, 1) := by decide +kernel
theorem dX11_whose_55 : decode cX11_whose 55 = .ok (.getfield 116, 3) := by decide +kernel
theorem dX11_whose_58 : decode cX11_whose 58 = .ok (.if_icmp .ge 56, 3) := by decide +kernel
theorem dX11_whose_61 : decode cX11_whose 61 = .ok (.aload_n 0, 1) := by decide +kernel
theorem dX11_whose_62 : decode cX11_whose 62 = .ok (.iload_n 2, 1) := by decide +kernel
theorem dX11_whose_63 : decode cX11_whose 63 = .ok (.iload 6, 2) := by decide +kernel
theorem dX11_whose_65 : decode cX11_whose 65 = .ok (.invokevirtual 442, 3) := by decide +kernel
theorem dX11_whose_68 : decode cX11_whose 68 = .ok (.istore 7, 2) := by decide +kernel
theorem dX11_whose_70 : decode cX11_whose 70 = .ok (.aload_n 0, 1) := by decide +kernel
theorem dX11_whose_71 : decode cX11_whose 71 = .ok (.iload 7, 2) := by decide +kernel
theorem dX11_whose_73 : decode cX11_whose 73 = .ok (.iload_n 3, 1) := by decide +kernel
theorem dX11_whose_74 : decode cX11_whose 74 = .ok (.iload 7, 2) := by decide +kernel
theorem dX11_whose_76 : decode cX11_whose 76 = .ok (.isub, 1) := by decide +kernel
theorem dX11_whose_77 : decode cX11_whose 77 = .ok (.invokevirtual 420, 3) := by decide +kernel
theorem dX11_whose_80 : decode cX11_whose 80 = .ok (.istore 8, 2) := by decide +kernel
theorem dX11_whose_82 : decode cX11_whose 82 = .ok (.iload 8, 2) := by decide +kernel
theorem dX11_whose_84 : decode cX11_whose 84 = .ok (.iload 5, 2) := by decide +kernel
theorem dX11_whose_86 : decode cX11_whose 86 = .ok (.if_icmp .ge 8, 3) := by decide +kernel
theorem dX11_whose_89 : decode cX11_whose 89 = .ok (.iload 6, 2) := by decide +kernel
theorem dX11_whose_91 : decode cX11_whose 91 = .ok (.goto 5, 3) := by decide +kernel
theorem dX11_whose_94 : decode cX11_whose 94 = .ok (.iload 4, 2) := by decide +kernel
theorem dX11_whose_96 : decode cX11_whose 96 = .ok (.istore 4, 2) := by decide +kernel
theorem dX11_whose_98 : decode cX11_whose 98 = .ok (.aload_n 0, 1) := by decide +kernel
theorem dX11_whose_99 : decode cX11_whose 99 = .ok (.iload 5, 2) := by decide +kernel
theorem dX11_whose_101 : decode cX11_whose 101 = .ok (.iload 8, 2) := by decide +kernel
theorem dX11_whose_103 : decode cX11_whose 103 = .ok (.invokevirtual 323, 3) := by decide +kernel
theorem dX11_whose_106 : decode cX11_whose 106 = .ok (.istore 5, 2) := by decide +kernel
theorem dX11_whose_108 : decode cX11_whose 108 = .ok (.iinc 6 1, 3) := by decide +kernel
theorem dX11_whose_111 : decode cX11_whose 111 = .ok (.goto (-59), 3) := by decide +kernel
theorem dX11_whose_114 : decode cX11_whose 114 = .ok (.iload 4, 2) := by decide +kernel
theorem dX11_whose_116 : decode cX11_whose 116 = .ok (.ireturn, 1) := by decide +kernel
theorem dX11_left_0 : decode cX11_left 0 = .ok (.aload_n 0, 1) := by decide +kernel
theorem dX11_left_1 : decode cX11_left 1 = .ok (.iconst 0, 1) := by decide +kernel
theorem dX11_left_2 : decode cX11_left 2 = .ok (.putfield 86, 3) := by decide +kernel
theorem dX11_left_5 : decode cX11_left 5 = .ok (.aload_n 0, 1) := by decide +kernel
theorem dX11_left_6 : decode cX11_left 6 = .ok (.iload_n 1, 1) := by decide +kernel
theorem dX11_left_7 : decode cX11_left 7 = .ok (.iconst 0, 1) := by decide +kernel
theorem dX11_left_8 : decode cX11_left 8 = .ok (.bipush 99, 2) := by decide +kernel
theorem dX11_left_10 : decode cX11_left 10 = .ok (.invokevirtual 126, 3) := by decide +kernel
theorem dX11_left_13 : decode cX11_left 13 = .ok (.ifCond .ne 5, 3) := by decide +kernel
theorem dX11_left_16 : decode cX11_left 16 = .ok (.iconst (-1), 1) := by decide +kernel
theorem dX11_left_17 : decode cX11_left 17 = .ok (.ireturn, 1) := by decide +kernel
theorem dX11_left_18 : decode cX11_left 18 = .ok (.iconst 0, 1) := by decide +kernel
theorem dX11_left_19 : decode cX11_left 19 = .ok (.istore_n 2, 1) := by decide +kernel
theorem dX11_left_20 : decode cX11_left 20 = .ok (.iload_n 2, 1) := by decide +kernel
theorem dX11_left_21 : decode cX11_left 21 = .ok (.iload_n 1, 1) := by decide +kernel
theorem dX11_left_22 : decode cX11_left 22 = .ok (.if_icmp .gt 24, 3) := by decide +kernel
theorem dX11_left_25 : decode cX11_left 25 = .ok (.aload_n 0, 1) := by decide +kernel
theorem dX11_left_26 : decode cX11_left 26 = .ok (.getfield 77, 3) := by decide +kernel
theorem dX11_left_29 : decode cX11_left 29 = .ok (.iload_n 2, 1) := by decide +kernel
theorem dX11_left_30 : decode cX11_left 30 = .ok (.iload_n 2, 1) := by decide +kernel
theorem dX11_left_31 : decode cX11_left 31 = .ok (.ifCond .ne 7, 3) := by decide +kernel
theorem dX11_left_34 : decode cX11_left 34 = .ok (.iconst 1, 1) := by decide +kernel
theorem dX11_left_35 : decode cX11_left 35 = .ok (.goto 4, 3) := by decide +kernel
theorem dX11_left_38 : decode cX11_left 38 = .ok (.iconst 0, 1) := by decide +kernel
theorem dX11_left_39 : decode cX11_left 39 = .ok (.iastore, 1) := by decide +kernel
theorem dX11_left_40 : decode cX11_left 40 = .ok (.iinc 2 1, 3) := by decide +kernel
theorem dX11_left_43 : decode cX11_left 43 = .ok (.goto (-23), 3) := by decide +kernel
theorem dX11_left_46 : decode cX11_left 46 = .ok (.iconst 0, 1) := by decide +kernel
theorem dX11_left_47 : decode cX11_left 47 = .ok (.istore_n 2, 1) := by decide +kernel
theorem dX11_left_48 : decode cX11_left 48 = .ok (.iload_n 2, 1) := by decide +kernel
theorem dX11_left_49 : decode cX11_left 49 = .ok (.aload_n 0, 1) := by decide +kernel
theorem dX11_left_50 : decode cX11_left 50 = .ok (.getfield 119, 3) := by decide +kernel
theorem dX11_left_53 : decode cX11_left 53 = .ok (.if_icmp .ge 118, 3) := by decide +kernel
theorem dX11_left_56 : decode cX11_left 56 = .ok (.aload_n 0, 1) := by decide +kernel
theorem dX11_left_57 : decode cX11_left 57 = .ok (.iload_n 2, 1) := by decide +kernel
theorem dX11_left_58 : decode cX11_left 58 = .ok (.invokevirtual 363, 3) := by decide +kernel
theorem dX11_left_61 : decode cX11_left 61 = .ok (.istore_n 3, 1) := by decide +kernel
theorem dX11_left_62 : decode cX11_left 62 = .ok (.iconst 0, 1) := by decide +kernel
theorem dX11_left_63 : decode cX11_left 63 = .ok (.istore 4, 2) := by decide +kernel
theorem dX11_left_65 : decode cX11_left 65 = .ok (.iload 4, 2) := by decide +kernel
theorem dX11_left_67 : decode cX11_left 67 = .ok (.iload_n 1, 1) := by decide +kernel
theorem dX11_left_68 : decode cX11_left 68 = .ok (.if_icmp .gt 68, 3) := by decide +kernel
theorem dX11_left_71 : decode cX11_left 71 = .ok (.aload_n 0, 1) := by decide +kernel
theorem dX11_left_72 : decode cX11_left 72 = .ok (.getfield 80, 3) := by decide +kernel
theorem dX11_left_75 : decode cX11_left 75 = .ok (.iload 4, 2) := by decide +kernel
theorem dX11_left_77 : decode cX11_left 77 = .ok (.iconst 0, 1) := by decide +kernel
theorem dX11_left_78 : decode cX11_left 78 = .ok (.iastore, 1) := by decide +kernel
theorem dX11_left_79 : decode cX11_left 79 = .ok (.iconst 0, 1) := by decide +kernel
theorem dX11_left_80 : decode cX11_left 80 = .ok (.istore 5, 2) := by decide +kernel
theorem dX11_left_82 : decode cX11_left 82 = .ok (.iload 5, 2) := by decide +kernel
theorem dX11_left_84 : decode cX11_left 84 = .ok (.iload_n 3, 1) := by decide +kernel
theorem dX11_left_85 : decode cX11_left 85 = .ok (.if_icmp .gt 45, 3) := by decide +kernel
theorem dX11_left_88 : decode cX11_left 88 = .ok (.iload 5, 2) := by decide +kernel
theorem dX11_left_90 : decode cX11_left 90 = .ok (.iload 4, 2) := by decide +kernel
theorem dX11_left_92 : decode cX11_left 92 = .ok (.if_icmp .gt 38, 3) := by decide +kernel
theorem dX11_left_95 : decode cX11_left 95 = .ok (.aload_n 0, 1) := by decide +kernel
theorem dX11_left_96 : decode cX11_left 96 = .ok (.getfield 80, 3) := by decide +kernel
theorem dX11_left_99 : decode cX11_left 99 = .ok (.iload 4, 2) := by decide +kernel
theorem dX11_left_101 : decode cX11_left 101 = .ok (.aload_n 0, 1) := by decide +kernel
theorem dX11_left_102 : decode cX11_left 102 = .ok (.getfield 80, 3) := by decide +kernel
theorem dX11_left_105 : decode cX11_left 105 = .ok (.iload 4, 2) := by decide +kernel
theorem dX11_left_107 : decode cX11_left 107 = .ok (.iaload, 1) := by decide +kernel
theorem dX11_left_108 : decode cX11_left 108 = .ok (.aload_n 0, 1) := by decide +kernel
theorem dX11_left_109 : decode cX11_left 109 = .ok (.getfield 77, 3) := by decide +kernel
theorem dX11_left_112 : decode cX11_left 112 = .ok (.iload 4, 2) := by decide +kernel
theorem dX11_left_114 : decode cX11_left 114 = .ok (.iload 5, 2) := by decide +kernel
theorem dX11_left_116 : decode cX11_left 116 = .ok (.isub, 1) := by decide +kernel
theorem dX11_left_117 : decode cX11_left 117 = .ok (.iaload, 1) := by decide +kernel
theorem dX11_left_118 : decode cX11_left 118 = .ok (.iadd, 1) := by decide +kernel
theorem dX11_left_119 : decode cX11_left 119 = .ok (.ldc_w 445, 3) := by decide +kernel
theorem dX11_left_122 : decode cX11_left 122 = .ok (.irem, 1) := by decide +kernel
theorem dX11_left_123 : decode cX11_left 123 = .ok (.iastore, 1) := by decide +kernel
theorem dX11_left_124 : decode cX11_left 124 = .ok (.iinc 5 1, 3) := by decide +kernel
theorem dX11_left_127 : decode cX11_left 127 = .ok (.goto (-45), 3) := by decide +kernel
theorem dX11_left_130 : decode cX11_left 130 = .ok (.iinc 4 1, 3) := by decide +kernel
theorem dX11_left_133 : decode cX11_left 133 = .ok (.goto (-68), 3) := by decide +kernel
theorem dX11_left_136 : decode cX11_left 136 = .ok (.iconst 0, 1) := by decide +kernel
theorem dX11_left_137 : decode cX11_left 137 = .ok (.istore 4, 2) := by decide +kernel
theorem dX11_left_139 : decode cX11_left 139 = .ok (.iload 4, 2) := by decide +kernel
theorem dX11_left_141 : decode cX11_left 141 = .ok (.iload_n 1, 1) := by decide +kernel
theorem dX11_left_142 : decode cX11_left 142 = .ok (.if_icmp .gt 23, 3) := by decide +kernel
theorem dX11_left_145 : decode cX11_left 145 = .ok (.aload_n 0, 1) := by decide +kernel
theorem dX11_left_146 : decode cX11_left 146 = .ok (.getfield 77, 3) := by decide +kernel
theorem dX11_left_149 : decode cX11_left 149 = .ok (.iload 4, 2) := by decide +kernel
theorem dX11_left_151 : decode cX11_left 151 = .ok (.aload_n 0, 1) := by decide +kernel
theorem dX11_left_152 : decode cX11_left 152 = .ok (.getfield 80, 3) := by decide +kernel
theorem dX11_left_155 : decode cX11_left 155 = .ok (.iload 4, 2) := by decide +kernel
theorem dX11_left_157 : decode cX11_left 157 = .ok (.iaload, 1) := by decide +kernel
theorem dX11_left_158 : decode cX11_left 158 = .ok (.iastore, 1) := by decide +kernel
theorem dX11_left_159 : decode cX11_left 159 = .ok (.iinc 4 1, 3) := by decide +kernel
theorem dX11_left_162 : decode cX11_left 162 = .ok (.goto (-23), 3) := by decide +kernel
theorem dX11_left_165 : decode cX11_left 165 = .ok (.iinc 2 1, 3) := by decide +kernel
theorem dX11_left_168 : decode cX11_left 168 = .ok (.goto (-120), 3) := by decide +kernel
theorem dX11_left_171 : decode cX11_left 171 = .ok (.aload_n 0, 1) := by decide +kernel
theorem dX11_left_172 : decode cX11_left 172 = .ok (.getfield 77, 3) := by decide +kernel
theorem dX11_left_175 : decode cX11_left 175 = .ok (.iload_n 1, 1) := by decide +kernel
theorem dX11_left_176 : decode cX11_left 176 = .ok (.iaload, 1) := by decide +kernel
theorem dX11_left_177 : decode cX11_left 177 = .ok (.ireturn, 1) := by decide +kernel
theorem dX11_seatsOf_0 : decode cX11_seatsOf 0 = .ok (.iconst 0, 1) := by decide +kernel
theorem dX11_seatsOf_1 : decode cX11_seatsOf 1 = .ok (.istore_n 2, 1) := by decide +kernel
theorem dX11_seatsOf_2 : decode cX11_seatsOf 2 = .ok (.iconst 0, 1) := by decide +kernel
theorem dX11_seatsOf_3 : decode cX11_seatsOf 3 = .ok (.istore_n 3, 1) := by decide +kernel
theorem dX11_seatsOf_4 : decode cX11_seatsOf 4 = .ok (.iload_n 3, 1) := by decide +kernel
theorem dX11_seatsOf_5 : decode cX11_seatsOf 5 = .ok (.aload_n 0, 1) := by decide +kernel
theorem dX11_seatsOf_6 : decode cX11_seatsOf 6 = .ok (.getfield 116, 3) := by decide +kernel
theorem dX11_seatsOf_9 : decode cX11_seatsOf 9 = .ok (.if_icmp .ge 30, 3) := by decide +kernel
theorem dX11_seatsOf_12 : decode cX11_seatsOf 12 = .ok (.aload_n 0, 1) := by decide +kernel
theorem dX11_seatsOf_13 : decode cX11_seatsOf 13 = .ok (.iload_n 1, 1) := by decide +kernel
theorem dX11_seatsOf_14 : decode cX11_seatsOf 14 = .ok (.iload_n 3, 1) := by decide +kernel
theorem dX11_seatsOf_15 : decode cX11_seatsOf 15 = .ok (.invokevirtual 319, 3) := by decide +kernel
theorem dX11_seatsOf_18 : decode cX11_seatsOf 18 = .ok (.ifCond .eq 15, 3) := by decide +kernel
theorem dX11_seatsOf_21 : decode cX11_seatsOf 21 = .ok (.iload_n 2, 1) := by decide +kernel
theorem dX11_seatsOf_22 : decode cX11_seatsOf 22 = .ok (.aload_n 0, 1) := by decide +kernel
theorem dX11_seatsOf_23 : decode cX11_seatsOf 23 = .ok (.getfield 7, 3) := by decide +kernel
theorem dX11_seatsOf_26 : decode cX11_seatsOf 26 = .ok (.bipush 10, 2) := by decide +kernel
theorem dX11_seatsOf_28 : decode cX11_seatsOf 28 = .ok (.iload_n 3, 1) := by decide +kernel
theorem dX11_seatsOf_29 : decode cX11_seatsOf 29 = .ok (.iadd, 1) := by decide +kernel
theorem dX11_seatsOf_30 : decode cX11_seatsOf 30 = .ok (.iaload, 1) := by decide +kernel
theorem dX11_seatsOf_31 : decode cX11_seatsOf 31 = .ok (.iadd, 1) := by decide +kernel
theorem dX11_seatsOf_32 : decode cX11_seatsOf 32 = .ok (.istore_n 2, 1) := by decide +kernel
theorem dX11_seatsOf_33 : decode cX11_seatsOf 33 = .ok (.iinc 3 1, 3) := by decide +kernel
theorem dX11_seatsOf_36 : decode cX11_seatsOf 36 = .ok (.goto (-32), 3) := by decide +kernel
theorem dX11_seatsOf_39 : decode cX11_seatsOf 39 = .ok (.iload_n 2, 1) := by decide +kernel
theorem dX11_seatsOf_40 : decode cX11_seatsOf 40 = .ok (.ireturn, 1) := by decide +kernel
theorem dX11_doesRule_0 : decode cX11_doesRule 0 = .ok (.iconst 2, 1) := by decide +kernel
theorem dX11_doesRule_1 : decode cX11_doesRule 1 = .ok (.aload_n 0, 1) := by decide +kernel
theorem dX11_doesRule_2 : decode cX11_doesRule 2 = .ok (.iload_n 1, 1) := by decide +kernel
theorem dX11_doesRule_3 : decode cX11_doesRule 3 = .ok (.invokevirtual 446, 3) := by decide +kernel
theorem dX11_doesRule_6 : decode cX11_doesRule 6 = .ok (.imul, 1) := by decide +kernel
theorem dX11_doesRule_7 : decode cX11_doesRule 7 = .ok (.aload_n 0, 1) := by decide +kernel
theorem dX11_doesRule_8 : decode cX11_doesRule 8 = .ok (.iconst 1, 1) := by decide +kernel
theorem dX11_doesRule_9 : decode cX11_doesRule 9 = .ok (.aload_n 0, 1) := by decide +kernel
theorem dX11_doesRule_10 : decode cX11_doesRule 10 = .ok (.getfield 116, 3) := by decide +kernel
theorem dX11_doesRule_13 : decode cX11_doesRule 13 = .ok (.ishl, 1) := by decide +kernel
theorem dX11_doesRule_14 : decode cX11_doesRule 14 = .ok (.iconst 1, 1) := by decide +kernel
theorem dX11_doesRule_15 : decode cX11_doesRule 15 = .ok (.isub, 1) := by decide +kernel
theorem dX11_doesRule_16 : decode cX11_doesRule 16 = .ok (.invokevirtual 446, 3) := by decide +kernel
theorem dX11_doesRule_19 : decode cX11_doesRule 19 = .ok (.if_icmp .le 7, 3) := by decide +kernel
theorem dX11_doesRule_22 : decode cX11_doesRule 22 = .ok (.iconst 1, 1) := by decide +kernel
theorem dX11_doesRule_23 : decode cX11_doesRule 23 = .ok (.goto 4, 3) := by decide +kernel
theorem dX11_doesRule_26 : decode cX11_doesRule 26 = .ok (.iconst 0, 1) := by decide +kernel
theorem dX11_doesRule_27 : decode cX11_doesRule 27 = .ok (.ireturn, 1) := by decide +kernel
theorem dX11_rules_0 : decode cX11_rules 0 = .ok (.aload_n 0, 1) := by decide +kernel
theorem dX11_rules_1 : decode cX11_rules 1 = .ok (.iconst 0, 1) := by decide +kernel
theorem dX11_rules_2 : decode cX11_rules 2 = .ok (.putfield 86, 3) := by decide +kernel
theorem dX11_rules_5 : decode cX11_rules 5 = .ok (.aload_n 0, 1) := by decide +kernel
theorem dX11_rules_6 : decode cX11_rules 6 = .ok (.iload_n 1, 1) := by decide +kernel
theorem dX11_rules_7 : decode cX11_rules 7 = .ok (.iconst 0, 1) := by decide +kernel
theorem dX11_rules_8 : decode cX11_rules 8 = .ok (.iconst 1, 1) := by decide +kernel
theorem dX11_rules_9 : decode cX11_rules 9 = .ok (.invokevirtual 126, 3) := by decide +kernel
theorem dX11_rules_12 : decode cX11_rules 12 = .ok (.ifCond .ne 5, 3) := by decide +kernel
theorem dX11_rules_15 : decode cX11_rules 15 = .ok (.iconst (-1), 1) := by decide +kernel
theorem dX11_rules_16 : decode cX11_rules 16 = .ok (.ireturn, 1) := by decide +kernel
theorem dX11_rules_17 : decode cX11_rules 17 = .ok (.iconst (-1), 1) := by decide +kernel
theorem dX11_rules_18 : decode cX11_rules 18 = .ok (.istore_n 2, 1) := by decide +kernel
theorem dX11_rules_19 : decode cX11_rules 19 = .ok (.iconst 0, 1) := by decide +kernel
theorem dX11_rules_20 : decode cX11_rules 20 = .ok (.istore_n 3, 1) := by decide +kernel
theorem dX11_rules_21 : decode cX11_rules 21 = .ok (.iload_n 3, 1) := by decide +kernel
theorem dX11_rules_22 : decode cX11_rules 22 = .ok (.iconst 1, 1) := by decide +kernel
theorem dX11_rules_23 : decode cX11_rules 23 = .ok (.aload_n 0, 1) := by decide +kernel
theorem dX11_rules_24 : decode cX11_rules 24 = .ok (.getfield 116, 3) := by decide +kernel
theorem dX11_rules_27 : decode cX11_rules 27 = .ok (.ishl, 1) := by decide +kernel
theorem dX11_rules_28 : decode cX11_rules 28 = .ok (.if_icmp .ge 37, 3) := by decide +kernel
theorem dX11_rules_31 : decode cX11_rules 31 = .ok (.iload_n 2, 1) := by decide +kernel
theorem dX11_rules_32 : decode cX11_rules 32 = .ok (.iconst (-1), 1) := by decide +kernel
theorem dX11_rules_33 : decode cX11_rules 33 = .ok (.if_icmp .eq 16, 3) := by decide +kernel
theorem dX11_rules_36 : decode cX11_rules 36 = .ok (.aload_n 0, 1) := by decide +kernel
theorem dX11_rules_37 : decode cX11_rules 37 = .ok (.iload_n 3, 1) := by decide +kernel
theorem dX11_rules_38 : decode cX11_rules 38 = .ok (.invokevirtual 429, 3) := by decide +kernel
theorem dX11_rules_41 : decode cX11_rules 41 = .ok (.aload_n 0, 1) := by decide +kernel
theorem dX11_rules_42 : decode cX11_rules 42 = .ok (.iload_n 2, 1) := by decide +kernel
theorem dX11_rules_43 : decode cX11_rules 43 = .ok (.invokevirtual 429, 3) := by decide +kernel
theorem dX11_rules_46 : decode cX11_rules 46 = .ok (.if_icmp .ge 13, 3) := by decide +kernel
theorem dX11_rules_49 : decode cX11_rules 49 = .ok (.aload_n 0, 1) := by decide +kernel
theorem dX11_rules_50 : decode cX11_rules 50 = .ok (.iload_n 3, 1) := by decide +kernel
theorem dX11_rules_51 : decode cX11_rules 51 = .ok (.invokevirtual 449, 3) := by decide +kernel
theorem dX11_rules_54 : decode cX11_rules 54 = .ok (.ifCond .eq 5, 3) := by decide +kernel
theorem dX11_rules_57 : decode cX11_rules 57 = .ok (.iload_n 3, 1) := by decide +kernel
theorem dX11_rules_58 : decode cX11_rules 58 = .ok (.istore_n 2, 1) := by decide +kernel
theorem dX11_rules_59 : decode cX11_rules 59 = .ok (.iinc 3 1, 3) := by decide +kernel
theorem dX11_rules_62 : decode cX11_rules 62 = .ok (.goto (-41), 3) := by decide +kernel
theorem dX11_rules_65 : decode cX11_rules 65 = .ok (.iload_n 2, 1) := by decide +kernel
theorem dX11_rules_66 : decode cX11_rules 66 = .ok (.iconst (-1), 1) := by decide +kernel
theorem dX11_rules_67 : decode cX11_rules 67 = .ok (.if_icmp .eq 8, 3) := by decide +kernel
theorem dX11_rules_70 : decode cX11_rules 70 = .ok (.iload_n 1, 1) := by decide +kernel
theorem dX11_rules_71 : decode cX11_rules 71 = .ok (.iconst 1, 1) := by decide +kernel
theorem dX11_rules_72 : decode cX11_rules 72 = .ok (.if_icmp .ne 7, 3) := by decide +kernel
theorem dX11_rules_75 : decode cX11_rules 75 = .ok (.iload_n 2, 1) := by decide +kernel
theorem dX11_rules_76 : decode cX11_rules 76 = .ok (.goto 8, 3) := by decide +kernel
theorem dX11_rules_79 : decode cX11_rules 79 = .ok (.aload_n 0, 1) := by decide +kernel
theorem dX11_rules_80 : decode cX11_rules 80 = .ok (.iload_n 2, 1) := by decide +kernel
theorem dX11_rules_81 : decode cX11_rules 81 = .ok (.invokevirtual 429, 3) := by decide +kernel
theorem dX11_rules_84 : decode cX11_rules 84 = .ok (.ireturn, 1) := by decide +kernel
theorem dX11_weighs_0 : decode cX11_weighs 0 = .ok (.aload_n 0, 1) := by decide +kernel
theorem dX11_weighs_1 : decode cX11_weighs 1 = .ok (.iconst 0, 1) := by decide +kernel
theorem dX11_weighs_2 : decode cX11_weighs 2 = .ok (.putfield 86, 3) := by decide +kernel
theorem dX11_weighs_5 : decode cX11_weighs 5 = .ok (.aload_n 0, 1) := by decide +kernel
theorem dX11_weighs_6 : decode cX11_weighs 6 = .ok (.iload_n 1, 1) := by decide +kernel
theorem dX11_weighs_7 : decode cX11_weighs 7 = .ok (.invokevirtual 134, 3) := by decide +kernel
theorem dX11_weighs_10 : decode cX11_weighs 10 = .ok (.ifCond .ne 5, 3) := by decide +kernel
theorem dX11_weighs_13 : decode cX11_weighs 13 = .ok (.iconst (-1), 1) := by decide +kernel
theorem dX11_weighs_14 : decode cX11_weighs 14 = .ok (.ireturn, 1) := by decide +kernel
theorem dX11_weighs_15 : decode cX11_weighs 15 = .ok (.iconst 0, 1) := by decide +kernel
theorem dX11_weighs_16 : decode cX11_weighs 16 = .ok (.istore_n 2, 1) := by decide +kernel
theorem dX11_weighs_17 : decode cX11_weighs 17 = .ok (.iconst 0, 1) := by decide +kernel
theorem dX11_weighs_18 : decode cX11_weighs 18 = .ok (.istore_n 3, 1) := by decide +kernel
theorem dX11_weighs_19 : decode cX11_weighs 19 = .ok (.iload_n 3, 1) := by decide +kernel
theorem dX11_weighs_20 : decode cX11_weighs 20 = .ok (.iconst 1, 1) := by decide +kernel
theorem dX11_weighs_21 : decode cX11_weighs 21 = .ok (.aload_n 0, 1) := by decide +kernel
theorem dX11_weighs_22 : decode cX11_weighs 22 = .ok (.getfield 116, 3) := by decide +kernel
theorem dX11_weighs_25 : decode cX11_weighs 25 = .ok (.ishl, 1) := by decide +kernel
theorem dX11_weighs_26 : decode cX11_weighs 26 = .ok (.if_icmp .ge 42, 3) := by decide +kernel
theorem dX11_weighs_29 : decode cX11_weighs 29 = .ok (.aload_n 0, 1) := by decide +kernel
theorem dX11_weighs_30 : decode cX11_weighs 30 = .ok (.iload_n 3, 1) := by decide +kernel
theorem dX11_weighs_31 : decode cX11_weighs 31 = .ok (.iload_n 1, 1) := by decide +kernel
theorem dX11_weighs_32 : decode cX11_weighs 32 = .ok (.invokevirtual 319, 3) := by decide +kernel
theorem dX11_weighs_35 : decode cX11_weighs 35 = .ok (.ifCond .ne 27, 3) := by decide +kernel
theorem dX11_weighs_38 : decode cX11_weighs 38 = .ok (.aload_n 0, 1) := by decide +kernel
theorem dX11_weighs_39 : decode cX11_weighs 39 = .ok (.iload_n 3, 1) := by decide +kernel
theorem dX11_weighs_40 : decode cX11_weighs 40 = .ok (.invokevirtual 449, 3) := by decide +kernel
theorem dX11_weighs_43 : decode cX11_weighs 43 = .ok (.ifCond .ne 19, 3) := by decide +kernel
theorem dX11_weighs_46 : decode cX11_weighs 46 = .ok (.aload_n 0, 1) := by decide +kernel
theorem dX11_weighs_47 : decode cX11_weighs 47 = .ok (.iload_n 3, 1) := by decide +kernel
theorem dX11_weighs_48 : decode cX11_weighs 48 = .ok (.iconst 1, 1) := by decide +kernel
theorem dX11_weighs_49 : decode cX11_weighs 49 = .ok (.iload_n 1, 1) := by decide +kernel
theorem dX11_weighs_50 : decode cX11_weighs 50 = .ok (.ishl, 1) := by decide +kernel
theorem dX11_weighs_51 : decode cX11_weighs 51 = .ok (.ior, 1) := by decide +kernel
theorem dX11_weighs_52 : decode cX11_weighs 52 = .ok (.invokevirtual 449, 3) := by decide +kernel
theorem dX11_weighs_55 : decode cX11_weighs 55 = .ok (.ifCond .eq 7, 3) := by decide +kernel
theorem dX11_weighs_58 : decode cX11_weighs 58 = .ok (.iload_n 2, 1) := by decide +kernel
theorem dX11_weighs_59 : decode cX11_weighs 59 = .ok (.iconst 1, 1) := by decide +kernel
theorem dX11_weighs_60 : decode cX11_weighs 60 = .ok (.iadd, 1) := by decide +kernel
theorem dX11_weighs_61 : decode cX11_weighs 61 = .ok (.istore_n 2, 1) := by decide +kernel
theorem dX11_weighs_62 : decode cX11_weighs 62 = .ok (.iinc 3 1, 3) := by decide +kernel
theorem dX11_weighs_65 : decode cX11_weighs 65 = .ok (.goto (-46), 3) := by decide +kernel
theorem dX11_weighs_68 : decode cX11_weighs 68 = .ok (.iload_n 2, 1) := by decide +kernel
theorem dX11_weighs_69 : decode cX11_weighs 69 = .ok (.ireturn, 1) := by decide +kernel
theorem dX11_lasts_0 : decode cX11_lasts 0 = .ok (.aload_n 0, 1) := by decide +kernel
theorem dX11_lasts_1 : decode cX11_lasts 1 = .ok (.iconst 0, 1) := by decide +kernel
theorem dX11_lasts_2 : decode cX11_lasts 2 = .ok (.putfield 86, 3) := by decide +kernel
theorem dX11_lasts_5 : decode cX11_lasts 5 = .ok (.aload_n 0, 1) := by decide +kernel
theorem dX11_lasts_6 : decode cX11_lasts 6 = .ok (.iload_n 1, 1) := by decide +kernel
theorem dX11_lasts_7 : decode cX11_lasts 7 = .ok (.invokevirtual 134, 3) := by decide +kernel
theorem dX11_lasts_10 : decode cX11_lasts 10 = .ok (.ifCond .ne 5, 3) := by decide +kernel
theorem dX11_lasts_13 : decode cX11_lasts 13 = .ok (.iconst (-1), 1) := by decide +kernel
theorem dX11_lasts_14 : decode cX11_lasts 14 = .ok (.ireturn, 1) := by decide +kernel
theorem dX11_lasts_15 : decode cX11_lasts 15 = .ok (.iconst 0, 1) := by decide +kernel
theorem dX11_lasts_16 : decode cX11_lasts 16 = .ok (.istore_n 2, 1) := by decide +kernel
theorem dX11_lasts_17 : decode cX11_lasts 17 = .ok (.iconst 0, 1) := by decide +kernel
theorem dX11_lasts_18 : decode cX11_lasts 18 = .ok (.istore_n 3, 1) := by decide +kernel
theorem dX11_lasts_19 : decode cX11_lasts 19 = .ok (.iload_n 3, 1) := by decide +kernel
theorem dX11_lasts_20 : decode cX11_lasts 20 = .ok (.aload_n 0, 1) := by decide +kernel
theorem dX11_lasts_21 : decode cX11_lasts 21 = .ok (.getfield 119, 3) := by decide +kernel
theorem dX11_lasts_24 : decode cX11_lasts 24 = .ok (.if_icmp .ge 26, 3) := by decide +kernel
theorem dX11_lasts_27 : decode cX11_lasts 27 = .ok (.aload_n 0, 1) := by decide +kernel
theorem dX11_lasts_28 : decode cX11_lasts 28 = .ok (.iload_n 3, 1) := by decide +kernel
theorem dX11_lasts_29 : decode cX11_lasts 29 = .ok (.iload_n 1, 1) := by decide +kernel
theorem dX11_lasts_30 : decode cX11_lasts 30 = .ok (.invokevirtual 313, 3) := by decide +kernel
theorem dX11_lasts_33 : decode cX11_lasts 33 = .ok (.ifCond .le 11, 3) := by decide +kernel
theorem dX11_lasts_36 : decode cX11_lasts 36 = .ok (.iload_n 2, 1) := by decide +kernel
theorem dX11_lasts_37 : decode cX11_lasts 37 = .ok (.aload_n 0, 1) := by decide +kernel
theorem dX11_lasts_38 : decode cX11_lasts 38 = .ok (.iload_n 3, 1) := by decide +kernel
theorem dX11_lasts_39 : decode cX11_lasts 39 = .ok (.invokevirtual 363, 3) := by decide +kernel
theorem dX11_lasts_42 : decode cX11_lasts 42 = .ok (.iadd, 1) := by decide +kernel
theorem dX11_lasts_43 : decode cX11_lasts 43 = .ok (.istore_n 2, 1) := by decide +kernel
theorem dX11_lasts_44 : decode cX11_lasts 44 = .ok (.iinc 3 1, 3) := by decide +kernel
theorem dX11_lasts_47 : decode cX11_lasts 47 = .ok (.goto (-28), 3) := by decide +kernel
theorem dX11_lasts_50 : decode cX11_lasts 50 = .ok (.iload_n 2, 1) := by decide +kernel
theorem dX11_lasts_51 : decode cX11_lasts 51 = .ok (.ifCond .ne 7, 3) := by decide +kernel
theorem dX11_lasts_54 : decode cX11_lasts 54 = .ok (.iconst (-1), 1) := by decide +kernel
theorem dX11_lasts_55 : decode cX11_lasts 55 = .ok (.goto 18, 3) := by decide +kernel
theorem dX11_lasts_58 : decode cX11_lasts 58 = .ok (.aload_n 0, 1) := by decide +kernel
theorem dX11_lasts_59 : decode cX11_lasts 59 = .ok (.getfield 7, 3) := by decide +kernel
theorem dX11_lasts_62 : decode cX11_lasts 62 = .ok (.bipush 15, 2) := by decide +kernel
theorem dX11_lasts_64 : decode cX11_lasts 64 = .ok (.iload_n 1, 1) := by decide +kernel
theorem dX11_lasts_65 : decode cX11_lasts 65 = .ok (.iadd, 1) := by decide +kernel
theorem dX11_lasts_66 : decode cX11_lasts 66 = .ok (.iaload, 1) := by decide +kernel
theorem dX11_lasts_67 : decode cX11_lasts 67 = .ok (.iload_n 2, 1) := by decide +kernel
theorem dX11_lasts_68 : decode cX11_lasts 68 = .ok (.iadd, 1) := by decide +kernel
theorem dX11_lasts_69 : decode cX11_lasts 69 = .ok (.iconst 1, 1) := by decide +kernel
theorem dX11_lasts_70 : decode cX11_lasts 70 = .ok (.isub, 1) := by decide +kernel
theorem dX11_lasts_71 : decode cX11_lasts 71 = .ok (.iload_n 2, 1) := by decide +kernel
theorem dX11_lasts_72 : decode cX11_lasts 72 = .ok (.idiv, 1) := by decide +kernel
theorem dX11_lasts_73 : decode cX11_lasts 73 = .ok (.ireturn, 1) := by decide +kernel
theorem dX11_meets_0 : decode cX11_meets 0 = .ok (.aload_n 0, 1) := by decide +kernel
theorem dX11_meets_1 : decode cX11_meets 1 = .ok (.iconst 0, 1) := by decide +kernel
theorem dX11_meets_2 : decode cX11_meets 2 = .ok (.putfield 86, 3) := by decide +kernel
theorem dX11_meets_5 : decode cX11_meets 5 = .ok (.aload_n 0, 1) := by decide +kernel
theorem dX11_meets_6 : decode cX11_meets 6 = .ok (.iload_n 1, 1) := by decide +kernel
theorem dX11_meets_7 : decode cX11_meets 7 = .ok (.invokevirtual 130, 3) := by decide +kernel
theorem dX11_meets_10 : decode cX11_meets 10 = .ok (.ifCond .eq 25, 3) := by decide +kernel
theorem dX11_meets_13 : decode cX11_meets 13 = .ok (.aload_n 0, 1) := by decide +kernel
theorem dX11_meets_14 : decode cX11_meets 14 = .ok (.iload_n 2, 1) := by decide +kernel
theorem dX11_meets_15 : decode cX11_meets 15 = .ok (.invokevirtual 130, 3) := by decide +kernel
theorem dX11_meets_18 : decode cX11_meets 18 = .ok (.ifCond .eq 17, 3) := by decide +kernel
theorem dX11_meets_21 : decode cX11_meets 21 = .ok (.aload_n 0, 1) := by decide +kernel
theorem dX11_meets_22 : decode cX11_meets 22 = .ok (.iload_n 1, 1) := by decide +kernel
theorem dX11_meets_23 : decode cX11_meets 23 = .ok (.invokevirtual 426, 3) := by decide +kernel
theorem dX11_meets_26 : decode cX11_meets 26 = .ok (.aload_n 0, 1) := by decide +kernel
theorem dX11_meets_27 : decode cX11_meets 27 = .ok (.iload_n 2, 1) := by decide +kernel
theorem dX11_meets_28 : decode cX11_meets 28 = .ok (.invokevirtual 426, 3) := by decide +kernel
theorem dX11_meets_31 : decode cX11_meets 31 = .ok (.iand, 1) := by decide +kernel
theorem dX11_meets_32 : decode cX11_meets 32 = .ok (.goto 4, 3) := by decide +kernel
theorem dX11_meets_35 : decode cX11_meets 35 = .ok (.iconst (-1), 1) := by decide +kernel
theorem dX11_meets_36 : decode cX11_meets 36 = .ok (.ireturn, 1) := by decide +kernel
theorem dX11_game_0 : decode cX11_game 0 = .ok (.aload_n 0, 1) := by decide +kernel
theorem dX11_game_1 : decode cX11_game 1 = .ok (.iconst 0, 1) := by decide +kernel
theorem dX11_game_2 : decode cX11_game 2 = .ok (.putfield 86, 3) := by decide +kernel
theorem dX11_game_5 : decode cX11_game 5 = .ok (.aload_n 0, 1) := by decide +kernel
theorem dX11_game_6 : decode cX11_game 6 = .ok (.iload_n 1, 1) := by decide +kernel
theorem dX11_game_7 : decode cX11_game 7 = .ok (.iconst 0, 1) := by decide +kernel
theorem dX11_game_8 : decode cX11_game 8 = .ok (.iconst 1, 1) := by decide +kernel
theorem dX11_game_9 : decode cX11_game 9 = .ok (.invokevirtual 126, 3) := by decide +kernel
theorem dX11_game_12 : decode cX11_game 12 = .ok (.ifCond .ne 5, 3) := by decide +kernel
theorem dX11_game_15 : decode cX11_game 15 = .ok (.iconst (-1), 1) := by decide +kernel
theorem dX11_game_16 : decode cX11_game 16 = .ok (.ireturn, 1) := by decide +kernel
theorem dX11_game_17 : decode cX11_game 17 = .ok (.iconst 0, 1) := by decide +kernel
theorem dX11_game_18 : decode cX11_game 18 = .ok (.istore_n 2, 1) := by decide +kernel
theorem dX11_game_19 : decode cX11_game 19 = .ok (.iconst 0, 1) := by decide +kernel
theorem dX11_game_20 : decode cX11_game 20 = .ok (.istore_n 3, 1) := by decide +kernel
theorem dX11_game_21 : decode cX11_game 21 = .ok (.iload_n 3, 1) := by decide +kernel
theorem dX11_game_22 : decode cX11_game 22 = .ok (.aload_n 0, 1) := by decide +kernel
theorem dX11_game_23 : decode cX11_game 23 = .ok (.getfield 7, 3) := by decide +kernel
theorem dX11_game_26 : decode cX11_game 26 = .ok (.iconst 4, 1) := by decide +kernel
theorem dX11_game_27 : decode cX11_game 27 = .ok (.iaload, 1) := by decide +kernel
theorem dX11_game_28 : decode cX11_game 28 = .ok (.if_icmp .ge 23, 3) := by decide +kernel
theorem dX11_game_31 : decode cX11_game 31 = .ok (.iload_n 2, 1) := by decide +kernel
theorem dX11_game_32 : decode cX11_game 32 = .ok (.aload_n 0, 1) := by decide +kernel
theorem dX11_game_33 : decode cX11_game 33 = .ok (.getfield 7, 3) := by decide +kernel
theorem dX11_game_36 : decode cX11_game 36 = .ok (.bipush 62, 2) := by decide +kernel
theorem dX11_game_38 : decode cX11_game 38 = .ok (.iload_n 3, 1) := by decide +kernel
theorem dX11_game_39 : decode cX11_game 39 = .ok (.iadd, 1) := by decide +kernel
theorem dX11_game_40 : decode cX11_game 40 = .ok (.iaload, 1) := by decide +kernel
theorem dX11_game_41 : decode cX11_game 41 = .ok (.iconst 4, 1) := by decide +kernel
theorem dX11_game_42 : decode cX11_game 42 = .ok (.irem, 1) := by decide +kernel
theorem dX11_game_43 : decode cX11_game 43 = .ok (.ixor, 1) := by decide +kernel
theorem dX11_game_44 : decode cX11_game 44 = .ok (.istore_n 2, 1) := by decide +kernel
theorem dX11_game_45 : decode cX11_game 45 = .ok (.iinc 3 1, 3) := by decide +kernel
theorem dX11_game_48 : decode cX11_game 48 = .ok (.goto (-27), 3) := by decide +kernel
theorem dX11_game_51 : decode cX11_game 51 = .ok (.iconst 0, 1) := by decide +kernel
theorem dX11_game_52 : decode cX11_game 52 = .ok (.istore_n 3, 1) := by decide +kernel
theorem dX11_game_53 : decode cX11_game 53 = .ok (.iload_n 3, 1) := by decide +kernel
theorem dX11_game_54 : decode cX11_game 54 = .ok (.aload_n 0, 1) := by decide +kernel
theorem dX11_game_55 : decode cX11_game 55 = .ok (.getfield 7, 3) := by decide +kernel
theorem dX11_game_58 : decode cX11_game 58 = .ok (.iconst 4, 1) := by decide +kernel
theorem dX11_game_59 : decode cX11_game 59 = .ok (.iaload, 1) := by decide +kernel
theorem dX11_game_60 : decode cX11_game 60 = .ok (.if_icmp .ge 69, 3) := by decide +kernel
theorem dX11_game_63 : decode cX11_game 63 = .ok (.aload_n 0, 1) := by decide +kernel
theorem dX11_game_64 : decode cX11_game 64 = .ok (.getfield 7, 3) := by decide +kernel
theorem dX11_game_67 : decode cX11_game 67 = .ok (.bipush 62, 2) := by decide +kernel
theorem dX11_game_69 : decode cX11_game 69 = .ok (.iload_n 3, 1) := by decide +kernel
theorem dX11_game_70 : decode cX11_game 70 = .ok (.iadd, 1) := by decide +kernel
theorem dX11_game_71 : decode cX11_game 71 = .ok (.iaload, 1) := by decide +kernel
theorem dX11_game_72 : decode cX11_game 72 = .ok (.istore 4, 2) := by decide +kernel
theorem dX11_game_74 : decode cX11_game 74 = .ok (.iconst 1, 1) := by decide +kernel
theorem dX11_game_75 : decode cX11_game 75 = .ok (.istore 5, 2) := by decide +kernel
theorem dX11_game_77 : decode cX11_game 77 = .ok (.iload 5, 2) := by decide +kernel
theorem dX11_game_79 : decode cX11_game 79 = .ok (.aload_n 0, 1) := by decide +kernel
theorem dX11_game_80 : decode cX11_game 80 = .ok (.iconst 3, 1) := by decide +kernel
theorem dX11_game_81 : decode cX11_game 81 = .ok (.iload 4, 2) := by decide +kernel
theorem dX11_game_83 : decode cX11_game 83 = .ok (.invokevirtual 323, 3) := by decide +kernel
theorem dX11_game_86 : decode cX11_game 86 = .ok (.if_icmp .gt 37, 3) := by decide +kernel
theorem dX11_game_89 : decode cX11_game 89 = .ok (.iload_n 2, 1) := by decide +kernel
theorem dX11_game_90 : decode cX11_game 90 = .ok (.iload 4, 2) := by decide +kernel
theorem dX11_game_92 : decode cX11_game 92 = .ok (.iconst 4, 1) := by decide +kernel
theorem dX11_game_93 : decode cX11_game 93 = .ok (.irem, 1) := by decide +kernel
theorem dX11_game_94 : decode cX11_game 94 = .ok (.ixor, 1) := by decide +kernel
theorem dX11_game_95 : decode cX11_game 95 = .ok (.iload 4, 2) := by decide +kernel
theorem dX11_game_97 : decode cX11_game 97 = .ok (.iload 5, 2) := by decide +kernel
theorem dX11_game_99 : decode cX11_game 99 = .ok (.isub, 1) := by decide +kernel
theorem dX11_game_100 : decode cX11_game 100 = .ok (.iconst 4, 1) := by decide +kernel
theorem dX11_game_101 : decode cX11_game 101 = .ok (.irem, 1) := by decide +kernel
theorem dX11_game_102 : decode cX11_game 102 = .ok (.ixor, 1) := by decide +kernel
theorem dX11_game_103 : decode cX11_game 103 = .ok (.ifCond .ne 14, 3) := by decide +kernel
theorem dX11_game_106 : decode cX11_game 106 = .ok (.iload_n 1, 1) := by decide +kernel
theorem dX11_game_107 : decode cX11_game 107 = .ok (.ifCond .ne 7, 3) := by decide +kernel
theorem dX11_game_110 : decode cX11_game 110 = .ok (.iload_n 3, 1) := by decide +kernel
theorem dX11_game_111 : decode cX11_game 111 = .ok (.goto 5, 3) := by decide +kernel
theorem dX11_game_114 : decode cX11_game 114 = .ok (.iload 5, 2) := by decide +kernel
theorem dX11_game_116 : decode cX11_game 116 = .ok (.ireturn, 1) := by decide +kernel
theorem dX11_game_117 : decode cX11_game 117 = .ok (.iinc 5 1, 3) := by decide +kernel
theorem dX11_game_120 : decode cX11_game 120 = .ok (.goto (-43), 3) := by decide +kernel
theorem dX11_game_123 : decode cX11_game 123 = .ok (.iinc 3 1, 3) := by decide +kernel
theorem dX11_game_126 : decode cX11_game 126 = .ok (.goto (-73), 3) := by decide +kernel
theorem dX11_game_129 : decode cX11_game 129 = .ok (.iconst (-1), 1) := by decide +kernel
theorem dX11_game_130 : decode cX11_game 130 = .ok (.ireturn, 1) := by decide +kernel
theorem dX11_keeps_0 : decode cX11_keeps 0 = .ok (.aload_n 0, 1) := by decide +kernel
theorem dX11_keeps_1 : decode cX11_keeps 1 = .ok (.aload_n 0, 1) := by decide +kernel
theorem dX11_keeps_2 : decode cX11_keeps 2 = .ok (.getfield 452, 3) := by decide +kernel
theorem dX11_keeps_5 : decode cX11_keeps 5 = .ok (.iconst 1, 1) := by decide +kernel
theorem dX11_keeps_6 : decode cX11_keeps 6 = .ok (.iadd, 1) := by decide +kernel
theorem dX11_keeps_7 : decode cX11_keeps 7 = .ok (.putfield 452, 3) := by decide +kernel
theorem dX11_keeps_10 : decode cX11_keeps 10 = .ok (.aload_n 0, 1) := by decide +kernel
theorem dX11_keeps_11 : decode cX11_keeps 11 = .ok (.getfield 455, 3) := by decide +kernel
theorem dX11_keeps_14 : decode cX11_keeps 14 = .ok (.ifCond .ne 15, 3) := by decide +kernel
theorem dX11_keeps_17 : decode cX11_keeps 17 = .ok (.aload_n 0, 1) := by decide +kernel
theorem dX11_keeps_18 : decode cX11_keeps 18 = .ok (.getfield 83, 3) := by decide +kernel
theorem dX11_keeps_21 : decode cX11_keeps 21 = .ok (.aload_n 0, 1) := by decide +kernel
theorem dX11_keeps_22 : decode cX11_keeps 22 = .ok (.getfield 452, 3) := by decide +kernel
theorem dX11_keeps_25 : decode cX11_keeps 25 = .ok (.iconst 1, 1) := by decide +kernel
theorem dX11_keeps_26 : decode cX11_keeps 26 = .ok (.isub, 1) := by decide +kernel
theorem dX11_keeps_27 : decode cX11_keeps 27 = .ok (.iaload, 1) := by decide +kernel
theorem dX11_keeps_28 : decode cX11_keeps 28 = .ok (.ireturn, 1) := by decide +kernel
theorem dX11_keeps_29 : decode cX11_keeps 29 = .ok (.aload_n 0, 1) := by decide +kernel
theorem dX11_keeps_30 : decode cX11_keeps 30 = .ok (.getfield 83, 3) := by decide +kernel
theorem dX11_keeps_33 : decode cX11_keeps 33 = .ok (.aload_n 0, 1) := by decide +kernel
theorem dX11_keeps_34 : decode cX11_keeps 34 = .ok (.getfield 452, 3) := by decide +kernel
theorem dX11_keeps_37 : decode cX11_keeps 37 = .ok (.iconst 1, 1) := by decide +kernel
theorem dX11_keeps_38 : decode cX11_keeps 38 = .ok (.isub, 1) := by decide +kernel
theorem dX11_keeps_39 : decode cX11_keeps 39 = .ok (.iload_n 1, 1) := by decide +kernel
theorem dX11_keeps_40 : decode cX11_keeps 40 = .ok (.iastore, 1) := by decide +kernel
theorem dX11_keeps_41 : decode cX11_keeps 41 = .ok (.iload_n 1, 1) := by decide +kernel
theorem dX11_keeps_42 : decode cX11_keeps 42 = .ok (.ireturn, 1) := by decide +kernel
theorem dX11_keepsLaw_0 : decode cX11_keepsLaw 0 = .ok (.aload_n 0, 1) := by decide +kernel
theorem dX11_keepsLaw_1 : decode cX11_keepsLaw 1 = .ok (.getfield 28, 3) := by decide +kernel
theorem dX11_keepsLaw_4 : decode cX11_keepsLaw 4 = .ok (.iconst 0, 1) := by decide +kernel
theorem dX11_keepsLaw_5 : decode cX11_keepsLaw 5 = .ok (.aload_n 0, 1) := by decide +kernel
theorem dX11_keepsLaw_6 : decode cX11_keepsLaw 6 = .ok (.aload_n 0, 1) := by decide +kernel
theorem dX11_keepsLaw_7 : decode cX11_keepsLaw 7 = .ok (.getfield 28, 3) := by decide +kernel
theorem dX11_keepsLaw_10 : decode cX11_keepsLaw 10 = .ok (.iconst 0, 1) := by decide +kernel
theorem dX11_keepsLaw_11 : decode cX11_keepsLaw 11 = .ok (.iaload, 1) := by decide +kernel
theorem dX11_keepsLaw_12 : decode cX11_keepsLaw 12 = .ok (.invokevirtual 458, 3) := by decide +kernel
theorem dX11_keepsLaw_15 : decode cX11_keepsLaw 15 = .ok (.iastore, 1) := by decide +kernel
theorem dX11_keepsLaw_16 : decode cX11_keepsLaw 16 = .ok (.iconst 0, 1) := by decide +kernel
theorem dX11_keepsLaw_17 : decode cX11_keepsLaw 17 = .ok (.istore_n 1, 1) := by decide +kernel
theorem dX11_keepsLaw_18 : decode cX11_keepsLaw 18 = .ok (.iload_n 1, 1) := by decide +kernel
theorem dX11_keepsLaw_19 : decode cX11_keepsLaw 19 = .ok (.bipush 16, 2) := by decide +kernel
theorem dX11_keepsLaw_21 : decode cX11_keepsLaw 21 = .ok (.if_icmp .ge 73, 3) := by decide +kernel
theorem dX11_keepsLaw_24 : decode cX11_keepsLaw 24 = .ok (.aload_n 0, 1) := by decide +kernel
theorem dX11_keepsLaw_25 : decode cX11_keepsLaw 25 = .ok (.getfield 31, 3) := by decide +kernel
theorem dX11_keepsLaw_28 : decode cX11_keepsLaw 28 = .ok (.iload_n 1, 1) := by decide +kernel
theorem dX11_keepsLaw_29 : decode cX11_keepsLaw 29 = .ok (.aload_n 0, 1) := by decide +kernel
theorem dX11_keepsLaw_30 : decode cX11_keepsLaw 30 = .ok (.aload_n 0, 1) := by decide +kernel
theorem dX11_keepsLaw_31 : decode cX11_keepsLaw 31 = .ok (.getfield 31, 3) := by decide +kernel
theorem dX11_keepsLaw_34 : decode cX11_keepsLaw 34 = .ok (.iload_n 1, 1) := by decide +kernel
theorem dX11_keepsLaw_35 : decode cX11_keepsLaw 35 = .ok (.iaload, 1) := by decide +kernel
theorem dX11_keepsLaw_36 : decode cX11_keepsLaw 36 = .ok (.invokevirtual 458, 3) := by decide +kernel
theorem dX11_keepsLaw_39 : decode cX11_keepsLaw 39 = .ok (.iastore, 1) := by decide +kernel
theorem dX11_keepsLaw_40 : decode cX11_keepsLaw 40 = .ok (.aload_n 0, 1) := by decide +kernel
theorem dX11_keepsLaw_41 : decode cX11_keepsLaw 41 = .ok (.getfield 34, 3) := by decide +kernel
theorem dX11_keepsLaw_44 : decode cX11_keepsLaw 44 = .ok (.iload_n 1, 1) := by decide +kernel
theorem dX11_keepsLaw_45 : decode cX11_keepsLaw 45 = .ok (.aload_n 0, 1) := by decide +kernel
theorem dX11_keepsLaw_46 : decode cX11_keepsLaw 46 = .ok (.aload_n 0, 1) := by decide +kernel
theorem dX11_keepsLaw_47 : decode cX11_keepsLaw 47 = .ok (.getfield 34, 3) := by decide +kernel
theorem dX11_keepsLaw_50 : decode cX11_keepsLaw 50 = .ok (.iload_n 1, 1) := by decide +kernel
theorem dX11_keepsLaw_51 : decode cX11_keepsLaw 51 = .ok (.iaload, 1) := by decide +kernel
theorem dX11_keepsLaw_52 : decode cX11_keepsLaw 52 = .ok (.invokevirtual 458, 3) := by decide +kernel
theorem dX11_keepsLaw_55 : decode cX11_keepsLaw 55 = .ok (.iastore, 1) := by decide +kernel
theorem dX11_keepsLaw_56 : decode cX11_keepsLaw 56 = .ok (.aload_n 0, 1) := by decide +kernel
theorem dX11_keepsLaw_57 : decode cX11_keepsLaw 57 = .ok (.getfield 37, 3) := by decide +kernel
theorem dX11_keepsLaw_60 : decode cX11_keepsLaw 60 = .ok (.iload_n 1, 1) := by decide +kernel
theorem dX11_keepsLaw_61 : decode cX11_keepsLaw 61 = .ok (.aload_n 0, 1) := by decide +kernel
theorem dX11_keepsLaw_62 : decode cX11_keepsLaw 62 = .ok (.aload_n 0, 1) := by decide +kernel
theorem dX11_keepsLaw_63 : decode cX11_keepsLaw 63 = .ok (.getfield 37, 3) := by decide +kernel
theorem dX11_keepsLaw_66 : decode cX11_keepsLaw 66 = .ok (.iload_n 1, 1) := by decide +kernel
theorem dX11_keepsLaw_67 : decode cX11_keepsLaw 67 = .ok (.iaload, 1) := by decide +kernel
theorem dX11_keepsLaw_68 : decode cX11_keepsLaw 68 = .ok (.invokevirtual 458, 3) := by decide +kernel
theorem dX11_keepsLaw_71 : decode cX11_keepsLaw 71 = .ok (.iastore, 1) := by decide +kernel
theorem dX11_keepsLaw_72 : decode cX11_keepsLaw 72 = .ok (.aload_n 0, 1) := by decide +kernel
theorem dX11_keepsLaw_73 : decode cX11_keepsLaw 73 = .ok (.getfield 40, 3) := by decide +kernel
theorem dX11_keepsLaw_76 : decode cX11_keepsLaw 76 = .ok (.iload_n 1, 1) := by decide +kernel
theorem dX11_keepsLaw_77 : decode cX11_keepsLaw 77 = .ok (.aload_n 0, 1) := by decide +kernel
theorem dX11_keepsLaw_78 : decode cX11_keepsLaw 78 = .ok (.aload_n 0, 1) := by decide +kernel
theorem dX11_keepsLaw_79 : decode cX11_keepsLaw 79 = .ok (.getfield 40, 3) := by decide +kernel
theorem dX11_keepsLaw_82 : decode cX11_keepsLaw 82 = .ok (.iload_n 1, 1) := by decide +kernel
theorem dX11_keepsLaw_83 : decode cX11_keepsLaw 83 = .ok (.iaload, 1) := by decide +kernel
theorem dX11_keepsLaw_84 : decode cX11_keepsLaw 84 = .ok (.invokevirtual 458, 3) := by decide +kernel
theorem dX11_keepsLaw_87 : decode cX11_keepsLaw 87 = .ok (.iastore, 1) := by decide +kernel
theorem dX11_keepsLaw_88 : decode cX11_keepsLaw 88 = .ok (.iinc 1 1, 3) := by decide +kernel
theorem dX11_keepsLaw_91 : decode cX11_keepsLaw 91 = .ok (.goto (-73), 3) := by decide +kernel
theorem dX11_keepsLaw_94 : decode cX11_keepsLaw 94 = .ok (.iconst 0, 1) := by decide +kernel
theorem dX11_keepsLaw_95 : decode cX11_keepsLaw 95 = .ok (.istore_n 1, 1) := by decide +kernel
theorem dX11_keepsLaw_96 : decode cX11_keepsLaw 96 = .ok (.iload_n 1, 1) := by decide +kernel
theorem dX11_keepsLaw_97 : decode cX11_keepsLaw 97 = .ok (.sipush 400, 3) := by decide +kernel
theorem dX11_keepsLaw_100 : decode cX11_keepsLaw 100 = .ok (.if_icmp .ge 41, 3) := by decide +kernel
theorem dX11_keepsLaw_103 : decode cX11_keepsLaw 103 = .ok (.aload_n 0, 1) := by decide +kernel
theorem dX11_keepsLaw_104 : decode cX11_keepsLaw 104 = .ok (.getfield 43, 3) := by decide +kernel
theorem dX11_keepsLaw_107 : decode cX11_keepsLaw 107 = .ok (.iload_n 1, 1) := by decide +kernel
theorem dX11_keepsLaw_108 : decode cX11_keepsLaw 108 = .ok (.aload_n 0, 1) := by decide +kernel
theorem dX11_keepsLaw_109 : decode cX11_keepsLaw 109 = .ok (.aload_n 0, 1) := by decide +kernel
theorem dX11_keepsLaw_110 : decode cX11_keepsLaw 110 = .ok (.getfield 43, 3) := by decide +kernel
theorem dX11_keepsLaw_113 : decode cX11_keepsLaw 113 = .ok (.iload_n 1, 1) := by decide +kernel
theorem dX11_keepsLaw_114 : decode cX11_keepsLaw 114 = .ok (.iaload, 1) := by decide +kernel
theorem dX11_keepsLaw_115 : decode cX11_keepsLaw 115 = .ok (.invokevirtual 458, 3) := by decide +kernel
theorem dX11_keepsLaw_118 : decode cX11_keepsLaw 118 = .ok (.iastore, 1) := by decide +kernel
theorem dX11_keepsLaw_119 : decode cX11_keepsLaw 119 = .ok (.aload_n 0, 1) := by decide +kernel
theorem dX11_keepsLaw_120 : decode cX11_keepsLaw 120 = .ok (.getfield 46, 3) := by decide +kernel
theorem dX11_keepsLaw_123 : decode cX11_keepsLaw 123 = .ok (.iload_n 1, 1) := by decide +kernel
theorem dX11_keepsLaw_124 : decode cX11_keepsLaw 124 = .ok (.aload_n 0, 1) := by decide +kernel
theorem dX11_keepsLaw_125 : decode cX11_keepsLaw 125 = .ok (.aload_n 0, 1) := by decide +kernel
theorem dX11_keepsLaw_126 : decode cX11_keepsLaw 126 = .ok (.getfield 46, 3) := by decide +kernel
theorem dX11_keepsLaw_129 : decode cX11_keepsLaw 129 = .ok (.iload_n 1, 1) := by decide +kernel
theorem dX11_keepsLaw_130 : decode cX11_keepsLaw 130 = .ok (.iaload, 1) := by decide +kernel
theorem dX11_keepsLaw_131 : decode cX11_keepsLaw 131 = .ok (.invokevirtual 458, 3) := by decide +kernel
theorem dX11_keepsLaw_134 : decode cX11_keepsLaw 134 = .ok (.iastore, 1) := by decide +kernel
theorem dX11_keepsLaw_135 : decode cX11_keepsLaw 135 = .ok (.iinc 1 1, 3) := by decide +kernel
theorem dX11_keepsLaw_138 : decode cX11_keepsLaw 138 = .ok (.goto (-42), 3) := by decide +kernel
theorem dX11_keepsLaw_141 : decode cX11_keepsLaw 141 = .ok (.return_, 1) := by decide +kernel
theorem dX11_keepsTold_0 : decode cX11_keepsTold 0 = .ok (.aload_n 0, 1) := by decide +kernel
theorem dX11_keepsTold_1 : decode cX11_keepsTold 1 = .ok (.aload_n 0, 1) := by decide +kernel
theorem dX11_keepsTold_2 : decode cX11_keepsTold 2 = .ok (.aload_n 0, 1) := by decide +kernel
theorem dX11_keepsTold_3 : decode cX11_keepsTold 3 = .ok (.getfield 116, 3) := by decide +kernel
theorem dX11_keepsTold_6 : decode cX11_keepsTold 6 = .ok (.invokevirtual 458, 3) := by decide +kernel
theorem dX11_keepsTold_9 : decode cX11_keepsTold 9 = .ok (.putfield 116, 3) := by decide +kernel
theorem dX11_keepsTold_12 : decode cX11_keepsTold 12 = .ok (.aload_n 0, 1) := by decide +kernel
theorem dX11_keepsTold_13 : decode cX11_keepsTold 13 = .ok (.aload_n 0, 1) := by decide +kernel
theorem dX11_keepsTold_14 : decode cX11_keepsTold 14 = .ok (.aload_n 0, 1) := by decide +kernel
theorem dX11_keepsTold_15 : decode cX11_keepsTold 15 = .ok (.getfield 119, 3) := by decide +kernel
theorem dX11_keepsTold_18 : decode cX11_keepsTold 18 = .ok (.invokevirtual 458, 3) := by decide +kernel
theorem dX11_keepsTold_21 : decode cX11_keepsTold 21 = .ok (.putfield 119, 3) := by decide +kernel
theorem dX11_keepsTold_24 : decode cX11_keepsTold 24 = .ok (.aload_n 0, 1) := by decide +kernel
theorem dX11_keepsTold_25 : decode cX11_keepsTold 25 = .ok (.aload_n 0, 1) := by decide +kernel
theorem dX11_keepsTold_26 : decode cX11_keepsTold 26 = .ok (.aload_n 0, 1) := by decide +kernel
theorem dX11_keepsTold_27 : decode cX11_keepsTold 27 = .ok (.getfield 147, 3) := by decide +kernel
theorem dX11_keepsTold_30 : decode cX11_keepsTold 30 = .ok (.invokevirtual 458, 3) := by decide +kernel
theorem dX11_keepsTold_33 : decode cX11_keepsTold 33 = .ok (.putfield 147, 3) := by decide +kernel
theorem dX11_keepsTold_36 : decode cX11_keepsTold 36 = .ok (.aload_n 0, 1) := by decide +kernel
theorem dX11_keepsTold_37 : decode cX11_keepsTold 37 = .ok (.aload_n 0, 1) := by decide +kernel
theorem dX11_keepsTold_38 : decode cX11_keepsTold 38 = .ok (.aload_n 0, 1) := by decide +kernel
theorem dX11_keepsTold_39 : decode cX11_keepsTold 39 = .ok (.getfield 150, 3) := by decide +kernel
theorem dX11_keepsTold_42 : decode cX11_keepsTold 42 = .ok (.invokevirtual 458, 3) := by decide +kernel
theorem dX11_keepsTold_45 : decode cX11_keepsTold 45 = .ok (.putfield 150, 3) := by decide +kernel
theorem dX11_keepsTold_48 : decode cX11_keepsTold 48 = .ok (.aload_n 0, 1) := by decide +kernel
theorem dX11_keepsTold_49 : decode cX11_keepsTold 49 = .ok (.aload_n 0, 1) := by decide +kernel
theorem dX11_keepsTold_50 : decode cX11_keepsTold 50 = .ok (.aload_n 0, 1) := by decide +kernel
theorem dX11_keepsTold_51 : decode cX11_keepsTold 51 = .ok (.getfield 110, 3) := by decide +kernel
theorem dX11_keepsTold_54 : decode cX11_keepsTold 54 = .ok (.invokevirtual 458, 3) := by decide +kernel
theorem dX11_keepsTold_57 : decode cX11_keepsTold 57 = .ok (.putfield 110, 3) := by decide +kernel
theorem dX11_keepsTold_60 : decode cX11_keepsTold 60 = .ok (.aload_n 0, 1) := by decide +kernel
theorem dX11_keepsTold_61 : decode cX11_keepsTold 61 = .ok (.aload_n 0, 1) := by decide +kernel
theorem dX11_keepsTold_62 : decode cX11_keepsTold 62 = .ok (.aload_n 0, 1) := by decide +kernel
theorem dX11_keepsTold_63 : decode cX11_keepsTold 63 = .ok (.getfield 113, 3) := by decide +kernel
theorem dX11_keepsTold_66 : decode cX11_keepsTold 66 = .ok (.invokevirtual 458, 3) := by decide +kernel
theorem dX11_keepsTold_69 : decode cX11_keepsTold 69 = .ok (.putfield 113, 3) := by decide +kernel
theorem dX11_keepsTold_72 : decode cX11_keepsTold 72 = .ok (.aload_n 0, 1) := by decide +kernel
theorem dX11_keepsTold_73 : decode cX11_keepsTold 73 = .ok (.aload_n 0, 1) := by decide +kernel
theorem dX11_keepsTold_74 : decode cX11_keepsTold 74 = .ok (.aload_n 0, 1) := by decide +kernel
theorem dX11_keepsTold_75 : decode cX11_keepsTold 75 = .ok (.getfield 279, 3) := by decide +kernel
theorem dX11_keepsTold_78 : decode cX11_keepsTold 78 = .ok (.invokevirtual 458, 3) := by decide +kernel
theorem dX11_keepsTold_81 : decode cX11_keepsTold 81 = .ok (.putfield 279, 3) := by decide +kernel
theorem dX11_keepsTold_84 : decode cX11_keepsTold 84 = .ok (.aload_n 0, 1) := by decide +kernel
theorem dX11_keepsTold_85 : decode cX11_keepsTold 85 = .ok (.aload_n 0, 1) := by decide +kernel
theorem dX11_keepsTold_86 : decode cX11_keepsTold 86 = .ok (.aload_n 0, 1) := by decide +kernel
theorem dX11_keepsTold_87 : decode cX11_keepsTold 87 = .ok (.getfield 282, 3) := by decide +kernel
theorem dX11_keepsTold_90 : decode cX11_keepsTold 90 = .ok (.invokevirtual 458, 3) := by decide +kernel
theorem dX11_keepsTold_93 : decode cX11_keepsTold 93 = .ok (.putfield 282, 3) := by decide +kernel
theorem dX11_keepsTold_96 : decode cX11_keepsTold 96 = .ok (.aload_n 0, 1) := by decide +kernel
theorem dX11_keepsTold_97 : decode cX11_keepsTold 97 = .ok (.aload_n 0, 1) := by decide +kernel
theorem dX11_keepsTold_98 : decode cX11_keepsTold 98 = .ok (.aload_n 0, 1) := by decide +kernel
theorem dX11_keepsTold_99 : decode cX11_keepsTold 99 = .ok (.getfield 435, 3) := by decide +kernel
theorem dX11_keepsTold_102 : decode cX11_keepsTold 102 = .ok (.invokevirtual 458, 3) := by decide +kernel
theorem dX11_keepsTold_105 : decode cX11_keepsTold 105 = .ok (.putfield 435, 3) := by decide +kernel
theorem dX11_keepsTold_108 : decode cX11_keepsTold 108 = .ok (.iconst 0, 1) := by decide +kernel
theorem dX11_keepsTold_109 : decode cX11_keepsTold 109 = .ok (.istore_n 1, 1) := by decide +kernel
theorem dX11_keepsTold_110 : decode cX11_keepsTold 110 = .ok (.iload_n 1, 1) := by decide +kernel
theorem dX11_keepsTold_111 : decode cX11_keepsTold 111 = .ok (.bipush 16, 2) := by decide +kernel
theorem dX11_keepsTold_113 : decode cX11_keepsTold 113 = .ok (.if_icmp .ge 25, 3) := by decide +kernel
theorem dX11_keepsTold_116 : decode cX11_keepsTold 116 = .ok (.aload_n 0, 1) := by decide +kernel
theorem dX11_keepsTold_117 : decode cX11_keepsTold 117 = .ok (.getfield 74, 3) := by decide +kernel
theorem dX11_keepsTold_120 : decode cX11_keepsTold 120 = .ok (.iload_n 1, 1) := by decide +kernel
theorem dX11_keepsTold_121 : decode cX11_keepsTold 121 = .ok (.aload_n 0, 1) := by decide +kernel
theorem dX11_keepsTold_122 : decode cX11_keepsTold 122 = .ok (.aload_n 0, 1) := by decide +kernel
theorem dX11_keepsTold_123 : decode cX11_keepsTold 123 = .ok (.getfield 74, 3) := by decide +kernel
theorem dX11_keepsTold_126 : decode cX11_keepsTold 126 = .ok (.iload_n 1, 1) := by decide +kernel
theorem dX11_keepsTold_127 : decode cX11_keepsTold 127 = .ok (.iaload, 1) := by decide +kernel
theorem dX11_keepsTold_128 : decode cX11_keepsTold 128 = .ok (.invokevirtual 458, 3) := by decide +kernel
theorem dX11_keepsTold_131 : decode cX11_keepsTold 131 = .ok (.iastore, 1) := by decide +kernel
theorem dX11_keepsTold_132 : decode cX11_keepsTold 132 = .ok (.iinc 1 1, 3) := by decide +kernel
theorem dX11_keepsTold_135 : decode cX11_keepsTold 135 = .ok (.goto (-25), 3) := by decide +kernel
theorem dX11_keepsTold_138 : decode cX11_keepsTold 138 = .ok (.iconst 0, 1) := by decide +kernel
theorem dX11_keepsTold_139 : decode cX11_keepsTold 139 = .ok (.istore_n 1, 1) := by decide +kernel
theorem dX11_keepsTold_140 : decode cX11_keepsTold 140 = .ok (.iload_n 1, 1) := by decide +kernel
theorem dX11_keepsTold_141 : decode cX11_keepsTold 141 = .ok (.bipush 90, 2) := by decide +kernel
theorem dX11_keepsTold_143 : decode cX11_keepsTold 143 = .ok (.if_icmp .ge 25, 3) := by decide +kernel
theorem dX11_keepsTold_146 : decode cX11_keepsTold 146 = .ok (.aload_n 0, 1) := by decide +kernel
theorem dX11_keepsTold_147 : decode cX11_keepsTold 147 = .ok (.getfield 56, 3) := by decide +kernel
theorem dX11_keepsTold_150 : decode cX11_keepsTold 150 = .ok (.iload_n 1, 1) := by decide +kernel
theorem dX11_keepsTold_151 : decode cX11_keepsTold 151 = .ok (.aload_n 0, 1) := by decide +kernel
theorem dX11_keepsTold_152 : decode cX11_keepsTold 152 = .ok (.aload_n 0, 1) := by decide +kernel
theorem dX11_keepsTold_153 : decode cX11_keepsTold 153 = .ok (.getfield 56, 3) := by decide +kernel
theorem dX11_keepsTold_156 : decode cX11_keepsTold 156 = .ok (.iload_n 1, 1) := by decide +kernel
theorem dX11_keepsTold_157 : decode cX11_keepsTold 157 = .ok (.iaload, 1) := by decide +kernel
theorem dX11_keepsTold_158 : decode cX11_keepsTold 158 = .ok (.invokevirtual 458, 3) := by decide +kernel
theorem dX11_keepsTold_161 : decode cX11_keepsTold 161 = .ok (.iastore, 1) := by decide +kernel
theorem dX11_keepsTold_162 : decode cX11_keepsTold 162 = .ok (.iinc 1 1, 3) := by decide +kernel
theorem dX11_keepsTold_165 : decode cX11_keepsTold 165 = .ok (.goto (-25), 3) := by decide +kernel
theorem dX11_keepsTold_168 : decode cX11_keepsTold 168 = .ok (.iconst 0, 1) := by decide +kernel
theorem dX11_keepsTold_169 : decode cX11_keepsTold 169 = .ok (.istore_n 1, 1) := by decide +kernel
theorem dX11_keepsTold_170 : decode cX11_keepsTold 170 = .ok (.iload_n 1, 1) := by decide +kernel
theorem dX11_keepsTold_171 : decode cX11_keepsTold 171 = .ok (.bipush 64, 2) := by decide +kernel
theorem dX11_keepsTold_173 : decode cX11_keepsTold 173 = .ok (.if_icmp .ge 25, 3) := by decide +kernel
theorem dX11_keepsTold_176 : decode cX11_keepsTold 176 = .ok (.aload_n 0, 1) := by decide +kernel
theorem dX11_keepsTold_177 : decode cX11_keepsTold 177 = .ok (.getfield 59, 3) := by decide +kernel
theorem dX11_keepsTold_180 : decode cX11_keepsTold 180 = .ok (.iload_n 1, 1) := by decide +kernel
theorem dX11_keepsTold_181 : decode cX11_keepsTold 181 = .ok (.aload_n 0, 1) := by decide +kernel
theorem dX11_keepsTold_182 : decode cX11_keepsTold 182 = .ok (.aload_n 0, 1) := by decide +kernel
theorem dX11_keepsTold_183 : decode cX11_keepsTold 183 = .ok (.getfield 59, 3) := by decide +kernel
theorem dX11_keepsTold_186 : decode cX11_keepsTold 186 = .ok (.iload_n 1, 1) := by decide +kernel
theorem dX11_keepsTold_187 : decode cX11_keepsTold 187 = .ok (.iaload, 1) := by decide +kernel
theorem dX11_keepsTold_188 : decode cX11_keepsTold 188 = .ok (.invokevirtual 458, 3) := by decide +kernel
theorem dX11_keepsTold_191 : decode cX11_keepsTold 191 = .ok (.iastore, 1) := by decide +kernel
theorem dX11_keepsTold_192 : decode cX11_keepsTold 192 = .ok (.iinc 1 1, 3) := by decide +kernel
theorem dX11_keepsTold_195 : decode cX11_keepsTold 195 = .ok (.goto (-25), 3) := by decide +kernel
theorem dX11_keepsTold_198 : decode cX11_keepsTold 198 = .ok (.return_, 1) := by decide +kernel
theorem dX11_image_0 : decode cX11_image 0 = .ok (.aload_n 0, 1) := by decide +kernel
theorem dX11_image_1 : decode cX11_image 1 = .ok (.iconst 0, 1) := by decide +kernel
theorem dX11_image_2 : decode cX11_image 2 = .ok (.putfield 86, 3) := by decide +kernel
theorem dX11_image_5 : decode cX11_image 5 = .ok (.iload_n 1, 1) := by decide +kernel
theorem dX11_image_6 : decode cX11_image 6 = .ok (.ifCond .ne 12, 3) := by decide +kernel
theorem dX11_image_9 : decode cX11_image 9 = .ok (.aload_n 0, 1) := by decide +kernel
theorem dX11_image_10 : decode cX11_image 10 = .ok (.getfield 461, 3) := by decide +kernel
theorem dX11_image_13 : decode cX11_image 13 = .ok (.ifCond .ne 5, 3) := by decide +kernel
theorem dX11_image_16 : decode cX11_image 16 = .ok (.iconst 0, 1) := by decide +kernel
theorem dX11_image_17 : decode cX11_image 17 = .ok (.ireturn, 1) := by decide +kernel
theorem dX11_image_18 : decode cX11_image 18 = .ok (.aload_n 0, 1) := by decide +kernel
theorem dX11_image_19 : decode cX11_image 19 = .ok (.iload_n 1, 1) := by decide +kernel
theorem dX11_image_20 : decode cX11_image 20 = .ok (.putfield 455, 3) := by decide +kernel
theorem dX11_image_23 : decode cX11_image 23 = .ok (.aload_n 0, 1) := by decide +kernel
theorem dX11_image_24 : decode cX11_image 24 = .ok (.iconst 1, 1) := by decide +kernel
theorem dX11_image_25 : decode cX11_image 25 = .ok (.putfield 461, 3) := by decide +kernel
theorem dX11_image_28 : decode cX11_image 28 = .ok (.aload_n 0, 1) := by decide +kernel
theorem dX11_image_29 : decode cX11_image 29 = .ok (.iconst 0, 1) := by decide +kernel
theorem dX11_image_30 : decode cX11_image 30 = .ok (.putfield 452, 3) := by decide +kernel
theorem dX11_image_33 : decode cX11_image 33 = .ok (.iconst 0, 1) := by decide +kernel
theorem dX11_image_34 : decode cX11_image 34 = .ok (.istore_n 2, 1) := by decide +kernel
theorem dX11_image_35 : decode cX11_image 35 = .ok (.iload_n 2, 1) := by decide +kernel
theorem dX11_image_36 : decode cX11_image 36 = .ok (.sipush 136, 3) := by decide +kernel
theorem dX11_image_39 : decode cX11_image 39 = .ok (.if_icmp .ge 25, 3) := by decide +kernel
theorem dX11_image_42 : decode cX11_image 42 = .ok (.aload_n 0, 1) := by decide +kernel
theorem dX11_image_43 : decode cX11_image 43 = .ok (.getfield 7, 3) := by decide +kernel
theorem dX11_image_46 : decode cX11_image 46 = .ok (.iload_n 2, 1) := by decide +kernel
theorem dX11_image_47 : decode cX11_image 47 = .ok (.aload_n 0, 1) := by decide +kernel
theorem dX11_image_48 : decode cX11_image 48 = .ok (.aload_n 0, 1) := by decide +kernel
theorem dX11_image_49 : decode cX11_image 49 = .ok (.getfield 7, 3) := by decide +kernel
theorem dX11_image_52 : decode cX11_image 52 = .ok (.iload_n 2, 1) := by decide +kernel
theorem dX11_image_53 : decode cX11_image 53 = .ok (.iaload, 1) := by decide +kernel
theorem dX11_image_54 : decode cX11_image 54 = .ok (.invokevirtual 458, 3) := by decide +kernel
theorem dX11_image_57 : decode cX11_image 57 = .ok (.iastore, 1) := by decide +kernel
theorem dX11_image_58 : decode cX11_image 58 = .ok (.iinc 2 1, 3) := by decide +kernel
theorem dX11_image_61 : decode cX11_image 61 = .ok (.goto (-26), 3) := by decide +kernel
theorem dX11_image_64 : decode cX11_image 64 = .ok (.aload_n 0, 1) := by decide +kernel
theorem dX11_image_65 : decode cX11_image 65 = .ok (.invokevirtual 464, 3) := by decide +kernel
theorem dX11_image_68 : decode cX11_image 68 = .ok (.iconst 0, 1) := by decide +kernel
theorem dX11_image_69 : decode cX11_image 69 = .ok (.istore_n 2, 1) := by decide +kernel
theorem dX11_image_70 : decode cX11_image 70 = .ok (.iload_n 2, 1) := by decide +kernel
theorem dX11_image_71 : decode cX11_image 71 = .ok (.sipush 600, 3) := by decide +kernel
theorem dX11_image_74 : decode cX11_image 74 = .ok (.if_icmp .ge 25, 3) := by decide +kernel
theorem dX11_image_77 : decode cX11_image 77 = .ok (.aload_n 0, 1) := by decide +kernel
theorem dX11_image_78 : decode cX11_image 78 = .ok (.getfield 19, 3) := by decide +kernel
theorem dX11_image_81 : decode cX11_image 81 = .ok (.iload_n 2, 1) := by decide +kernel
theorem dX11_image_82 : decode cX11_image 82 = .ok (.aload_n 0, 1) := by decide +kernel
theorem dX11_image_83 : decode cX11_image 83 = .ok (.aload_n 0, 1) := by decide +kernel
theorem dX11_image_84 : decode cX11_image 84 = .ok (.getfield 19, 3) := by decide +kernel
theorem dX11_image_87 : decode cX11_image 87 = .ok (.iload_n 2, 1) := by decide +kernel
theorem dX11_image_88 : decode cX11_image 88 = .ok (.iaload, 1) := by decide +kernel
theorem dX11_image_89 : decode cX11_image 89 = .ok (.invokevirtual 458, 3) := by decide +kernel
theorem dX11_image_92 : decode cX11_image 92 = .ok (.iastore, 1) := by decide +kernel
theorem dX11_image_93 : decode cX11_image 93 = .ok (.iinc 2 1, 3) := by decide +kernel
theorem dX11_image_96 : decode cX11_image 96 = .ok (.goto (-26), 3) := by decide +kernel
theorem dX11_image_99 : decode cX11_image 99 = .ok (.aload_n 0, 1) := by decide +kernel
theorem dX11_image_100 : decode cX11_image 100 = .ok (.invokevirtual 467, 3) := by decide +kernel
theorem dX11_image_103 : decode cX11_image 103 = .ok (.iload_n 1, 1) := by decide +kernel
theorem dX11_image_104 : decode cX11_image 104 = .ok (.ifCond .ne 8, 3) := by decide +kernel
theorem dX11_image_107 : decode cX11_image 107 = .ok (.aload_n 0, 1) := by decide +kernel
theorem dX11_image_108 : decode cX11_image 108 = .ok (.iconst 0, 1) := by decide +kernel
theorem dX11_image_109 : decode cX11_image 109 = .ok (.putfield 89, 3) := by decide +kernel
theorem dX11_image_112 : decode cX11_image 112 = .ok (.iconst 1, 1) := by decide +kernel
theorem dX11_image_113 : decode cX11_image 113 = .ok (.ireturn, 1) := by decide +kernel
theorem dX11_look_0 : decode cX11_look 0 = .ok (.aload_n 0, 1) := by decide +kernel
theorem dX11_look_1 : decode cX11_look 1 = .ok (.iconst 0, 1) := by decide +kernel
theorem dX11_look_2 : decode cX11_look 2 = .ok (.putfield 86, 3) := by decide +kernel
theorem dX11_look_5 : decode cX11_look 5 = .ok (.iload_n 1, 1) := by decide +kernel
theorem dX11_look_6 : decode cX11_look 6 = .ok (.ifCond .ne 8, 3) := by decide +kernel
theorem dX11_look_9 : decode cX11_look 9 = .ok (.aload_n 0, 1) := by decide +kernel
theorem dX11_look_10 : decode cX11_look 10 = .ok (.getfield 116, 3) := by decide +kernel
theorem dX11_look_13 : decode cX11_look 13 = .ok (.ireturn, 1) := by decide +kernel
theorem dX11_look_14 : decode cX11_look 14 = .ok (.iload_n 1, 1) := by decide +kernel
theorem dX11_look_15 : decode cX11_look 15 = .ok (.iconst 1, 1) := by decide +kernel
theorem dX11_look_16 : decode cX11_look 16 = .ok (.if_icmp .ne 10, 3) := by decide +kernel
theorem dX11_look_19 : decode cX11_look 19 = .ok (.aload_n 0, 1) := by decide +kernel
theorem dX11_look_20 : decode cX11_look 20 = .ok (.getfield 7, 3) := by decide +kernel
theorem dX11_look_23 : decode cX11_look 23 = .ok (.iconst 4, 1) := by decide +kernel
theorem dX11_look_24 : decode cX11_look 24 = .ok (.iaload, 1) := by decide +kernel
theorem dX11_look_25 : decode cX11_look 25 = .ok (.ireturn, 1) := by decide +kernel
theorem dX11_look_26 : decode cX11_look 26 = .ok (.iload_n 1, 1) := by decide +kernel
theorem dX11_look_27 : decode cX11_look 27 = .ok (.iconst 2, 1) := by decide +kernel
theorem dX11_look_28 : decode cX11_look 28 = .ok (.if_icmp .ne 8, 3) := by decide +kernel
theorem dX11_look_31 : decode cX11_look 31 = .ok (.aload_n 0, 1) := by decide +kernel
theorem dX11_look_32 : decode cX11_look 32 = .ok (.getfield 119, 3) := by decide +kernel
theorem dX11_look_35 : decode cX11_look 35 = .ok (.ireturn, 1) := by decide +kernel
theorem dX11_look_36 : decode cX11_look 36 = .ok (.iload_n 1, 1) := by decide +kernel
theorem dX11_look_37 : decode cX11_look 37 = .ok (.iconst 3, 1) := by decide +kernel
theorem dX11_look_38 : decode cX11_look 38 = .ok (.if_icmp .ne 10, 3) := by decide +kernel
theorem dX11_look_41 : decode cX11_look 41 = .ok (.aload_n 0, 1) := by decide +kernel
theorem dX11_look_42 : decode cX11_look 42 = .ok (.getfield 7, 3) := by decide +kernel
theorem dX11_look_45 : decode cX11_look 45 = .ok (.iconst 0, 1) := by decide +kernel
theorem dX11_look_46 : decode cX11_look 46 = .ok (.iaload, 1) := by decide +kernel
theorem dX11_look_47 : decode cX11_look 47 = .ok (.ireturn, 1) := by decide +kernel
theorem dX11_look_48 : decode cX11_look 48 = .ok (.iload_n 1, 1) := by decide +kernel
theorem dX11_look_49 : decode cX11_look 49 = .ok (.iconst 4, 1) := by decide +kernel
theorem dX11_look_50 : decode cX11_look 50 = .ok (.if_icmp .ne 8, 3) := by decide +kernel
theorem dX11_look_53 : decode cX11_look 53 = .ok (.aload_n 0, 1) := by decide +kernel
theorem dX11_look_54 : decode cX11_look 54 = .ok (.getfield 147, 3) := by decide +kernel
theorem dX11_look_57 : decode cX11_look 57 = .ok (.ireturn, 1) := by decide +kernel
theorem dX11_look_58 : decode cX11_look 58 = .ok (.iload_n 1, 1) := by decide +kernel
theorem dX11_look_59 : decode cX11_look 59 = .ok (.iconst 5, 1) := by decide +kernel
theorem dX11_look_60 : decode cX11_look 60 = .ok (.if_icmp .ne 8, 3) := by decide +kernel
theorem dX11_look_63 : decode cX11_look 63 = .ok (.aload_n 0, 1) := by decide +kernel
theorem dX11_look_64 : decode cX11_look 64 = .ok (.getfield 150, 3) := by decide +kernel
theorem dX11_look_67 : decode cX11_look 67 = .ok (.ireturn, 1) := by decide +kernel
theorem dX11_look_68 : decode cX11_look 68 = .ok (.iload_n 1, 1) := by decide +kernel
theorem dX11_look_69 : decode cX11_look 69 = .ok (.bipush 6, 2) := by decide +kernel
theorem dX11_look_71 : decode cX11_look 71 = .ok (.if_icmp .ne 8, 3) := by decide +kernel
theorem dX11_look_74 : decode cX11_look 74 = .ok (.aload_n 0, 1) := by decide +kernel
theorem dX11_look_75 : decode cX11_look 75 = .ok (.invokevirtual 375, 3) := by decide +kernel
theorem dX11_look_78 : decode cX11_look 78 = .ok (.ireturn, 1) := by decide +kernel
theorem dX11_look_79 : decode cX11_look 79 = .ok (.iload_n 1, 1) := by decide +kernel
theorem dX11_look_80 : decode cX11_look 80 = .ok (.bipush 7, 2) := by decide +kernel
theorem dX11_look_82 : decode cX11_look 82 = .ok (.if_icmp .ne 8, 3) := by decide +kernel
theorem dX11_look_85 : decode cX11_look 85 = .ok (.aload_n 0, 1) := by decide +kernel
theorem dX11_look_86 : decode cX11_look 86 = .ok (.invokevirtual 402, 3) := by decide +kernel
theorem dX11_look_89 : decode cX11_look 89 = .ok (.ireturn, 1) := by decide +kernel
theorem dX11_look_90 : decode cX11_look 90 = .ok (.iload_n 1, 1) := by decide +kernel
theorem dX11_look_91 : decode cX11_look 91 = .ok (.bipush 8, 2) := by decide +kernel
theorem dX11_look_93 : decode cX11_look 93 = .ok (.if_icmp .ne 10, 3) := by decide +kernel
theorem dX11_look_96 : decode cX11_look 96 = .ok (.aload_n 0, 1) := by decide +kernel
theorem dX11_look_97 : decode cX11_look 97 = .ok (.getfield 7, 3) := by decide +kernel
theorem dX11_look_100 : decode cX11_look 100 = .ok (.iconst 2, 1) := by decide +kernel
theorem dX11_look_101 : decode cX11_look 101 = .ok (.iaload, 1) := by decide +kernel
theorem dX11_look_102 : decode cX11_look 102 = .ok (.ireturn, 1) := by decide +kernel
theorem dX11_look_103 : decode cX11_look 103 = .ok (.iload_n 1, 1) := by decide +kernel
theorem dX11_look_104 : decode cX11_look 104 = .ok (.bipush 9, 2) := by decide +kernel
theorem dX11_look_106 : decode cX11_look 106 = .ok (.if_icmp .ne 10, 3) := by decide +kernel
theorem dX11_look_109 : decode cX11_look 109 = .ok (.aload_n 0, 1) := by decide +kernel
theorem dX11_look_110 : decode cX11_look 110 = .ok (.getfield 7, 3) := by decide +kernel
theorem dX11_look_113 : decode cX11_look 113 = .ok (.iconst 1, 1) := by decide +kernel
theorem dX11_look_114 : decode cX11_look 114 = .ok (.iaload, 1) := by decide +kernel
theorem dX11_look_115 : decode cX11_look 115 = .ok (.ireturn, 1) := by decide +kernel
theorem dX11_look_116 : decode cX11_look 116 = .ok (.iload_n 1, 1) := by decide +kernel
theorem dX11_look_117 : decode cX11_look 117 = .ok (.bipush 10, 2) := by decide +kernel
theorem dX11_look_119 : decode cX11_look 119 = .ok (.if_icmp .ne 10, 3) := by decide +kernel
theorem dX11_look_122 : decode cX11_look 122 = .ok (.aload_n 0, 1) := by decide +kernel
theorem dX11_look_123 : decode cX11_look 123 = .ok (.getfield 28, 3) := by decide +kernel
theorem dX11_look_126 : decode cX11_look 126 = .ok (.iconst 0, 1) := by decide +kernel
theorem dX11_look_127 : decode cX11_look 127 = .ok (.iaload, 1) := by decide +kernel
theorem dX11_look_128 : decode cX11_look 128 = .ok (.ireturn, 1) := by decide +kernel
theorem dX11_look_129 : decode cX11_look 129 = .ok (.iload_n 1, 1) := by decide +kernel
theorem dX11_look_130 : decode cX11_look 130 = .ok (.bipush 11, 2) := by decide +kernel
theorem dX11_look_132 : decode cX11_look 132 = .ok (.if_icmp .ne 8, 3) := by decide +kernel
theorem dX11_look_135 : decode cX11_look 135 = .ok (.aload_n 0, 1) := by decide +kernel
theorem dX11_look_136 : decode cX11_look 136 = .ok (.getfield 279, 3) := by decide +kernel
theorem dX11_look_139 : decode cX11_look 139 = .ok (.ireturn, 1) := by decide +kernel
theorem dX11_look_140 : decode cX11_look 140 = .ok (.iload_n 1, 1) := by decide +kernel
theorem dX11_look_141 : decode cX11_look 141 = .ok (.bipush 12, 2) := by decide +kernel
theorem dX11_look_143 : decode cX11_look 143 = .ok (.if_icmp .ne 8, 3) := by decide +kernel
theorem dX11_look_146 : decode cX11_look 146 = .ok (.aload_n 0, 1) := by decide +kernel
theorem dX11_look_147 : decode cX11_look 147 = .ok (.getfield 282, 3) := by decide +kernel
theorem dX11_look_150 : decode cX11_look 150 = .ok (.ireturn, 1) := by decide +kernel
theorem dX11_look_151 : decode cX11_look 151 = .ok (.iload_n 1, 1) := by decide +kernel
theorem dX11_look_152 : decode cX11_look 152 = .ok (.bipush 13, 2) := by decide +kernel
theorem dX11_look_154 : decode cX11_look 154 = .ok (.if_icmp .ne 8, 3) := by decide +kernel
theorem dX11_look_157 : decode cX11_look 157 = .ok (.aload_n 0, 1) := by decide +kernel
theorem dX11_look_158 : decode cX11_look 158 = .ok (.getfield 435, 3) := by decide +kernel
theorem dX11_look_161 : decode cX11_look 161 = .ok (.ireturn, 1) := by decide +kernel
theorem dX11_look_162 : decode cX11_look 162 = .ok (.iload_n 1, 1) := by decide +kernel
theorem dX11_look_163 : decode cX11_look 163 = .ok (.bipush 14, 2) := by decide +kernel
theorem dX11_look_165 : decode cX11_look 165 = .ok (.if_icmp .ne 10, 3) := by decide +kernel
theorem dX11_look_168 : decode cX11_look 168 = .ok (.aload_n 0, 1) := by decide +kernel
theorem dX11_look_169 : decode cX11_look 169 = .ok (.getfield 89, 3) := by decide +kernel
theorem dX11_look_172 : decode cX11_look 172 = .ok (.goto 19, 3) := by decide +kernel
theorem dX11_look_175 : decode cX11_look 175 = .ok (.iload_n 1, 1) := by decide +kernel
theorem dX11_look_176 : decode cX11_look 176 = .ok (.bipush 15, 2) := by decide +kernel
theorem dX11_look_178 : decode cX11_look 178 = .ok (.if_icmp .ne 12, 3) := by decide +kernel
theorem dX11_look_181 : decode cX11_look 181 = .ok (.aload_n 0, 1) := by decide +kernel
theorem dX11_look_182 : decode cX11_look 182 = .ok (.getfield 7, 3) := by decide +kernel
theorem dX11_look_185 : decode cX11_look 185 = .ok (.iconst 3, 1) := by decide +kernel
theorem dX11_look_186 : decode cX11_look 186 = .ok (.iaload, 1) := by decide +kernel
theorem dX11_look_187 : decode cX11_look 187 = .ok (.goto 4, 3) := by decide +kernel
theorem dX11_look_190 : decode cX11_look 190 = .ok (.iconst (-1), 1) := by decide +kernel
theorem dX11_look_191 : decode cX11_look 191 = .ok (.ireturn, 1) := by decide +kernel
