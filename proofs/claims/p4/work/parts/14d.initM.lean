/-! ===== the reference's constructor ===== -/
theorem dX5_init_0 : decode cX5_init 0 = .ok (.aload_n 0, 1) := by decide +kernel
theorem dX5_init_1 : decode cX5_init 1 = .ok (.invokespecial 1, 3) := by decide +kernel
theorem dX5_init_4 : decode cX5_init 4 = .ok (.aload_n 0, 1) := by decide +kernel
theorem dX5_init_5 : decode cX5_init 5 = .ok (.sipush 350, 3) := by decide +kernel
theorem dX5_init_8 : decode cX5_init 8 = .ok (.newarray .int, 2) := by decide +kernel
theorem dX5_init_10 : decode cX5_init 10 = .ok (.putfield 7, 3) := by decide +kernel
theorem dX5_init_13 : decode cX5_init 13 = .ok (.aload_n 0, 1) := by decide +kernel
theorem dX5_init_14 : decode cX5_init 14 = .ok (.bipush 70, 2) := by decide +kernel
theorem dX5_init_16 : decode cX5_init 16 = .ok (.newarray .int, 2) := by decide +kernel
theorem dX5_init_18 : decode cX5_init 18 = .ok (.putfield 13, 3) := by decide +kernel
theorem dX5_init_21 : decode cX5_init 21 = .ok (.aload_n 0, 1) := by decide +kernel
theorem dX5_init_22 : decode cX5_init 22 = .ok (.sipush 160, 3) := by decide +kernel
theorem dX5_init_25 : decode cX5_init 25 = .ok (.newarray .int, 2) := by decide +kernel
theorem dX5_init_27 : decode cX5_init 27 = .ok (.putfield 16, 3) := by decide +kernel
theorem dX5_init_30 : decode cX5_init 30 = .ok (.aload_n 0, 1) := by decide +kernel
theorem dX5_init_31 : decode cX5_init 31 = .ok (.bipush 7, 2) := by decide +kernel
theorem dX5_init_33 : decode cX5_init 33 = .ok (.newarray .int, 2) := by decide +kernel
theorem dX5_init_35 : decode cX5_init 35 = .ok (.dup, 1) := by decide +kernel
theorem dX5_init_36 : decode cX5_init 36 = .ok (.iconst 0, 1) := by decide +kernel
theorem dX5_init_37 : decode cX5_init 37 = .ok (.iconst 0, 1) := by decide +kernel
theorem dX5_init_38 : decode cX5_init 38 = .ok (.iastore, 1) := by decide +kernel
theorem dX5_init_39 : decode cX5_init 39 = .ok (.dup, 1) := by decide +kernel
theorem dX5_init_40 : decode cX5_init 40 = .ok (.iconst 1, 1) := by decide +kernel
theorem dX5_init_41 : decode cX5_init 41 = .ok (.iconst 5, 1) := by decide +kernel
theorem dX5_init_42 : decode cX5_init 42 = .ok (.iastore, 1) := by decide +kernel
theorem dX5_init_43 : decode cX5_init 43 = .ok (.dup, 1) := by decide +kernel
theorem dX5_init_44 : decode cX5_init 44 = .ok (.iconst 2, 1) := by decide +kernel
theorem dX5_init_45 : decode cX5_init 45 = .ok (.bipush 10, 2) := by decide +kernel
theorem dX5_init_47 : decode cX5_init 47 = .ok (.iastore, 1) := by decide +kernel
theorem dX5_init_48 : decode cX5_init 48 = .ok (.dup, 1) := by decide +kernel
theorem dX5_init_49 : decode cX5_init 49 = .ok (.iconst 3, 1) := by decide +kernel
theorem dX5_init_50 : decode cX5_init 50 = .ok (.bipush 15, 2) := by decide +kernel
theorem dX5_init_52 : decode cX5_init 52 = .ok (.iastore, 1) := by decide +kernel
theorem dX5_init_53 : decode cX5_init 53 = .ok (.dup, 1) := by decide +kernel
theorem dX5_init_54 : decode cX5_init 54 = .ok (.iconst 4, 1) := by decide +kernel
theorem dX5_init_55 : decode cX5_init 55 = .ok (.bipush 22, 2) := by decide +kernel
theorem dX5_init_57 : decode cX5_init 57 = .ok (.iastore, 1) := by decide +kernel
theorem dX5_init_58 : decode cX5_init 58 = .ok (.dup, 1) := by decide +kernel
theorem dX5_init_59 : decode cX5_init 59 = .ok (.iconst 5, 1) := by decide +kernel
theorem dX5_init_60 : decode cX5_init 60 = .ok (.bipush 28, 2) := by decide +kernel
theorem dX5_init_62 : decode cX5_init 62 = .ok (.iastore, 1) := by decide +kernel
theorem dX5_init_63 : decode cX5_init 63 = .ok (.dup, 1) := by decide +kernel
theorem dX5_init_64 : decode cX5_init 64 = .ok (.bipush 6, 2) := by decide +kernel
theorem dX5_init_66 : decode cX5_init 66 = .ok (.bipush 33, 2) := by decide +kernel
theorem dX5_init_68 : decode cX5_init 68 = .ok (.iastore, 1) := by decide +kernel
theorem dX5_init_69 : decode cX5_init 69 = .ok (.putfield 19, 3) := by decide +kernel
theorem dX5_init_72 : decode cX5_init 72 = .ok (.aload_n 0, 1) := by decide +kernel
theorem dX5_init_73 : decode cX5_init 73 = .ok (.bipush 33, 2) := by decide +kernel
theorem dX5_init_75 : decode cX5_init 75 = .ok (.newarray .int, 2) := by decide +kernel
theorem dX5_init_77 : decode cX5_init 77 = .ok (.dup, 1) := by decide +kernel
theorem dX5_init_78 : decode cX5_init 78 = .ok (.iconst 0, 1) := by decide +kernel
theorem dX5_init_79 : decode cX5_init 79 = .ok (.bipush 112, 2) := by decide +kernel
theorem dX5_init_81 : decode cX5_init 81 = .ok (.iastore, 1) := by decide +kernel
theorem dX5_init_82 : decode cX5_init 82 = .ok (.dup, 1) := by decide +kernel
theorem dX5_init_83 : decode cX5_init 83 = .ok (.iconst 1, 1) := by decide +kernel
theorem dX5_init_84 : decode cX5_init 84 = .ok (.bipush 108, 2) := by decide +kernel
theorem dX5_init_86 : decode cX5_init 86 = .ok (.iastore, 1) := by decide +kernel
theorem dX5_init_87 : decode cX5_init 87 = .ok (.dup, 1) := by decide +kernel
theorem dX5_init_88 : decode cX5_init 88 = .ok (.iconst 2, 1) := by decide +kernel
theorem dX5_init_89 : decode cX5_init 89 = .ok (.bipush 97, 2) := by decide +kernel
theorem dX5_init_91 : decode cX5_init 91 = .ok (.iastore, 1) := by decide +kernel
theorem dX5_init_92 : decode cX5_init 92 = .ok (.dup, 1) := by decide +kernel
theorem dX5_init_93 : decode cX5_init 93 = .ok (.iconst 3, 1) := by decide +kernel
theorem dX5_init_94 : decode cX5_init 94 = .ok (.bipush 105, 2) := by decide +kernel
theorem dX5_init_96 : decode cX5_init 96 = .ok (.iastore, 1) := by decide +kernel
theorem dX5_init_97 : decode cX5_init 97 = .ok (.dup, 1) := by decide +kernel
theorem dX5_init_98 : decode cX5_init 98 = .ok (.iconst 4, 1) := by decide +kernel
theorem dX5_init_99 : decode cX5_init 99 = .ok (.bipush 110, 2) := by decide +kernel
theorem dX5_init_101 : decode cX5_init 101 = .ok (.iastore, 1) := by decide +kernel
theorem dX5_init_102 : decode cX5_init 102 = .ok (.dup, 1) := by decide +kernel
theorem dX5_init_103 : decode cX5_init 103 = .ok (.iconst 5, 1) := by decide +kernel
theorem dX5_init_104 : decode cX5_init 104 = .ok (.bipush 114, 2) := by decide +kernel
theorem dX5_init_106 : decode cX5_init 106 = .ok (.iastore, 1) := by decide +kernel
theorem dX5_init_107 : decode cX5_init 107 = .ok (.dup, 1) := by decide +kernel
theorem dX5_init_108 : decode cX5_init 108 = .ok (.bipush 6, 2) := by decide +kernel
theorem dX5_init_110 : decode cX5_init 110 = .ok (.bipush 111, 2) := by decide +kernel
theorem dX5_init_112 : decode cX5_init 112 = .ok (.iastore, 1) := by decide +kernel
theorem dX5_init_113 : decode cX5_init 113 = .ok (.dup, 1) := by decide +kernel
theorem dX5_init_114 : decode cX5_init 114 = .ok (.bipush 7, 2) := by decide +kernel
theorem dX5_init_116 : decode cX5_init 116 = .ok (.bipush 110, 2) := by decide +kernel
theorem dX5_init_118 : decode cX5_init 118 = .ok (.iastore, 1) := by decide +kernel
theorem dX5_init_119 : decode cX5_init 119 = .ok (.dup, 1) := by decide +kernel
theorem dX5_init_120 : decode cX5_init 120 = .ok (.bipush 8, 2) := by decide +kernel
theorem dX5_init_122 : decode cX5_init 122 = .ok (.bipush 100, 2) := by decide +kernel
theorem dX5_init_124 : decode cX5_init 124 = .ok (.iastore, 1) := by decide +kernel
theorem dX5_init_125 : decode cX5_init 125 = .ok (.dup, 1) := by decide +kernel
theorem dX5_init_126 : decode cX5_init 126 = .ok (.bipush 9, 2) := by decide +kernel
theorem dX5_init_128 : decode cX5_init 128 = .ok (.bipush 111, 2) := by decide +kernel
theorem dX5_init_130 : decode cX5_init 130 = .ok (.iastore, 1) := by decide +kernel
theorem dX5_init_131 : decode cX5_init 131 = .ok (.dup, 1) := by decide +kernel
theorem dX5_init_132 : decode cX5_init 132 = .ok (.bipush 10, 2) := by decide +kernel
theorem dX5_init_134 : decode cX5_init 134 = .ok (.bipush 102, 2) := by decide +kernel
theorem dX5_init_136 : decode cX5_init 136 = .ok (.iastore, 1) := by decide +kernel
theorem dX5_init_137 : decode cX5_init 137 = .ok (.dup, 1) := by decide +kernel
theorem dX5_init_138 : decode cX5_init 138 = .ok (.bipush 11, 2) := by decide +kernel
theorem dX5_init_140 : decode cX5_init 140 = .ok (.bipush 117, 2) := by decide +kernel
theorem dX5_init_142 : decode cX5_init 142 = .ok (.iastore, 1) := by decide +kernel
theorem dX5_init_143 : decode cX5_init 143 = .ok (.dup, 1) := by decide +kernel
theorem dX5_init_144 : decode cX5_init 144 = .ok (.bipush 12, 2) := by decide +kernel
theorem dX5_init_146 : decode cX5_init 146 = .ok (.bipush 103, 2) := by decide +kernel
theorem dX5_init_148 : decode cX5_init 148 = .ok (.iastore, 1) := by decide +kernel
theorem dX5_init_149 : decode cX5_init 149 = .ok (.dup, 1) := by decide +kernel
theorem dX5_init_150 : decode cX5_init 150 = .ok (.bipush 13, 2) := by decide +kernel
theorem dX5_init_152 : decode cX5_init 152 = .ok (.bipush 117, 2) := by decide +kernel
theorem dX5_init_154 : decode cX5_init 154 = .ok (.iastore, 1) := by decide +kernel
theorem dX5_init_155 : decode cX5_init 155 = .ok (.dup, 1) := by decide +kernel
theorem dX5_init_156 : decode cX5_init 156 = .ok (.bipush 14, 2) := by decide +kernel
theorem dX5_init_158 : decode cX5_init 158 = .ok (.bipush 101, 2) := by decide +kernel
theorem dX5_init_160 : decode cX5_init 160 = .ok (.iastore, 1) := by decide +kernel
theorem dX5_init_161 : decode cX5_init 161 = .ok (.dup, 1) := by decide +kernel
theorem dX5_init_162 : decode cX5_init 162 = .ok (.bipush 15, 2) := by decide +kernel
theorem dX5_init_164 : decode cX5_init 164 = .ok (.bipush 108, 2) := by decide +kernel
theorem dX5_init_166 : decode cX5_init 166 = .ok (.iastore, 1) := by decide +kernel
theorem dX5_init_167 : decode cX5_init 167 = .ok (.dup, 1) := by decide +kernel
theorem dX5_init_168 : decode cX5_init 168 = .ok (.bipush 16, 2) := by decide +kernel
theorem dX5_init_170 : decode cX5_init 170 = .ok (.bipush 117, 2) := by decide +kernel
theorem dX5_init_172 : decode cX5_init 172 = .ok (.iastore, 1) := by decide +kernel
theorem dX5_init_173 : decode cX5_init 173 = .ok (.dup, 1) := by decide +kernel
theorem dX5_init_174 : decode cX5_init 174 = .ok (.bipush 17, 2) := by decide +kernel
theorem dX5_init_176 : decode cX5_init 176 = .ok (.bipush 108, 2) := by decide +kernel
theorem dX5_init_178 : decode cX5_init 178 = .ok (.iastore, 1) := by decide +kernel
theorem dX5_init_179 : decode cX5_init 179 = .ok (.dup, 1) := by decide +kernel
theorem dX5_init_180 : decode cX5_init 180 = .ok (.bipush 18, 2) := by decide +kernel
theorem dX5_init_182 : decode cX5_init 182 = .ok (.bipush 108, 2) := by decide +kernel
theorem dX5_init_184 : decode cX5_init 184 = .ok (.iastore, 1) := by decide +kernel
theorem dX5_init_185 : decode cX5_init 185 = .ok (.dup, 1) := by decide +kernel
theorem dX5_init_186 : decode cX5_init 186 = .ok (.bipush 19, 2) := by decide +kernel
theorem dX5_init_188 : decode cX5_init 188 = .ok (.bipush 97, 2) := by decide +kernel
theorem dX5_init_190 : decode cX5_init 190 = .ok (.iastore, 1) := by decide +kernel
theorem dX5_init_191 : decode cX5_init 191 = .ok (.dup, 1) := by decide +kernel
theorem dX5_init_192 : decode cX5_init 192 = .ok (.bipush 20, 2) := by decide +kernel
theorem dX5_init_194 : decode cX5_init 194 = .ok (.bipush 98, 2) := by decide +kernel
theorem dX5_init_196 : decode cX5_init 196 = .ok (.iastore, 1) := by decide +kernel
theorem dX5_init_197 : decode cX5_init 197 = .ok (.dup, 1) := by decide +kernel
theorem dX5_init_198 : decode cX5_init 198 = .ok (.bipush 21, 2) := by decide +kernel
theorem dX5_init_200 : decode cX5_init 200 = .ok (.bipush 121, 2) := by decide +kernel
theorem dX5_init_202 : decode cX5_init 202 = .ok (.iastore, 1) := by decide +kernel
theorem dX5_init_203 : decode cX5_init 203 = .ok (.dup, 1) := by decide +kernel
theorem dX5_init_204 : decode cX5_init 204 = .ok (.bipush 22, 2) := by decide +kernel
theorem dX5_init_206 : decode cX5_init 206 = .ok (.bipush 112, 2) := by decide +kernel
theorem dX5_init_208 : decode cX5_init 208 = .ok (.iastore, 1) := by decide +kernel
theorem dX5_init_209 : decode cX5_init 209 = .ok (.dup, 1) := by decide +kernel
theorem dX5_init_210 : decode cX5_init 210 = .ok (.bipush 23, 2) := by decide +kernel
theorem dX5_init_212 : decode cX5_init 212 = .ok (.bipush 108, 2) := by decide +kernel
theorem dX5_init_214 : decode cX5_init 214 = .ok (.iastore, 1) := by decide +kernel
theorem dX5_init_215 : decode cX5_init 215 = .ok (.dup, 1) := by decide +kernel
theorem dX5_init_216 : decode cX5_init 216 = .ok (.bipush 24, 2) := by decide +kernel
theorem dX5_init_218 : decode cX5_init 218 = .ok (.bipush 97, 2) := by decide +kernel
theorem dX5_init_220 : decode cX5_init 220 = .ok (.iastore, 1) := by decide +kernel
theorem dX5_init_221 : decode cX5_init 221 = .ok (.dup, 1) := by decide +kernel
theorem dX5_init_222 : decode cX5_init 222 = .ok (.bipush 25, 2) := by decide +kernel
theorem dX5_init_224 : decode cX5_init 224 = .ok (.bipush 121, 2) := by decide +kernel
theorem dX5_init_226 : decode cX5_init 226 = .ok (.iastore, 1) := by decide +kernel
theorem dX5_init_227 : decode cX5_init 227 = .ok (.dup, 1) := by decide +kernel
theorem dX5_init_228 : decode cX5_init 228 = .ok (.bipush 26, 2) := by decide +kernel
theorem dX5_init_230 : decode cX5_init 230 = .ok (.bipush 101, 2) := by decide +kernel
theorem dX5_init_232 : decode cX5_init 232 = .ok (.iastore, 1) := by decide +kernel
theorem dX5_init_233 : decode cX5_init 233 = .ok (.dup, 1) := by decide +kernel
theorem dX5_init_234 : decode cX5_init 234 = .ok (.bipush 27, 2) := by decide +kernel
theorem dX5_init_236 : decode cX5_init 236 = .ok (.bipush 114, 2) := by decide +kernel
theorem dX5_init_238 : decode cX5_init 238 = .ok (.iastore, 1) := by decide +kernel
theorem dX5_init_239 : decode cX5_init 239 = .ok (.dup, 1) := by decide +kernel
theorem dX5_init_240 : decode cX5_init 240 = .ok (.bipush 28, 2) := by decide +kernel
theorem dX5_init_242 : decode cX5_init 242 = .ok (.bipush 98, 2) := by decide +kernel
theorem dX5_init_244 : decode cX5_init 244 = .ok (.iastore, 1) := by decide +kernel
theorem dX5_init_245 : decode cX5_init 245 = .ok (.dup, 1) := by decide +kernel
theorem dX5_init_246 : decode cX5_init 246 = .ok (.bipush 29, 2) := by decide +kernel
theorem dX5_init_248 : decode cX5_init 248 = .ok (.bipush 111, 2) := by decide +kernel
theorem dX5_init_250 : decode cX5_init 250 = .ok (.iastore, 1) := by decide +kernel
theorem dX5_init_251 : decode cX5_init 251 = .ok (.dup, 1) := by decide +kernel
theorem dX5_init_252 : decode cX5_init 252 = .ok (.bipush 30, 2) := by decide +kernel
theorem dX5_init_254 : decode cX5_init 254 = .ok (.bipush 117, 2) := by decide +kernel
theorem dX5_init_256 : decode cX5_init 256 = .ok (.iastore, 1) := by decide +kernel
theorem dX5_init_257 : decode cX5_init 257 = .ok (.dup, 1) := by decide +kernel
theorem dX5_init_258 : decode cX5_init 258 = .ok (.bipush 31, 2) := by decide +kernel
theorem dX5_init_260 : decode cX5_init 260 = .ok (.bipush 110, 2) := by decide +kernel
theorem dX5_init_262 : decode cX5_init 262 = .ok (.iastore, 1) := by decide +kernel
theorem dX5_init_263 : decode cX5_init 263 = .ok (.dup, 1) := by decide +kernel
theorem dX5_init_264 : decode cX5_init 264 = .ok (.bipush 32, 2) := by decide +kernel
theorem dX5_init_266 : decode cX5_init 266 = .ok (.bipush 100, 2) := by decide +kernel
theorem dX5_init_268 : decode cX5_init 268 = .ok (.iastore, 1) := by decide +kernel
theorem dX5_init_269 : decode cX5_init 269 = .ok (.putfield 22, 3) := by decide +kernel
theorem dX5_init_272 : decode cX5_init 272 = .ok (.aload_n 0, 1) := by decide +kernel
theorem dX5_init_273 : decode cX5_init 273 = .ok (.iconst 4, 1) := by decide +kernel
theorem dX5_init_274 : decode cX5_init 274 = .ok (.newarray .int, 2) := by decide +kernel
theorem dX5_init_276 : decode cX5_init 276 = .ok (.putfield 25, 3) := by decide +kernel
theorem dX5_init_279 : decode cX5_init 279 = .ok (.aload_n 0, 1) := by decide +kernel
theorem dX5_init_280 : decode cX5_init 280 = .ok (.iconst 4, 1) := by decide +kernel
theorem dX5_init_281 : decode cX5_init 281 = .ok (.newarray .int, 2) := by decide +kernel
theorem dX5_init_283 : decode cX5_init 283 = .ok (.putfield 28, 3) := by decide +kernel
theorem dX5_init_286 : decode cX5_init 286 = .ok (.aload_n 0, 1) := by decide +kernel
theorem dX5_init_287 : decode cX5_init 287 = .ok (.iconst 4, 1) := by decide +kernel
theorem dX5_init_288 : decode cX5_init 288 = .ok (.newarray .int, 2) := by decide +kernel
theorem dX5_init_290 : decode cX5_init 290 = .ok (.putfield 31, 3) := by decide +kernel
theorem dX5_init_293 : decode cX5_init 293 = .ok (.aload_n 0, 1) := by decide +kernel
theorem dX5_init_294 : decode cX5_init 294 = .ok (.iconst 4, 1) := by decide +kernel
theorem dX5_init_295 : decode cX5_init 295 = .ok (.newarray .int, 2) := by decide +kernel
theorem dX5_init_297 : decode cX5_init 297 = .ok (.putfield 34, 3) := by decide +kernel
theorem dX5_init_300 : decode cX5_init 300 = .ok (.aload_n 0, 1) := by decide +kernel
theorem dX5_init_301 : decode cX5_init 301 = .ok (.iconst 4, 1) := by decide +kernel
theorem dX5_init_302 : decode cX5_init 302 = .ok (.newarray .int, 2) := by decide +kernel
theorem dX5_init_304 : decode cX5_init 304 = .ok (.putfield 37, 3) := by decide +kernel
theorem dX5_init_307 : decode cX5_init 307 = .ok (.aload_n 0, 1) := by decide +kernel
theorem dX5_init_308 : decode cX5_init 308 = .ok (.sipush 160, 3) := by decide +kernel
theorem dX5_init_311 : decode cX5_init 311 = .ok (.newarray .int, 2) := by decide +kernel
theorem dX5_init_313 : decode cX5_init 313 = .ok (.putfield 40, 3) := by decide +kernel
theorem dX5_init_316 : decode cX5_init 316 = .ok (.aload_n 0, 1) := by decide +kernel
theorem dX5_init_317 : decode cX5_init 317 = .ok (.bipush 18, 2) := by decide +kernel
theorem dX5_init_319 : decode cX5_init 319 = .ok (.newarray .int, 2) := by decide +kernel
theorem dX5_init_321 : decode cX5_init 321 = .ok (.putfield 43, 3) := by decide +kernel
theorem dX5_init_324 : decode cX5_init 324 = .ok (.aload_n 0, 1) := by decide +kernel
theorem dX5_init_325 : decode cX5_init 325 = .ok (.iconst 2, 1) := by decide +kernel
theorem dX5_init_326 : decode cX5_init 326 = .ok (.newarray .boolean, 2) := by decide +kernel
theorem dX5_init_328 : decode cX5_init 328 = .ok (.putfield 46, 3) := by decide +kernel
theorem dX5_init_331 : decode cX5_init 331 = .ok (.aload_n 0, 1) := by decide +kernel
theorem dX5_init_332 : decode cX5_init 332 = .ok (.iconst 4, 1) := by decide +kernel
theorem dX5_init_333 : decode cX5_init 333 = .ok (.newarray .int, 2) := by decide +kernel
theorem dX5_init_335 : decode cX5_init 335 = .ok (.dup, 1) := by decide +kernel
theorem dX5_init_336 : decode cX5_init 336 = .ok (.iconst 0, 1) := by decide +kernel
theorem dX5_init_337 : decode cX5_init 337 = .ok (.bipush (-4), 2) := by decide +kernel
theorem dX5_init_339 : decode cX5_init 339 = .ok (.iastore, 1) := by decide +kernel
theorem dX5_init_340 : decode cX5_init 340 = .ok (.dup, 1) := by decide +kernel
theorem dX5_init_341 : decode cX5_init 341 = .ok (.iconst 1, 1) := by decide +kernel
theorem dX5_init_342 : decode cX5_init 342 = .ok (.bipush (-4), 2) := by decide +kernel
theorem dX5_init_344 : decode cX5_init 344 = .ok (.iastore, 1) := by decide +kernel
theorem dX5_init_345 : decode cX5_init 345 = .ok (.dup, 1) := by decide +kernel
theorem dX5_init_346 : decode cX5_init 346 = .ok (.iconst 2, 1) := by decide +kernel
theorem dX5_init_347 : decode cX5_init 347 = .ok (.bipush (-4), 2) := by decide +kernel
theorem dX5_init_349 : decode cX5_init 349 = .ok (.iastore, 1) := by decide +kernel
theorem dX5_init_350 : decode cX5_init 350 = .ok (.dup, 1) := by decide +kernel
theorem dX5_init_351 : decode cX5_init 351 = .ok (.iconst 3, 1) := by decide +kernel
theorem dX5_init_352 : decode cX5_init 352 = .ok (.bipush (-4), 2) := by decide +kernel
theorem dX5_init_354 : decode cX5_init 354 = .ok (.iastore, 1) := by decide +kernel
theorem dX5_init_355 : decode cX5_init 355 = .ok (.putfield 50, 3) := by decide +kernel
theorem dX5_init_358 : decode cX5_init 358 = .ok (.aload_n 0, 1) := by decide +kernel
theorem dX5_init_359 : decode cX5_init 359 = .ok (.iconst 4, 1) := by decide +kernel
theorem dX5_init_360 : decode cX5_init 360 = .ok (.newarray .int, 2) := by decide +kernel
theorem dX5_init_362 : decode cX5_init 362 = .ok (.putfield 53, 3) := by decide +kernel
theorem dX5_init_365 : decode cX5_init 365 = .ok (.aload_n 0, 1) := by decide +kernel
theorem dX5_init_366 : decode cX5_init 366 = .ok (.sipush 160, 3) := by decide +kernel
theorem dX5_init_369 : decode cX5_init 369 = .ok (.newarray .int, 2) := by decide +kernel
theorem dX5_init_371 : decode cX5_init 371 = .ok (.putfield 56, 3) := by decide +kernel
theorem dX5_init_374 : decode cX5_init 374 = .ok (.return_, 1) := by decide +kernel
def MX5_init : MM := (RX5, yX5_init, cX5_init, 1, none, 0, 1, 12)
def mShp : Shp := SM.getD 0 (0, 0, [])
theorem sm_split : SM = [mShp] ++ ([(0, 350, [])] ++ ([(0, 70, [])] ++ ([(0, 160, [])] ++ ([(0, 7, [])] ++ ([(0, 33, [])] ++ ([(0, 4, [])] ++ ([(0, 4, [])] ++ ([(0, 4, [])] ++ ([(0, 4, [])] ++ ([(0, 4, [])] ++ ([(0, 160, [])] ++ ([(0, 18, [])] ++ ([(1, 2, [])] ++ ([(0, 4, [])] ++ ([(0, 4, [])] ++ ([(0, 160, [])])))))))))))))))) := by decide +kernel
theorem raw_X5 : ∀ j, j < 35 → defaultValue (tyX5 j) = vp_V [.null, .int 0, .int 0, .int 0, .null, .int 0, .int 0, .int 0, .int 0, .null, .int 0, .int 0, .int 0, .int 0, .int 0, .int 0, .int 0, .int 0, .null, .null, .null, .null, .null, .null, .null, .null, .int 0, .null, .int 0, .int 0, .null, .null, .null, .null, .int 0] j := by
  intro j hj
  match j, hj with
  | 0, _ => rfl
  | 1, _ => rfl
  | 2, _ => rfl
  | 3, _ => rfl
  | 4, _ => rfl
  | 5, _ => rfl
  | 6, _ => rfl
  | 7, _ => rfl
  | 8, _ => rfl
  | 9, _ => rfl
  | 10, _ => rfl
  | 11, _ => rfl
  | 12, _ => rfl
  | 13, _ => rfl
  | 14, _ => rfl
  | 15, _ => rfl
  | 16, _ => rfl
  | 17, _ => rfl
  | 18, _ => rfl
  | 19, _ => rfl
  | 20, _ => rfl
  | 21, _ => rfl
  | 22, _ => rfl
  | 23, _ => rfl
  | 24, _ => rfl
  | 25, _ => rfl
  | 26, _ => rfl
  | 27, _ => rfl
  | 28, _ => rfl
  | 29, _ => rfl
  | 30, _ => rfl
  | 31, _ => rfl
  | 32, _ => rfl
  | 33, _ => rfl
  | 34, _ => rfl
  | n + 35, h => exact absurd h (by omega)
def dM0 : DD := fun k => if k = 4 then upd (upd (upd (upd (upd (upd (upd (fun _ => 0) 0 0) 1 5) 2 10) 3 15) 4 22) 5 28) 6 33 else if k = 5 then upd (upd (upd (upd (upd (upd (upd (upd (upd (upd (upd (upd (upd (upd (upd (upd (upd (upd (upd (upd (upd (upd (upd (upd (upd (upd (upd (upd (upd (upd (upd (upd (upd (fun _ => 0) 0 112) 1 108) 2 97) 3 105) 4 110) 5 114) 6 111) 7 110) 8 100) 9 111) 10 102) 11 117) 12 103) 13 117) 14 101) 15 108) 16 117) 17 108) 18 108) 19 97) 20 98) 21 121) 22 112) 23 108) 24 97) 25 121) 26 101) 27 114) 28 98) 29 111) 30 117) 31 110) 32 100 else if k = 14 then upd (upd (upd (upd (fun _ => 0) 0 (-4)) 1 (-4)) 2 (-4)) 3 (-4) else fun _ => 0
theorem dM0_0 : dM0 0 = fun _ => 0 := (if_neg (by decide)).trans ((if_neg (by decide)).trans (if_neg (by decide)))
theorem dM0_1 : dM0 1 = fun _ => 0 := (if_neg (by decide)).trans ((if_neg (by decide)).trans (if_neg (by decide)))
theorem dM0_2 : dM0 2 = fun _ => 0 := (if_neg (by decide)).trans ((if_neg (by decide)).trans (if_neg (by decide)))
theorem dM0_3 : dM0 3 = fun _ => 0 := (if_neg (by decide)).trans ((if_neg (by decide)).trans (if_neg (by decide)))
theorem dM0_4 : dM0 4 = upd (upd (upd (upd (upd (upd (upd (fun _ => 0) 0 0) 1 5) 2 10) 3 15) 4 22) 5 28) 6 33 := if_pos rfl
theorem dM0_5 : dM0 5 = upd (upd (upd (upd (upd (upd (upd (upd (upd (upd (upd (upd (upd (upd (upd (upd (upd (upd (upd (upd (upd (upd (upd (upd (upd (upd (upd (upd (upd (upd (upd (upd (upd (fun _ => 0) 0 112) 1 108) 2 97) 3 105) 4 110) 5 114) 6 111) 7 110) 8 100) 9 111) 10 102) 11 117) 12 103) 13 117) 14 101) 15 108) 16 117) 17 108) 18 108) 19 97) 20 98) 21 121) 22 112) 23 108) 24 97) 25 121) 26 101) 27 114) 28 98) 29 111) 30 117) 31 110) 32 100 := (if_neg (by decide)).trans (if_pos rfl)
theorem dM0_6 : dM0 6 = fun _ => 0 := (if_neg (by decide)).trans ((if_neg (by decide)).trans (if_neg (by decide)))
theorem dM0_7 : dM0 7 = fun _ => 0 := (if_neg (by decide)).trans ((if_neg (by decide)).trans (if_neg (by decide)))
theorem dM0_8 : dM0 8 = fun _ => 0 := (if_neg (by decide)).trans ((if_neg (by decide)).trans (if_neg (by decide)))
theorem dM0_9 : dM0 9 = fun _ => 0 := (if_neg (by decide)).trans ((if_neg (by decide)).trans (if_neg (by decide)))
theorem dM0_10 : dM0 10 = fun _ => 0 := (if_neg (by decide)).trans ((if_neg (by decide)).trans (if_neg (by decide)))
theorem dM0_11 : dM0 11 = fun _ => 0 := (if_neg (by decide)).trans ((if_neg (by decide)).trans (if_neg (by decide)))
theorem dM0_12 : dM0 12 = fun _ => 0 := (if_neg (by decide)).trans ((if_neg (by decide)).trans (if_neg (by decide)))
theorem dM0_13 : dM0 13 = fun _ => 0 := (if_neg (by decide)).trans ((if_neg (by decide)).trans (if_neg (by decide)))
theorem dM0_14 : dM0 14 = upd (upd (upd (upd (fun _ => 0) 0 (-4)) 1 (-4)) 2 (-4)) 3 (-4) := (if_neg (by decide)).trans ((if_neg (by decide)).trans (if_pos rfl))
theorem dM0_15 : dM0 15 = fun _ => 0 := (if_neg (by decide)).trans ((if_neg (by decide)).trans (if_neg (by decide)))
theorem dM0_16 : dM0 16 = fun _ => 0 := (if_neg (by decide)).trans ((if_neg (by decide)).trans (if_neg (by decide)))
theorem slotsOf_0 {ad : Nat → Nat} {sl : List (Option Nat)} : slotsOf ad (fun _ => 0) sl = sl.map (fun o => match o with | none => Value.int 0 | some r => Value.ref (ad r)) := by
  refine List.ext_getElem? fun k => ?_
  simp only [slotsOf, List.getElem?_mapIdx, List.getElem?_map]
  cases sl[k]? with
  | none => rfl
  | some o => cases o <;> rfl
theorem wsF_1 {ad : Nat → Nat} {cA : Nat → ClassId} {n : Nat} {h : Shp} {d : DD} : wsF ad cA n [h] d = [(ad n, ent ad cA (d n) h)] := rfl
theorem mShp_ent {ad : Nat → Nat} {cA : Nat → ClassId} : ent ad cA (fun _ => 0) mShp = .inr (5, [.ref (ad 1), .int 0, .int 0, .int 0, .ref (ad 2), .int 0, .int 0, .int 0, .int 0, .ref (ad 3), .int 0, .int 0, .int 0, .int 0, .int 0, .int 0, .int 0, .int 0, .ref (ad 4), .ref (ad 5), .ref (ad 6), .ref (ad 7), .ref (ad 8), .ref (ad 9), .ref (ad 10), .ref (ad 11), .int 0, .ref (ad 12), .int 0, .int 0, .ref (ad 13), .ref (ad 14), .ref (ad 15), .ref (ad 16), .int 0]) := by
  show Sum.inr (5, slotsOf ad (fun _ => 0) [some 1, none, none, none, some 2, none, none, none, none, some 3, none, none, none, none, none, none, none, none, some 4, some 5, some 6, some 7, some 8, some 9, some 10, some 11, none, some 12, none, none, some 13, some 14, some 15, some 16, none]) = _
  rw [slotsOf_0]; rfl
set_option maxHeartbeats 2000000 in
set_option maxRecDepth 100000 in
theorem c_X5_init (cA : Nat → ClassId) : Ci MX5_init cA 16 988 5 [.null, .int 0, .int 0, .int 0, .null, .int 0, .int 0, .int 0, .int 0, .null, .int 0, .int 0, .int 0, .int 0, .int 0, .int 0, .int 0, .int 0, .null, .null, .null, .null, .null, .null, .null, .null, .int 0, .null, .int 0, .int 0, .null, .null, .null, .null, .int 0] (fun q0 w => ∃ ad : Nat → Nat, ad 0 = q0 ∧ w = wsOf ad cA SM dM0) := by
  refine ci_of (by decide) rfl rfl rfl (by decide) (fun q0 => ?_)
  refine g_aload_n dX5_init_0 rfl ?_
  refine g_obj dX5_init_1 w765 (by decide) (by decide) ?_
  refine g_aload_n dX5_init_4 rfl ?_
  refine g_sipush (v := 350) dX5_init_5 (by decide +kernel) ?_
  refine gh_newi (N := 350) dX5_init_8 (by decide +kernel) (by decide) (by decide) (by decide) (fun q8 => ?_)
  refine gh_putF 0 dX5_init_10 ck5 (by decide) w766 rfl rfl rfl rfl (Nat.le_of_ble_eq_true rfl) (fs2 := [.ref q8, .int 0, .int 0, .int 0, .null, .int 0, .int 0, .int 0, .int 0, .null, .int 0, .int 0, .int 0, .int 0, .int 0, .int 0, .int 0, .int 0, .null, .null, .null, .null, .null, .null, .null, .null, .int 0, .null, .int 0, .int 0, .null, .null, .null, .null, .int 0]) rfl ?_
  refine g_aload_n dX5_init_13 rfl ?_
  refine g_bipush (v := 70) dX5_init_14 (by decide +kernel) ?_
  refine gh_newi (N := 70) dX5_init_16 (by decide +kernel) (by decide) (by decide) (by decide) (fun q16 => ?_)
  refine gh_putF 4 dX5_init_18 ck5 (by decide) w770 rfl rfl rfl rfl (Nat.le_of_ble_eq_true rfl) (fs2 := [.ref q8, .int 0, .int 0, .int 0, .ref q16, .int 0, .int 0, .int 0, .int 0, .null, .int 0, .int 0, .int 0, .int 0, .int 0, .int 0, .int 0, .int 0, .null, .null, .null, .null, .null, .null, .null, .null, .int 0, .null, .int 0, .int 0, .null, .null, .null, .null, .int 0]) rfl ?_
  refine g_aload_n dX5_init_21 rfl ?_
  refine g_sipush (v := 160) dX5_init_22 (by decide +kernel) ?_
  refine gh_newi (N := 160) dX5_init_25 (by decide +kernel) (by decide) (by decide) (by decide) (fun q25 => ?_)
  refine gh_putF 9 dX5_init_27 ck5 (by decide) w775 rfl rfl rfl rfl (Nat.le_of_ble_eq_true rfl) (fs2 := [.ref q8, .int 0, .int 0, .int 0, .ref q16, .int 0, .int 0, .int 0, .int 0, .ref q25, .int 0, .int 0, .int 0, .int 0, .int 0, .int 0, .int 0, .int 0, .null, .null, .null, .null, .null, .null, .null, .null, .int 0, .null, .int 0, .int 0, .null, .null, .null, .null, .int 0]) rfl ?_
  refine g_aload_n dX5_init_30 rfl ?_
  refine g_bipush (v := 7) dX5_init_31 (by decide +kernel) ?_
  refine gh_newi (N := 7) dX5_init_33 (by decide +kernel) (by decide) (by decide) (by decide) (fun q33 => ?_)
  refine g_dup dX5_init_35 ?_
  refine g_iconst (v := 0) dX5_init_36 (by decide +kernel) ?_
  refine g_iconst (v := 0) dX5_init_37 (by decide +kernel) ?_
  refine gl_iast 0 dX5_init_38 (by decide +kernel) (by decide) (by decide) ?_
  refine g_dup dX5_init_39 ?_
  refine g_iconst (v := 1) dX5_init_40 (by decide +kernel) ?_
  refine g_iconst (v := 5) dX5_init_41 (by decide +kernel) ?_
  refine gl_iast 1 dX5_init_42 (by decide +kernel) (by decide) (by decide) ?_
  refine g_dup dX5_init_43 ?_
  refine g_iconst (v := 2) dX5_init_44 (by decide +kernel) ?_
  refine g_bipush (v := 10) dX5_init_45 (by decide +kernel) ?_
  refine gl_iast 2 dX5_init_47 (by decide +kernel) (by decide) (by decide) ?_
  refine g_dup dX5_init_48 ?_
  refine g_iconst (v := 3) dX5_init_49 (by decide +kernel) ?_
  refine g_bipush (v := 15) dX5_init_50 (by decide +kernel) ?_
  refine gl_iast 3 dX5_init_52 (by decide +kernel) (by decide) (by decide) ?_
  refine g_dup dX5_init_53 ?_
  refine g_iconst (v := 4) dX5_init_54 (by decide +kernel) ?_
  refine g_bipush (v := 22) dX5_init_55 (by decide +kernel) ?_
  refine gl_iast 4 dX5_init_57 (by decide +kernel) (by decide) (by decide) ?_
  refine g_dup dX5_init_58 ?_
  refine g_iconst (v := 5) dX5_init_59 (by decide +kernel) ?_
  refine g_bipush (v := 28) dX5_init_60 (by decide +kernel) ?_
  refine gl_iast 5 dX5_init_62 (by decide +kernel) (by decide) (by decide) ?_
  refine g_dup dX5_init_63 ?_
  refine g_bipush (v := 6) dX5_init_64 (by decide +kernel) ?_
  refine g_bipush (v := 33) dX5_init_66 (by decide +kernel) ?_
  refine gl_iast 6 dX5_init_68 (by decide +kernel) (by decide) (by decide) ?_
  refine gh_putF 18 dX5_init_69 ck5 (by decide) w784 rfl rfl rfl rfl (Nat.le_of_ble_eq_true rfl) (fs2 := [.ref q8, .int 0, .int 0, .int 0, .ref q16, .int 0, .int 0, .int 0, .int 0, .ref q25, .int 0, .int 0, .int 0, .int 0, .int 0, .int 0, .int 0, .int 0, .ref q33, .null, .null, .null, .null, .null, .null, .null, .int 0, .null, .int 0, .int 0, .null, .null, .null, .null, .int 0]) rfl ?_
  refine g_aload_n dX5_init_72 rfl ?_
  refine g_bipush (v := 33) dX5_init_73 (by decide +kernel) ?_
  refine gh_newi (N := 33) dX5_init_75 (by decide +kernel) (by decide) (by decide) (by decide) (fun q75 => ?_)
  refine g_dup dX5_init_77 ?_
  refine g_iconst (v := 0) dX5_init_78 (by decide +kernel) ?_
  refine g_bipush (v := 112) dX5_init_79 (by decide +kernel) ?_
  refine gl_iast 0 dX5_init_81 (by decide +kernel) (by decide) (by decide) ?_
  refine g_dup dX5_init_82 ?_
  refine g_iconst (v := 1) dX5_init_83 (by decide +kernel) ?_
  refine g_bipush (v := 108) dX5_init_84 (by decide +kernel) ?_
  refine gl_iast 1 dX5_init_86 (by decide +kernel) (by decide) (by decide) ?_
  refine g_dup dX5_init_87 ?_
  refine g_iconst (v := 2) dX5_init_88 (by decide +kernel) ?_
  refine g_bipush (v := 97) dX5_init_89 (by decide +kernel) ?_
  refine gl_iast 2 dX5_init_91 (by decide +kernel) (by decide) (by decide) ?_
  refine g_dup dX5_init_92 ?_
  refine g_iconst (v := 3) dX5_init_93 (by decide +kernel) ?_
  refine g_bipush (v := 105) dX5_init_94 (by decide +kernel) ?_
  refine gl_iast 3 dX5_init_96 (by decide +kernel) (by decide) (by decide) ?_
  refine g_dup dX5_init_97 ?_
  refine g_iconst (v := 4) dX5_init_98 (by decide +kernel) ?_
  refine g_bipush (v := 110) dX5_init_99 (by decide +kernel) ?_
  refine gl_iast 4 dX5_init_101 (by decide +kernel) (by decide) (by decide) ?_
  refine g_dup dX5_init_102 ?_
  refine g_iconst (v := 5) dX5_init_103 (by decide +kernel) ?_
  refine g_bipush (v := 114) dX5_init_104 (by decide +kernel) ?_
  refine gl_iast 5 dX5_init_106 (by decide +kernel) (by decide) (by decide) ?_
  refine g_dup dX5_init_107 ?_
  refine g_bipush (v := 6) dX5_init_108 (by decide +kernel) ?_
  refine g_bipush (v := 111) dX5_init_110 (by decide +kernel) ?_
  refine gl_iast 6 dX5_init_112 (by decide +kernel) (by decide) (by decide) ?_
  refine g_dup dX5_init_113 ?_
  refine g_bipush (v := 7) dX5_init_114 (by decide +kernel) ?_
  refine g_bipush (v := 110) dX5_init_116 (by decide +kernel) ?_
  refine gl_iast 7 dX5_init_118 (by decide +kernel) (by decide) (by decide) ?_
  refine g_dup dX5_init_119 ?_
  refine g_bipush (v := 8) dX5_init_120 (by decide +kernel) ?_
  refine g_bipush (v := 100) dX5_init_122 (by decide +kernel) ?_
  refine gl_iast 8 dX5_init_124 (by decide +kernel) (by decide) (by decide) ?_
  refine g_dup dX5_init_125 ?_
  refine g_bipush (v := 9) dX5_init_126 (by decide +kernel) ?_
  refine g_bipush (v := 111) dX5_init_128 (by decide +kernel) ?_
  refine gl_iast 9 dX5_init_130 (by decide +kernel) (by decide) (by decide) ?_
  refine g_dup dX5_init_131 ?_
  refine g_bipush (v := 10) dX5_init_132 (by decide +kernel) ?_
  refine g_bipush (v := 102) dX5_init_134 (by decide +kernel) ?_
  refine gl_iast 10 dX5_init_136 (by decide +kernel) (by decide) (by decide) ?_
  refine g_dup dX5_init_137 ?_
  refine g_bipush (v := 11) dX5_init_138 (by decide +kernel) ?_
  refine g_bipush (v := 117) dX5_init_140 (by decide +kernel) ?_
  refine gl_iast 11 dX5_init_142 (by decide +kernel) (by decide) (by decide) ?_
  refine g_dup dX5_init_143 ?_
  refine g_bipush (v := 12) dX5_init_144 (by decide +kernel) ?_
  refine g_bipush (v := 103) dX5_init_146 (by decide +kernel) ?_
  refine gl_iast 12 dX5_init_148 (by decide +kernel) (by decide) (by decide) ?_
  refine g_dup dX5_init_149 ?_
  refine g_bipush (v := 13) dX5_init_150 (by decide +kernel) ?_
  refine g_bipush (v := 117) dX5_init_152 (by decide +kernel) ?_
  refine gl_iast 13 dX5_init_154 (by decide +kernel) (by decide) (by decide) ?_
  refine g_dup dX5_init_155 ?_
  refine g_bipush (v := 14) dX5_init_156 (by decide +kernel) ?_
  refine g_bipush (v := 101) dX5_init_158 (by decide +kernel) ?_
  refine gl_iast 14 dX5_init_160 (by decide +kernel) (by decide) (by decide) ?_
  refine g_dup dX5_init_161 ?_
  refine g_bipush (v := 15) dX5_init_162 (by decide +kernel) ?_
  refine g_bipush (v := 108) dX5_init_164 (by decide +kernel) ?_
  refine gl_iast 15 dX5_init_166 (by decide +kernel) (by decide) (by decide) ?_
  refine g_dup dX5_init_167 ?_
  refine g_bipush (v := 16) dX5_init_168 (by decide +kernel) ?_
  refine g_bipush (v := 117) dX5_init_170 (by decide +kernel) ?_
  refine gl_iast 16 dX5_init_172 (by decide +kernel) (by decide) (by decide) ?_
  refine g_dup dX5_init_173 ?_
  refine g_bipush (v := 17) dX5_init_174 (by decide +kernel) ?_
  refine g_bipush (v := 108) dX5_init_176 (by decide +kernel) ?_
  refine gl_iast 17 dX5_init_178 (by decide +kernel) (by decide) (by decide) ?_
  refine g_dup dX5_init_179 ?_
  refine g_bipush (v := 18) dX5_init_180 (by decide +kernel) ?_
  refine g_bipush (v := 108) dX5_init_182 (by decide +kernel) ?_
  refine gl_iast 18 dX5_init_184 (by decide +kernel) (by decide) (by decide) ?_
  refine g_dup dX5_init_185 ?_
  refine g_bipush (v := 19) dX5_init_186 (by decide +kernel) ?_
  refine g_bipush (v := 97) dX5_init_188 (by decide +kernel) ?_
  refine gl_iast 19 dX5_init_190 (by decide +kernel) (by decide) (by decide) ?_
  refine g_dup dX5_init_191 ?_
  refine g_bipush (v := 20) dX5_init_192 (by decide +kernel) ?_
  refine g_bipush (v := 98) dX5_init_194 (by decide +kernel) ?_
  refine gl_iast 20 dX5_init_196 (by decide +kernel) (by decide) (by decide) ?_
  refine g_dup dX5_init_197 ?_
  refine g_bipush (v := 21) dX5_init_198 (by decide +kernel) ?_
  refine g_bipush (v := 121) dX5_init_200 (by decide +kernel) ?_
  refine gl_iast 21 dX5_init_202 (by decide +kernel) (by decide) (by decide) ?_
  refine g_dup dX5_init_203 ?_
  refine g_bipush (v := 22) dX5_init_204 (by decide +kernel) ?_
  refine g_bipush (v := 112) dX5_init_206 (by decide +kernel) ?_
  refine gl_iast 22 dX5_init_208 (by decide +kernel) (by decide) (by decide) ?_
  refine g_dup dX5_init_209 ?_
  refine g_bipush (v := 23) dX5_init_210 (by decide +kernel) ?_
  refine g_bipush (v := 108) dX5_init_212 (by decide +kernel) ?_
  refine gl_iast 23 dX5_init_214 (by decide +kernel) (by decide) (by decide) ?_
  refine g_dup dX5_init_215 ?_
  refine g_bipush (v := 24) dX5_init_216 (by decide +kernel) ?_
  refine g_bipush (v := 97) dX5_init_218 (by decide +kernel) ?_
  refine gl_iast 24 dX5_init_220 (by decide +kernel) (by decide) (by decide) ?_
  refine g_dup dX5_init_221 ?_
  refine g_bipush (v := 25) dX5_init_222 (by decide +kernel) ?_
  refine g_bipush (v := 121) dX5_init_224 (by decide +kernel) ?_
  refine gl_iast 25 dX5_init_226 (by decide +kernel) (by decide) (by decide) ?_
  refine g_dup dX5_init_227 ?_
  refine g_bipush (v := 26) dX5_init_228 (by decide +kernel) ?_
  refine g_bipush (v := 101) dX5_init_230 (by decide +kernel) ?_
  refine gl_iast 26 dX5_init_232 (by decide +kernel) (by decide) (by decide) ?_
  refine g_dup dX5_init_233 ?_
  refine g_bipush (v := 27) dX5_init_234 (by decide +kernel) ?_
  refine g_bipush (v := 114) dX5_init_236 (by decide +kernel) ?_
  refine gl_iast 27 dX5_init_238 (by decide +kernel) (by decide) (by decide) ?_
  refine g_dup dX5_init_239 ?_
  refine g_bipush (v := 28) dX5_init_240 (by decide +kernel) ?_
  refine g_bipush (v := 98) dX5_init_242 (by decide +kernel) ?_
  refine gl_iast 28 dX5_init_244 (by decide +kernel) (by decide) (by decide) ?_
  refine g_dup dX5_init_245 ?_
  refine g_bipush (v := 29) dX5_init_246 (by decide +kernel) ?_
  refine g_bipush (v := 111) dX5_init_248 (by decide +kernel) ?_
  refine gl_iast 29 dX5_init_250 (by decide +kernel) (by decide) (by decide) ?_
  refine g_dup dX5_init_251 ?_
  refine g_bipush (v := 30) dX5_init_252 (by decide +kernel) ?_
  refine g_bipush (v := 117) dX5_init_254 (by decide +kernel) ?_
  refine gl_iast 30 dX5_init_256 (by decide +kernel) (by decide) (by decide) ?_
  refine g_dup dX5_init_257 ?_
  refine g_bipush (v := 31) dX5_init_258 (by decide +kernel) ?_
  refine g_bipush (v := 110) dX5_init_260 (by decide +kernel) ?_
  refine gl_iast 31 dX5_init_262 (by decide +kernel) (by decide) (by decide) ?_
  refine g_dup dX5_init_263 ?_
  refine g_bipush (v := 32) dX5_init_264 (by decide +kernel) ?_
  refine g_bipush (v := 100) dX5_init_266 (by decide +kernel) ?_
  refine gl_iast 32 dX5_init_268 (by decide +kernel) (by decide) (by decide) ?_
  refine gh_putF 19 dX5_init_269 ck5 (by decide) w785 rfl rfl rfl rfl (Nat.le_of_ble_eq_true rfl) (fs2 := [.ref q8, .int 0, .int 0, .int 0, .ref q16, .int 0, .int 0, .int 0, .int 0, .ref q25, .int 0, .int 0, .int 0, .int 0, .int 0, .int 0, .int 0, .int 0, .ref q33, .ref q75, .null, .null, .null, .null, .null, .null, .int 0, .null, .int 0, .int 0, .null, .null, .null, .null, .int 0]) rfl ?_
  refine g_aload_n dX5_init_272 rfl ?_
  refine g_iconst (v := 4) dX5_init_273 (by decide +kernel) ?_
  refine gh_newi (N := 4) dX5_init_274 (by decide +kernel) (by decide) (by decide) (by decide) (fun q274 => ?_)
  refine gh_putF 20 dX5_init_276 ck5 (by decide) w786 rfl rfl rfl rfl (Nat.le_of_ble_eq_true rfl) (fs2 := [.ref q8, .int 0, .int 0, .int 0, .ref q16, .int 0, .int 0, .int 0, .int 0, .ref q25, .int 0, .int 0, .int 0, .int 0, .int 0, .int 0, .int 0, .int 0, .ref q33, .ref q75, .ref q274, .null, .null, .null, .null, .null, .int 0, .null, .int 0, .int 0, .null, .null, .null, .null, .int 0]) rfl ?_
  refine g_aload_n dX5_init_279 rfl ?_
  refine g_iconst (v := 4) dX5_init_280 (by decide +kernel) ?_
  refine gh_newi (N := 4) dX5_init_281 (by decide +kernel) (by decide) (by decide) (by decide) (fun q281 => ?_)
  refine gh_putF 21 dX5_init_283 ck5 (by decide) w787 rfl rfl rfl rfl (Nat.le_of_ble_eq_true rfl) (fs2 := [.ref q8, .int 0, .int 0, .int 0, .ref q16, .int 0, .int 0, .int 0, .int 0, .ref q25, .int 0, .int 0, .int 0, .int 0, .int 0, .int 0, .int 0, .int 0, .ref q33, .ref q75, .ref q274, .ref q281, .null, .null, .null, .null, .int 0, .null, .int 0, .int 0, .null, .null, .null, .null, .int 0]) rfl ?_
  refine g_aload_n dX5_init_286 rfl ?_
  refine g_iconst (v := 4) dX5_init_287 (by decide +kernel) ?_
  refine gh_newi (N := 4) dX5_init_288 (by decide +kernel) (by decide) (by decide) (by decide) (fun q288 => ?_)
  refine gh_putF 22 dX5_init_290 ck5 (by decide) w788 rfl rfl rfl rfl (Nat.le_of_ble_eq_true rfl) (fs2 := [.ref q8, .int 0, .int 0, .int 0, .ref q16, .int 0, .int 0, .int 0, .int 0, .ref q25, .int 0, .int 0, .int 0, .int 0, .int 0, .int 0, .int 0, .int 0, .ref q33, .ref q75, .ref q274, .ref q281, .ref q288, .null, .null, .null, .int 0, .null, .int 0, .int 0, .null, .null, .null, .null, .int 0]) rfl ?_
  refine g_aload_n dX5_init_293 rfl ?_
  refine g_iconst (v := 4) dX5_init_294 (by decide +kernel) ?_
  refine gh_newi (N := 4) dX5_init_295 (by decide +kernel) (by decide) (by decide) (by decide) (fun q295 => ?_)
  refine gh_putF 23 dX5_init_297 ck5 (by decide) w789 rfl rfl rfl rfl (Nat.le_of_ble_eq_true rfl) (fs2 := [.ref q8, .int 0, .int 0, .int 0, .ref q16, .int 0, .int 0, .int 0, .int 0, .ref q25, .int 0, .int 0, .int 0, .int 0, .int 0, .int 0, .int 0, .int 0, .ref q33, .ref q75, .ref q274, .ref q281, .ref q288, .ref q295, .null, .null, .int 0, .null, .int 0, .int 0, .null, .null, .null, .null, .int 0]) rfl ?_
  refine g_aload_n dX5_init_300 rfl ?_
  refine g_iconst (v := 4) dX5_init_301 (by decide +kernel) ?_
  refine gh_newi (N := 4) dX5_init_302 (by decide +kernel) (by decide) (by decide) (by decide) (fun q302 => ?_)
  refine gh_putF 24 dX5_init_304 ck5 (by decide) w790 rfl rfl rfl rfl (Nat.le_of_ble_eq_true rfl) (fs2 := [.ref q8, .int 0, .int 0, .int 0, .ref q16, .int 0, .int 0, .int 0, .int 0, .ref q25, .int 0, .int 0, .int 0, .int 0, .int 0, .int 0, .int 0, .int 0, .ref q33, .ref q75, .ref q274, .ref q281, .ref q288, .ref q295, .ref q302, .null, .int 0, .null, .int 0, .int 0, .null, .null, .null, .null, .int 0]) rfl ?_
  refine g_aload_n dX5_init_307 rfl ?_
  refine g_sipush (v := 160) dX5_init_308 (by decide +kernel) ?_
  refine gh_newi (N := 160) dX5_init_311 (by decide +kernel) (by decide) (by decide) (by decide) (fun q311 => ?_)
  refine gh_putF 25 dX5_init_313 ck5 (by decide) w791 rfl rfl rfl rfl (Nat.le_of_ble_eq_true rfl) (fs2 := [.ref q8, .int 0, .int 0, .int 0, .ref q16, .int 0, .int 0, .int 0, .int 0, .ref q25, .int 0, .int 0, .int 0, .int 0, .int 0, .int 0, .int 0, .int 0, .ref q33, .ref q75, .ref q274, .ref q281, .ref q288, .ref q295, .ref q302, .ref q311, .int 0, .null, .int 0, .int 0, .null, .null, .null, .null, .int 0]) rfl ?_
  refine g_aload_n dX5_init_316 rfl ?_
  refine g_bipush (v := 18) dX5_init_317 (by decide +kernel) ?_
  refine gh_newi (N := 18) dX5_init_319 (by decide +kernel) (by decide) (by decide) (by decide) (fun q319 => ?_)
  refine gh_putF 27 dX5_init_321 ck5 (by decide) w793 rfl rfl rfl rfl (Nat.le_of_ble_eq_true rfl) (fs2 := [.ref q8, .int 0, .int 0, .int 0, .ref q16, .int 0, .int 0, .int 0, .int 0, .ref q25, .int 0, .int 0, .int 0, .int 0, .int 0, .int 0, .int 0, .int 0, .ref q33, .ref q75, .ref q274, .ref q281, .ref q288, .ref q295, .ref q302, .ref q311, .int 0, .ref q319, .int 0, .int 0, .null, .null, .null, .null, .int 0]) rfl ?_
  refine g_aload_n dX5_init_324 rfl ?_
  refine g_iconst (v := 2) dX5_init_325 (by decide +kernel) ?_
  refine gh_newz (N := 2) dX5_init_326 (by decide +kernel) (by decide) (by decide) (by decide) (fun q326 => ?_)
  refine gh_putF 30 dX5_init_328 ck5 (by decide) w796 rfl rfl rfl rfl (Nat.le_of_ble_eq_true rfl) (fs2 := [.ref q8, .int 0, .int 0, .int 0, .ref q16, .int 0, .int 0, .int 0, .int 0, .ref q25, .int 0, .int 0, .int 0, .int 0, .int 0, .int 0, .int 0, .int 0, .ref q33, .ref q75, .ref q274, .ref q281, .ref q288, .ref q295, .ref q302, .ref q311, .int 0, .ref q319, .int 0, .int 0, .ref q326, .null, .null, .null, .int 0]) rfl ?_
  refine g_aload_n dX5_init_331 rfl ?_
  refine g_iconst (v := 4) dX5_init_332 (by decide +kernel) ?_
  refine gh_newi (N := 4) dX5_init_333 (by decide +kernel) (by decide) (by decide) (by decide) (fun q333 => ?_)
  refine g_dup dX5_init_335 ?_
  refine g_iconst (v := 0) dX5_init_336 (by decide +kernel) ?_
  refine g_bipush (v := (-4)) dX5_init_337 (by decide +kernel) ?_
  refine gl_iast 0 dX5_init_339 (by decide +kernel) (by decide) (by decide) ?_
  refine g_dup dX5_init_340 ?_
  refine g_iconst (v := 1) dX5_init_341 (by decide +kernel) ?_
  refine g_bipush (v := (-4)) dX5_init_342 (by decide +kernel) ?_
  refine gl_iast 1 dX5_init_344 (by decide +kernel) (by decide) (by decide) ?_
  refine g_dup dX5_init_345 ?_
  refine g_iconst (v := 2) dX5_init_346 (by decide +kernel) ?_
  refine g_bipush (v := (-4)) dX5_init_347 (by decide +kernel) ?_
  refine gl_iast 2 dX5_init_349 (by decide +kernel) (by decide) (by decide) ?_
  refine g_dup dX5_init_350 ?_
  refine g_iconst (v := 3) dX5_init_351 (by decide +kernel) ?_
  refine g_bipush (v := (-4)) dX5_init_352 (by decide +kernel) ?_
  refine gl_iast 3 dX5_init_354 (by decide +kernel) (by decide) (by decide) ?_
  refine gh_putF 31 dX5_init_355 ck5 (by decide) w797 rfl rfl rfl rfl (Nat.le_of_ble_eq_true rfl) (fs2 := [.ref q8, .int 0, .int 0, .int 0, .ref q16, .int 0, .int 0, .int 0, .int 0, .ref q25, .int 0, .int 0, .int 0, .int 0, .int 0, .int 0, .int 0, .int 0, .ref q33, .ref q75, .ref q274, .ref q281, .ref q288, .ref q295, .ref q302, .ref q311, .int 0, .ref q319, .int 0, .int 0, .ref q326, .ref q333, .null, .null, .int 0]) rfl ?_
  refine g_aload_n dX5_init_358 rfl ?_
  refine g_iconst (v := 4) dX5_init_359 (by decide +kernel) ?_
  refine gh_newi (N := 4) dX5_init_360 (by decide +kernel) (by decide) (by decide) (by decide) (fun q360 => ?_)
  refine gh_putF 32 dX5_init_362 ck5 (by decide) w798 rfl rfl rfl rfl (Nat.le_of_ble_eq_true rfl) (fs2 := [.ref q8, .int 0, .int 0, .int 0, .ref q16, .int 0, .int 0, .int 0, .int 0, .ref q25, .int 0, .int 0, .int 0, .int 0, .int 0, .int 0, .int 0, .int 0, .ref q33, .ref q75, .ref q274, .ref q281, .ref q288, .ref q295, .ref q302, .ref q311, .int 0, .ref q319, .int 0, .int 0, .ref q326, .ref q333, .ref q360, .null, .int 0]) rfl ?_
  refine g_aload_n dX5_init_365 rfl ?_
  refine g_sipush (v := 160) dX5_init_366 (by decide +kernel) ?_
  refine gh_newi (N := 160) dX5_init_369 (by decide +kernel) (by decide) (by decide) (by decide) (fun q369 => ?_)
  refine gh_putF 33 dX5_init_371 ck5 (by decide) w799 rfl rfl rfl rfl (Nat.le_of_ble_eq_true rfl) (fs2 := [.ref q8, .int 0, .int 0, .int 0, .ref q16, .int 0, .int 0, .int 0, .int 0, .ref q25, .int 0, .int 0, .int 0, .int 0, .int 0, .int 0, .int 0, .int 0, .ref q33, .ref q75, .ref q274, .ref q281, .ref q288, .ref q295, .ref q302, .ref q311, .int 0, .ref q319, .int 0, .int 0, .ref q326, .ref q333, .ref q360, .ref q369, .int 0]) rfl ?_
  refine g_ret dX5_init_374 (by decide) (by decide) ⟨fun k => [q0, q8, q16, q25, q33, q75, q274, q281, q288, q295, q302, q311, q319, q326, q333, q360, q369].getD k 0, rfl, ?_⟩
  generalize had : (fun k => [q0, q8, q16, q25, q33, q75, q274, q281, q288, q295, q302, q311, q319, q326, q333, q360, q369].getD k 0 : Nat → Nat) = ad
  have k0 : ad 0 = q0 := by rw [← had]; rfl
  have k1 : ad 1 = q8 := by rw [← had]; rfl
  have k2 : ad 2 = q16 := by rw [← had]; rfl
  have k3 : ad 3 = q25 := by rw [← had]; rfl
  have k4 : ad 4 = q33 := by rw [← had]; rfl
  have k5 : ad 5 = q75 := by rw [← had]; rfl
  have k6 : ad 6 = q274 := by rw [← had]; rfl
  have k7 : ad 7 = q281 := by rw [← had]; rfl
  have k8 : ad 8 = q288 := by rw [← had]; rfl
  have k9 : ad 9 = q295 := by rw [← had]; rfl
  have k10 : ad 10 = q302 := by rw [← had]; rfl
  have k11 : ad 11 = q311 := by rw [← had]; rfl
  have k12 : ad 12 = q319 := by rw [← had]; rfl
  have k13 : ad 13 = q326 := by rw [← had]; rfl
  have k14 : ad 14 = q333 := by rw [← had]; rfl
  have k15 : ad 15 = q360 := by rw [← had]; rfl
  have k16 : ad 16 = q369 := by rw [← had]; rfl
  clear had
  rw [wsF_0, sm_split]
  simp only [wsF_app]
  simp only [List.append_assoc, List.nil_append]
  have p0 : wsF ad cA 0 [mShp] dM0 = [(q0, .inr (5, [.ref q8, .int 0, .int 0, .int 0, .ref q16, .int 0, .int 0, .int 0, .int 0, .ref q25, .int 0, .int 0, .int 0, .int 0, .int 0, .int 0, .int 0, .int 0, .ref q33, .ref q75, .ref q274, .ref q281, .ref q288, .ref q295, .ref q302, .ref q311, .int 0, .ref q319, .int 0, .int 0, .ref q326, .ref q333, .ref q360, .ref q369, .int 0]))] := by
    rw [wsF_1, dM0_0, mShp_ent, k0, k1, k2, k3, k4, k5, k6, k7, k8, k9, k10, k11, k12, k13, k14, k15, k16]
  have p1 : wsF ad cA 1 [(0, 350, [])] dM0 = [(q8, .inl (cA 0, 350, .inl (fun _ => 0)))] := by
    rw [wsF_1, dM0_1, k1]; rfl
  have p2 : wsF ad cA 2 [(0, 70, [])] dM0 = [(q16, .inl (cA 0, 70, .inl (fun _ => 0)))] := by
    rw [wsF_1, dM0_2, k2]; rfl
  have p3 : wsF ad cA 3 [(0, 160, [])] dM0 = [(q25, .inl (cA 0, 160, .inl (fun _ => 0)))] := by
    rw [wsF_1, dM0_3, k3]; rfl
  have p4 : wsF ad cA 4 [(0, 7, [])] dM0 = [(q33, .inl (cA 0, 7, .inl (upd (upd (upd (upd (upd (upd (upd (fun _ => 0) 0 0) 1 5) 2 10) 3 15) 4 22) 5 28) 6 33)))] := by
    rw [wsF_1, dM0_4, k4]; rfl
  have p5 : wsF ad cA 5 [(0, 33, [])] dM0 = [(q75, .inl (cA 0, 33, .inl (upd (upd (upd (upd (upd (upd (upd (upd (upd (upd (upd (upd (upd (upd (upd (upd (upd (upd (upd (upd (upd (upd (upd (upd (upd (upd (upd (upd (upd (upd (upd (upd (upd (fun _ => 0) 0 112) 1 108) 2 97) 3 105) 4 110) 5 114) 6 111) 7 110) 8 100) 9 111) 10 102) 11 117) 12 103) 13 117) 14 101) 15 108) 16 117) 17 108) 18 108) 19 97) 20 98) 21 121) 22 112) 23 108) 24 97) 25 121) 26 101) 27 114) 28 98) 29 111) 30 117) 31 110) 32 100)))] := by
    rw [wsF_1, dM0_5, k5]; rfl
  have p6 : wsF ad cA 6 [(0, 4, [])] dM0 = [(q274, .inl (cA 0, 4, .inl (fun _ => 0)))] := by
    rw [wsF_1, dM0_6, k6]; rfl
  have p7 : wsF ad cA 7 [(0, 4, [])] dM0 = [(q281, .inl (cA 0, 4, .inl (fun _ => 0)))] := by
    rw [wsF_1, dM0_7, k7]; rfl
  have p8 : wsF ad cA 8 [(0, 4, [])] dM0 = [(q288, .inl (cA 0, 4, .inl (fun _ => 0)))] := by
    rw [wsF_1, dM0_8, k8]; rfl
  have p9 : wsF ad cA 9 [(0, 4, [])] dM0 = [(q295, .inl (cA 0, 4, .inl (fun _ => 0)))] := by
    rw [wsF_1, dM0_9, k9]; rfl
  have p10 : wsF ad cA 10 [(0, 4, [])] dM0 = [(q302, .inl (cA 0, 4, .inl (fun _ => 0)))] := by
    rw [wsF_1, dM0_10, k10]; rfl
  have p11 : wsF ad cA 11 [(0, 160, [])] dM0 = [(q311, .inl (cA 0, 160, .inl (fun _ => 0)))] := by
    rw [wsF_1, dM0_11, k11]; rfl
  have p12 : wsF ad cA 12 [(0, 18, [])] dM0 = [(q319, .inl (cA 0, 18, .inl (fun _ => 0)))] := by
    rw [wsF_1, dM0_12, k12]; rfl
  have p13 : wsF ad cA 13 [(1, 2, [])] dM0 = [(q326, .inl (cA 1, 2, .inl (fun _ => 0)))] := by
    rw [wsF_1, dM0_13, k13]; rfl
  have p14 : wsF ad cA 14 [(0, 4, [])] dM0 = [(q333, .inl (cA 0, 4, .inl (upd (upd (upd (upd (fun _ => 0) 0 (-4)) 1 (-4)) 2 (-4)) 3 (-4))))] := by
    rw [wsF_1, dM0_14, k14]; rfl
  have p15 : wsF ad cA 15 [(0, 4, [])] dM0 = [(q360, .inl (cA 0, 4, .inl (fun _ => 0)))] := by
    rw [wsF_1, dM0_15, k15]; rfl
  have p16 : wsF ad cA 16 [(0, 160, [])] dM0 = [(q369, .inl (cA 0, 160, .inl (fun _ => 0)))] := by
    rw [wsF_1, dM0_16, k16]; rfl
  refine Eq.trans ?_ (app2 p0 (app2 p1 (app2 p2 (app2 p3 (app2 p4 (app2 p5 (app2 p6 (app2 p7 (app2 p8 (app2 p9 (app2 p10 (app2 p11 (app2 p12 (app2 p13 (app2 p14 (app2 p15 (p16))))))))))))))))).symm
  simp only [List.cons_append, List.nil_append]
