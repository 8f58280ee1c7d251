theorem dX11_init_0 : decode cX11_init 0 = .ok (.aload_n 0, 1) := by decide +kernel
theorem dX11_init_1 : decode cX11_init 1 = .ok (.invokespecial 3, 3) := by decide +kernel
theorem dX11_init_4 : decode cX11_init 4 = .ok (.aload_n 0, 1) := by decide +kernel
theorem dX11_init_5 : decode cX11_init 5 = .ok (.bipush 36, 2) := by decide +kernel
theorem dX11_init_7 : decode cX11_init 7 = .ok (.newarray .int, 2) := by decide +kernel
theorem dX11_init_9 : decode cX11_init 9 = .ok (.putfield 9, 3) := by decide +kernel
theorem dX11_init_12 : decode cX11_init 12 = .ok (.aload_n 0, 1) := by decide +kernel
theorem dX11_init_13 : decode cX11_init 13 = .ok (.bipush 16, 2) := by decide +kernel
theorem dX11_init_15 : decode cX11_init 15 = .ok (.newarray .int, 2) := by decide +kernel
theorem dX11_init_17 : decode cX11_init 17 = .ok (.putfield 15, 3) := by decide +kernel
theorem dX11_init_20 : decode cX11_init 20 = .ok (.aload_n 0, 1) := by decide +kernel
theorem dX11_init_21 : decode cX11_init 21 = .ok (.bipush 16, 2) := by decide +kernel
theorem dX11_init_23 : decode cX11_init 23 = .ok (.newarray .int, 2) := by decide +kernel
theorem dX11_init_25 : decode cX11_init 25 = .ok (.dup, 1) := by decide +kernel
theorem dX11_init_26 : decode cX11_init 26 = .ok (.iconst 0, 1) := by decide +kernel
theorem dX11_init_27 : decode cX11_init 27 = .ok (.iconst 2, 1) := by decide +kernel
theorem dX11_init_28 : decode cX11_init 28 = .ok (.iastore, 1) := by decide +kernel
theorem dX11_init_29 : decode cX11_init 29 = .ok (.dup, 1) := by decide +kernel
theorem dX11_init_30 : decode cX11_init 30 = .ok (.iconst 1, 1) := by decide +kernel
theorem dX11_init_31 : decode cX11_init 31 = .ok (.iconst 2, 1) := by decide +kernel
theorem dX11_init_32 : decode cX11_init 32 = .ok (.iastore, 1) := by decide +kernel
theorem dX11_init_33 : decode cX11_init 33 = .ok (.dup, 1) := by decide +kernel
theorem dX11_init_34 : decode cX11_init 34 = .ok (.iconst 2, 1) := by decide +kernel
theorem dX11_init_35 : decode cX11_init 35 = .ok (.iconst 2, 1) := by decide +kernel
theorem dX11_init_36 : decode cX11_init 36 = .ok (.iastore, 1) := by decide +kernel
theorem dX11_init_37 : decode cX11_init 37 = .ok (.dup, 1) := by decide +kernel
theorem dX11_init_38 : decode cX11_init 38 = .ok (.iconst 3, 1) := by decide +kernel
theorem dX11_init_39 : decode cX11_init 39 = .ok (.iconst 2, 1) := by decide +kernel
theorem dX11_init_40 : decode cX11_init 40 = .ok (.iastore, 1) := by decide +kernel
theorem dX11_init_41 : decode cX11_init 41 = .ok (.dup, 1) := by decide +kernel
theorem dX11_init_42 : decode cX11_init 42 = .ok (.iconst 4, 1) := by decide +kernel
theorem dX11_init_43 : decode cX11_init 43 = .ok (.iconst 2, 1) := by decide +kernel
theorem dX11_init_44 : decode cX11_init 44 = .ok (.iastore, 1) := by decide +kernel
theorem dX11_init_45 : decode cX11_init 45 = .ok (.dup, 1) := by decide +kernel
theorem dX11_init_46 : decode cX11_init 46 = .ok (.iconst 5, 1) := by decide +kernel
theorem dX11_init_47 : decode cX11_init 47 = .ok (.iconst 2, 1) := by decide +kernel
theorem dX11_init_48 : decode cX11_init 48 = .ok (.iastore, 1) := by decide +kernel
theorem dX11_init_49 : decode cX11_init 49 = .ok (.dup, 1) := by decide +kernel
theorem dX11_init_50 : decode cX11_init 50 = .ok (.bipush 6, 2) := by decide +kernel
theorem dX11_init_52 : decode cX11_init 52 = .ok (.iconst 2, 1) := by decide +kernel
theorem dX11_init_53 : decode cX11_init 53 = .ok (.iastore, 1) := by decide +kernel
theorem dX11_init_54 : decode cX11_init 54 = .ok (.dup, 1) := by decide +kernel
theorem dX11_init_55 : decode cX11_init 55 = .ok (.bipush 7, 2) := by decide +kernel
theorem dX11_init_57 : decode cX11_init 57 = .ok (.iconst 2, 1) := by decide +kernel
theorem dX11_init_58 : decode cX11_init 58 = .ok (.iastore, 1) := by decide +kernel
theorem dX11_init_59 : decode cX11_init 59 = .ok (.dup, 1) := by decide +kernel
theorem dX11_init_60 : decode cX11_init 60 = .ok (.bipush 8, 2) := by decide +kernel
theorem dX11_init_62 : decode cX11_init 62 = .ok (.iconst 2, 1) := by decide +kernel
theorem dX11_init_63 : decode cX11_init 63 = .ok (.iastore, 1) := by decide +kernel
theorem dX11_init_64 : decode cX11_init 64 = .ok (.dup, 1) := by decide +kernel
theorem dX11_init_65 : decode cX11_init 65 = .ok (.bipush 9, 2) := by decide +kernel
theorem dX11_init_67 : decode cX11_init 67 = .ok (.iconst 2, 1) := by decide +kernel
theorem dX11_init_68 : decode cX11_init 68 = .ok (.iastore, 1) := by decide +kernel
theorem dX11_init_69 : decode cX11_init 69 = .ok (.dup, 1) := by decide +kernel
theorem dX11_init_70 : decode cX11_init 70 = .ok (.bipush 10, 2) := by decide +kernel
theorem dX11_init_72 : decode cX11_init 72 = .ok (.iconst 2, 1) := by decide +kernel
theorem dX11_init_73 : decode cX11_init 73 = .ok (.iastore, 1) := by decide +kernel
theorem dX11_init_74 : decode cX11_init 74 = .ok (.dup, 1) := by decide +kernel
theorem dX11_init_75 : decode cX11_init 75 = .ok (.bipush 11, 2) := by decide +kernel
theorem dX11_init_77 : decode cX11_init 77 = .ok (.iconst 2, 1) := by decide +kernel
theorem dX11_init_78 : decode cX11_init 78 = .ok (.iastore, 1) := by decide +kernel
theorem dX11_init_79 : decode cX11_init 79 = .ok (.dup, 1) := by decide +kernel
theorem dX11_init_80 : decode cX11_init 80 = .ok (.bipush 12, 2) := by decide +kernel
theorem dX11_init_82 : decode cX11_init 82 = .ok (.iconst 2, 1) := by decide +kernel
theorem dX11_init_83 : decode cX11_init 83 = .ok (.iastore, 1) := by decide +kernel
theorem dX11_init_84 : decode cX11_init 84 = .ok (.dup, 1) := by decide +kernel
theorem dX11_init_85 : decode cX11_init 85 = .ok (.bipush 13, 2) := by decide +kernel
theorem dX11_init_87 : decode cX11_init 87 = .ok (.iconst 2, 1) := by decide +kernel
theorem dX11_init_88 : decode cX11_init 88 = .ok (.iastore, 1) := by decide +kernel
theorem dX11_init_89 : decode cX11_init 89 = .ok (.dup, 1) := by decide +kernel
theorem dX11_init_90 : decode cX11_init 90 = .ok (.bipush 14, 2) := by decide +kernel
theorem dX11_init_92 : decode cX11_init 92 = .ok (.iconst 2, 1) := by decide +kernel
theorem dX11_init_93 : decode cX11_init 93 = .ok (.iastore, 1) := by decide +kernel
theorem dX11_init_94 : decode cX11_init 94 = .ok (.dup, 1) := by decide +kernel
theorem dX11_init_95 : decode cX11_init 95 = .ok (.bipush 15, 2) := by decide +kernel
theorem dX11_init_97 : decode cX11_init 97 = .ok (.iconst 2, 1) := by decide +kernel
theorem dX11_init_98 : decode cX11_init 98 = .ok (.iastore, 1) := by decide +kernel
theorem dX11_init_99 : decode cX11_init 99 = .ok (.putfield 18, 3) := by decide +kernel
theorem dX11_init_102 : decode cX11_init 102 = .ok (.aload_n 0, 1) := by decide +kernel
theorem dX11_init_103 : decode cX11_init 103 = .ok (.bipush 20, 2) := by decide +kernel
theorem dX11_init_105 : decode cX11_init 105 = .ok (.newarray .int, 2) := by decide +kernel
theorem dX11_init_107 : decode cX11_init 107 = .ok (.dup, 1) := by decide +kernel
theorem dX11_init_108 : decode cX11_init 108 = .ok (.iconst 0, 1) := by decide +kernel
theorem dX11_init_109 : decode cX11_init 109 = .ok (.iconst 0, 1) := by decide +kernel
theorem dX11_init_110 : decode cX11_init 110 = .ok (.iastore, 1) := by decide +kernel
theorem dX11_init_111 : decode cX11_init 111 = .ok (.dup, 1) := by decide +kernel
theorem dX11_init_112 : decode cX11_init 112 = .ok (.iconst 1, 1) := by decide +kernel
theorem dX11_init_113 : decode cX11_init 113 = .ok (.iconst 0, 1) := by decide +kernel
theorem dX11_init_114 : decode cX11_init 114 = .ok (.iastore, 1) := by decide +kernel
theorem dX11_init_115 : decode cX11_init 115 = .ok (.dup, 1) := by decide +kernel
theorem dX11_init_116 : decode cX11_init 116 = .ok (.iconst 2, 1) := by decide +kernel
theorem dX11_init_117 : decode cX11_init 117 = .ok (.iconst 0, 1) := by decide +kernel
theorem dX11_init_118 : decode cX11_init 118 = .ok (.iastore, 1) := by decide +kernel
theorem dX11_init_119 : decode cX11_init 119 = .ok (.dup, 1) := by decide +kernel
theorem dX11_init_120 : decode cX11_init 120 = .ok (.iconst 3, 1) := by decide +kernel
theorem dX11_init_121 : decode cX11_init 121 = .ok (.iconst 0, 1) := by decide +kernel
theorem dX11_init_122 : decode cX11_init 122 = .ok (.iastore, 1) := by decide +kernel
theorem dX11_init_123 : decode cX11_init 123 = .ok (.dup, 1) := by decide +kernel
theorem dX11_init_124 : decode cX11_init 124 = .ok (.iconst 4, 1) := by decide +kernel
theorem dX11_init_125 : decode cX11_init 125 = .ok (.iconst 0, 1) := by decide +kernel
theorem dX11_init_126 : decode cX11_init 126 = .ok (.iastore, 1) := by decide +kernel
theorem dX11_init_127 : decode cX11_init 127 = .ok (.dup, 1) := by decide +kernel
theorem dX11_init_128 : decode cX11_init 128 = .ok (.iconst 5, 1) := by decide +kernel
theorem dX11_init_129 : decode cX11_init 129 = .ok (.iconst 0, 1) := by decide +kernel
theorem dX11_init_130 : decode cX11_init 130 = .ok (.iastore, 1) := by decide +kernel
theorem dX11_init_131 : decode cX11_init 131 = .ok (.dup, 1) := by decide +kernel
theorem dX11_init_132 : decode cX11_init 132 = .ok (.bipush 6, 2) := by decide +kernel
theorem dX11_init_134 : decode cX11_init 134 = .ok (.iconst 1, 1) := by decide +kernel
theorem dX11_init_135 : decode cX11_init 135 = .ok (.iastore, 1) := by decide +kernel
theorem dX11_init_136 : decode cX11_init 136 = .ok (.dup, 1) := by decide +kernel
theorem dX11_init_137 : decode cX11_init 137 = .ok (.bipush 7, 2) := by decide +kernel
theorem dX11_init_139 : decode cX11_init 139 = .ok (.iconst 2, 1) := by decide +kernel
theorem dX11_init_140 : decode cX11_init 140 = .ok (.iastore, 1) := by decide +kernel
theorem dX11_init_141 : decode cX11_init 141 = .ok (.dup, 1) := by decide +kernel
theorem dX11_init_142 : decode cX11_init 142 = .ok (.bipush 8, 2) := by decide +kernel
theorem dX11_init_144 : decode cX11_init 144 = .ok (.iconst 3, 1) := by decide +kernel
theorem dX11_init_145 : decode cX11_init 145 = .ok (.iastore, 1) := by decide +kernel
theorem dX11_init_146 : decode cX11_init 146 = .ok (.dup, 1) := by decide +kernel
theorem dX11_init_147 : decode cX11_init 147 = .ok (.bipush 9, 2) := by decide +kernel
theorem dX11_init_149 : decode cX11_init 149 = .ok (.iconst 2, 1) := by decide +kernel
theorem dX11_init_150 : decode cX11_init 150 = .ok (.iastore, 1) := by decide +kernel
theorem dX11_init_151 : decode cX11_init 151 = .ok (.dup, 1) := by decide +kernel
theorem dX11_init_152 : decode cX11_init 152 = .ok (.bipush 10, 2) := by decide +kernel
theorem dX11_init_154 : decode cX11_init 154 = .ok (.iconst 0, 1) := by decide +kernel
theorem dX11_init_155 : decode cX11_init 155 = .ok (.iastore, 1) := by decide +kernel
theorem dX11_init_156 : decode cX11_init 156 = .ok (.dup, 1) := by decide +kernel
theorem dX11_init_157 : decode cX11_init 157 = .ok (.bipush 11, 2) := by decide +kernel
theorem dX11_init_159 : decode cX11_init 159 = .ok (.iconst 2, 1) := by decide +kernel
theorem dX11_init_160 : decode cX11_init 160 = .ok (.iastore, 1) := by decide +kernel
theorem dX11_init_161 : decode cX11_init 161 = .ok (.dup, 1) := by decide +kernel
theorem dX11_init_162 : decode cX11_init 162 = .ok (.bipush 12, 2) := by decide +kernel
theorem dX11_init_164 : decode cX11_init 164 = .ok (.iconst 4, 1) := by decide +kernel
theorem dX11_init_165 : decode cX11_init 165 = .ok (.iastore, 1) := by decide +kernel
theorem dX11_init_166 : decode cX11_init 166 = .ok (.dup, 1) := by decide +kernel
theorem dX11_init_167 : decode cX11_init 167 = .ok (.bipush 13, 2) := by decide +kernel
theorem dX11_init_169 : decode cX11_init 169 = .ok (.iconst 5, 1) := by decide +kernel
theorem dX11_init_170 : decode cX11_init 170 = .ok (.iastore, 1) := by decide +kernel
theorem dX11_init_171 : decode cX11_init 171 = .ok (.dup, 1) := by decide +kernel
theorem dX11_init_172 : decode cX11_init 172 = .ok (.bipush 14, 2) := by decide +kernel
theorem dX11_init_174 : decode cX11_init 174 = .ok (.iconst 4, 1) := by decide +kernel
theorem dX11_init_175 : decode cX11_init 175 = .ok (.iastore, 1) := by decide +kernel
theorem dX11_init_176 : decode cX11_init 176 = .ok (.dup, 1) := by decide +kernel
theorem dX11_init_177 : decode cX11_init 177 = .ok (.bipush 15, 2) := by decide +kernel
theorem dX11_init_179 : decode cX11_init 179 = .ok (.iconst 0, 1) := by decide +kernel
theorem dX11_init_180 : decode cX11_init 180 = .ok (.iastore, 1) := by decide +kernel
theorem dX11_init_181 : decode cX11_init 181 = .ok (.dup, 1) := by decide +kernel
theorem dX11_init_182 : decode cX11_init 182 = .ok (.bipush 16, 2) := by decide +kernel
theorem dX11_init_184 : decode cX11_init 184 = .ok (.iconst 3, 1) := by decide +kernel
theorem dX11_init_185 : decode cX11_init 185 = .ok (.iastore, 1) := by decide +kernel
theorem dX11_init_186 : decode cX11_init 186 = .ok (.dup, 1) := by decide +kernel
theorem dX11_init_187 : decode cX11_init 187 = .ok (.bipush 17, 2) := by decide +kernel
theorem dX11_init_189 : decode cX11_init 189 = .ok (.iconst 5, 1) := by decide +kernel
theorem dX11_init_190 : decode cX11_init 190 = .ok (.iastore, 1) := by decide +kernel
theorem dX11_init_191 : decode cX11_init 191 = .ok (.dup, 1) := by decide +kernel
theorem dX11_init_192 : decode cX11_init 192 = .ok (.bipush 18, 2) := by decide +kernel
theorem dX11_init_194 : decode cX11_init 194 = .ok (.bipush 7, 2) := by decide +kernel
theorem dX11_init_196 : decode cX11_init 196 = .ok (.iastore, 1) := by decide +kernel
theorem dX11_init_197 : decode cX11_init 197 = .ok (.dup, 1) := by decide +kernel
theorem dX11_init_198 : decode cX11_init 198 = .ok (.bipush 19, 2) := by decide +kernel
theorem dX11_init_200 : decode cX11_init 200 = .ok (.bipush 6, 2) := by decide +kernel
theorem dX11_init_202 : decode cX11_init 202 = .ok (.iastore, 1) := by decide +kernel
theorem dX11_init_203 : decode cX11_init 203 = .ok (.putfield 21, 3) := by decide +kernel
theorem dX11_init_206 : decode cX11_init 206 = .ok (.aload_n 0, 1) := by decide +kernel
theorem dX11_init_207 : decode cX11_init 207 = .ok (.iconst 4, 1) := by decide +kernel
theorem dX11_init_208 : decode cX11_init 208 = .ok (.newarray .int, 2) := by decide +kernel
theorem dX11_init_210 : decode cX11_init 210 = .ok (.putfield 24, 3) := by decide +kernel
theorem dX11_init_213 : decode cX11_init 213 = .ok (.aload_n 0, 1) := by decide +kernel
theorem dX11_init_214 : decode cX11_init 214 = .ok (.iconst 4, 1) := by decide +kernel
theorem dX11_init_215 : decode cX11_init 215 = .ok (.newarray .int, 2) := by decide +kernel
theorem dX11_init_217 : decode cX11_init 217 = .ok (.putfield 27, 3) := by decide +kernel
theorem dX11_init_220 : decode cX11_init 220 = .ok (.aload_n 0, 1) := by decide +kernel
theorem dX11_init_221 : decode cX11_init 221 = .ok (.iconst 2, 1) := by decide +kernel
theorem dX11_init_222 : decode cX11_init 222 = .ok (.newarray .int, 2) := by decide +kernel
theorem dX11_init_224 : decode cX11_init 224 = .ok (.dup, 1) := by decide +kernel
theorem dX11_init_225 : decode cX11_init 225 = .ok (.iconst 0, 1) := by decide +kernel
theorem dX11_init_226 : decode cX11_init 226 = .ok (.iconst 5, 1) := by decide +kernel
theorem dX11_init_227 : decode cX11_init 227 = .ok (.iastore, 1) := by decide +kernel
theorem dX11_init_228 : decode cX11_init 228 = .ok (.dup, 1) := by decide +kernel
theorem dX11_init_229 : decode cX11_init 229 = .ok (.iconst 1, 1) := by decide +kernel
theorem dX11_init_230 : decode cX11_init 230 = .ok (.bipush 9, 2) := by decide +kernel
theorem dX11_init_232 : decode cX11_init 232 = .ok (.iastore, 1) := by decide +kernel
theorem dX11_init_233 : decode cX11_init 233 = .ok (.putfield 30, 3) := by decide +kernel
theorem dX11_init_236 : decode cX11_init 236 = .ok (.aload_n 0, 1) := by decide +kernel
theorem dX11_init_237 : decode cX11_init 237 = .ok (.bipush 8, 2) := by decide +kernel
theorem dX11_init_239 : decode cX11_init 239 = .ok (.newarray .int, 2) := by decide +kernel
theorem dX11_init_241 : decode cX11_init 241 = .ok (.putfield 33, 3) := by decide +kernel
theorem dX11_init_244 : decode cX11_init 244 = .ok (.aload_n 0, 1) := by decide +kernel
theorem dX11_init_245 : decode cX11_init 245 = .ok (.iconst 5, 1) := by decide +kernel
theorem dX11_init_246 : decode cX11_init 246 = .ok (.newarray .int, 2) := by decide +kernel
theorem dX11_init_248 : decode cX11_init 248 = .ok (.putfield 36, 3) := by decide +kernel
theorem dX11_init_251 : decode cX11_init 251 = .ok (.aload_n 0, 1) := by decide +kernel
theorem dX11_init_252 : decode cX11_init 252 = .ok (.iconst 5, 1) := by decide +kernel
theorem dX11_init_253 : decode cX11_init 253 = .ok (.newarray .int, 2) := by decide +kernel
theorem dX11_init_255 : decode cX11_init 255 = .ok (.putfield 39, 3) := by decide +kernel
theorem dX11_init_258 : decode cX11_init 258 = .ok (.aload_n 0, 1) := by decide +kernel
theorem dX11_init_259 : decode cX11_init 259 = .ok (.bipush 8, 2) := by decide +kernel
theorem dX11_init_261 : decode cX11_init 261 = .ok (.newarray .int, 2) := by decide +kernel
theorem dX11_init_263 : decode cX11_init 263 = .ok (.putfield 42, 3) := by decide +kernel
theorem dX11_init_266 : decode cX11_init 266 = .ok (.aload_n 0, 1) := by decide +kernel
theorem dX11_init_267 : decode cX11_init 267 = .ok (.bipush 8, 2) := by decide +kernel
theorem dX11_init_269 : decode cX11_init 269 = .ok (.newarray .int, 2) := by decide +kernel
theorem dX11_init_271 : decode cX11_init 271 = .ok (.putfield 45, 3) := by decide +kernel
theorem dX11_init_274 : decode cX11_init 274 = .ok (.aload_n 0, 1) := by decide +kernel
theorem dX11_init_275 : decode cX11_init 275 = .ok (.bipush 8, 2) := by decide +kernel
theorem dX11_init_277 : decode cX11_init 277 = .ok (.newarray .int, 2) := by decide +kernel
theorem dX11_init_279 : decode cX11_init 279 = .ok (.putfield 48, 3) := by decide +kernel
theorem dX11_init_282 : decode cX11_init 282 = .ok (.aload_n 0, 1) := by decide +kernel
theorem dX11_init_283 : decode cX11_init 283 = .ok (.bipush 8, 2) := by decide +kernel
theorem dX11_init_285 : decode cX11_init 285 = .ok (.newarray .int, 2) := by decide +kernel
theorem dX11_init_287 : decode cX11_init 287 = .ok (.putfield 51, 3) := by decide +kernel
theorem dX11_init_290 : decode cX11_init 290 = .ok (.aload_n 0, 1) := by decide +kernel
theorem dX11_init_291 : decode cX11_init 291 = .ok (.sipush 170, 3) := by decide +kernel
theorem dX11_init_294 : decode cX11_init 294 = .ok (.newarray .int, 2) := by decide +kernel
theorem dX11_init_296 : decode cX11_init 296 = .ok (.putfield 54, 3) := by decide +kernel
theorem dX11_init_299 : decode cX11_init 299 = .ok (.aload_n 0, 1) := by decide +kernel
theorem dX11_init_300 : decode cX11_init 300 = .ok (.sipush 170, 3) := by decide +kernel
theorem dX11_init_303 : decode cX11_init 303 = .ok (.newarray .int, 2) := by decide +kernel
theorem dX11_init_305 : decode cX11_init 305 = .ok (.putfield 57, 3) := by decide +kernel
theorem dX11_init_308 : decode cX11_init 308 = .ok (.aload_n 0, 1) := by decide +kernel
theorem dX11_init_309 : decode cX11_init 309 = .ok (.bipush 100, 2) := by decide +kernel
theorem dX11_init_311 : decode cX11_init 311 = .ok (.newarray .int, 2) := by decide +kernel
theorem dX11_init_313 : decode cX11_init 313 = .ok (.putfield 60, 3) := by decide +kernel
theorem dX11_init_316 : decode cX11_init 316 = .ok (.aload_n 0, 1) := by decide +kernel
theorem dX11_init_317 : decode cX11_init 317 = .ok (.iconst 5, 1) := by decide +kernel
theorem dX11_init_318 : decode cX11_init 318 = .ok (.newarray .int, 2) := by decide +kernel
theorem dX11_init_320 : decode cX11_init 320 = .ok (.putfield 63, 3) := by decide +kernel
theorem dX11_init_323 : decode cX11_init 323 = .ok (.aload_n 0, 1) := by decide +kernel
theorem dX11_init_324 : decode cX11_init 324 = .ok (.bipush 72, 2) := by decide +kernel
theorem dX11_init_326 : decode cX11_init 326 = .ok (.newarray .int, 2) := by decide +kernel
theorem dX11_init_328 : decode cX11_init 328 = .ok (.putfield 66, 3) := by decide +kernel
theorem dX11_init_331 : decode cX11_init 331 = .ok (.aload_n 0, 1) := by decide +kernel
theorem dX11_init_332 : decode cX11_init 332 = .ok (.bipush 72, 2) := by decide +kernel
theorem dX11_init_334 : decode cX11_init 334 = .ok (.newarray .int, 2) := by decide +kernel
theorem dX11_init_336 : decode cX11_init 336 = .ok (.putfield 69, 3) := by decide +kernel
theorem dX11_init_339 : decode cX11_init 339 = .ok (.aload_n 0, 1) := by decide +kernel
theorem dX11_init_340 : decode cX11_init 340 = .ok (.bipush 6, 2) := by decide +kernel
theorem dX11_init_342 : decode cX11_init 342 = .ok (.newarray .int, 2) := by decide +kernel
theorem dX11_init_344 : decode cX11_init 344 = .ok (.dup, 1) := by decide +kernel
theorem dX11_init_345 : decode cX11_init 345 = .ok (.iconst 0, 1) := by decide +kernel
theorem dX11_init_346 : decode cX11_init 346 = .ok (.iconst (-1), 1) := by decide +kernel
theorem dX11_init_347 : decode cX11_init 347 = .ok (.iastore, 1) := by decide +kernel
theorem dX11_init_348 : decode cX11_init 348 = .ok (.dup, 1) := by decide +kernel
theorem dX11_init_349 : decode cX11_init 349 = .ok (.iconst 1, 1) := by decide +kernel
theorem dX11_init_350 : decode cX11_init 350 = .ok (.iconst (-1), 1) := by decide +kernel
theorem dX11_init_351 : decode cX11_init 351 = .ok (.iastore, 1) := by decide +kernel
theorem dX11_init_352 : decode cX11_init 352 = .ok (.dup, 1) := by decide +kernel
theorem dX11_init_353 : decode cX11_init 353 = .ok (.iconst 2, 1) := by decide +kernel
theorem dX11_init_354 : decode cX11_init 354 = .ok (.iconst (-1), 1) := by decide +kernel
theorem dX11_init_355 : decode cX11_init 355 = .ok (.iastore, 1) := by decide +kernel
theorem dX11_init_356 : decode cX11_init 356 = .ok (.dup, 1) := by decide +kernel
theorem dX11_init_357 : decode cX11_init 357 = .ok (.iconst 3, 1) := by decide +kernel
theorem dX11_init_358 : decode cX11_init 358 = .ok (.iconst (-1), 1) := by decide +kernel
theorem dX11_init_359 : decode cX11_init 359 = .ok (.iastore, 1) := by decide +kernel
theorem dX11_init_360 : decode cX11_init 360 = .ok (.dup, 1) := by decide +kernel
theorem dX11_init_361 : decode cX11_init 361 = .ok (.iconst 4, 1) := by decide +kernel
theorem dX11_init_362 : decode cX11_init 362 = .ok (.iconst (-1), 1) := by decide +kernel
theorem dX11_init_363 : decode cX11_init 363 = .ok (.iastore, 1) := by decide +kernel
theorem dX11_init_364 : decode cX11_init 364 = .ok (.dup, 1) := by decide +kernel
theorem dX11_init_365 : decode cX11_init 365 = .ok (.iconst 5, 1) := by decide +kernel
theorem dX11_init_366 : decode cX11_init 366 = .ok (.iconst (-1), 1) := by decide +kernel
theorem dX11_init_367 : decode cX11_init 367 = .ok (.iastore, 1) := by decide +kernel
theorem dX11_init_368 : decode cX11_init 368 = .ok (.putfield 72, 3) := by decide +kernel
theorem dX11_init_371 : decode cX11_init 371 = .ok (.aload_n 0, 1) := by decide +kernel
theorem dX11_init_372 : decode cX11_init 372 = .ok (.bipush 6, 2) := by decide +kernel
theorem dX11_init_374 : decode cX11_init 374 = .ok (.newarray .int, 2) := by decide +kernel
theorem dX11_init_376 : decode cX11_init 376 = .ok (.putfield 75, 3) := by decide +kernel
theorem dX11_init_379 : decode cX11_init 379 = .ok (.aload_n 0, 1) := by decide +kernel
theorem dX11_init_380 : decode cX11_init 380 = .ok (.sipush 360, 3) := by decide +kernel
theorem dX11_init_383 : decode cX11_init 383 = .ok (.newarray .long, 2) := by decide +kernel
theorem dX11_init_385 : decode cX11_init 385 = .ok (.putfield 78, 3) := by decide +kernel
theorem dX11_init_388 : decode cX11_init 388 = .ok (.aload_n 0, 1) := by decide +kernel
theorem dX11_init_389 : decode cX11_init 389 = .ok (.bipush 60, 2) := by decide +kernel
theorem dX11_init_391 : decode cX11_init 391 = .ok (.newarray .long, 2) := by decide +kernel
theorem dX11_init_393 : decode cX11_init 393 = .ok (.putfield 82, 3) := by decide +kernel
theorem dX11_init_396 : decode cX11_init 396 = .ok (.return_, 1) := by decide +kernel
theorem dX11_in_0 : decode cX11_in 0 = .ok (.iload_n 0, 1) := by decide +kernel
theorem dX11_in_1 : decode cX11_in 1 = .ok (.iload_n 1, 1) := by decide +kernel
theorem dX11_in_2 : decode cX11_in 2 = .ok (.if_icmp .lt 12, 3) := by decide +kernel
theorem dX11_in_5 : decode cX11_in 5 = .ok (.iload_n 0, 1) := by decide +kernel
theorem dX11_in_6 : decode cX11_in 6 = .ok (.iload_n 2, 1) := by decide +kernel
theorem dX11_in_7 : decode cX11_in 7 = .ok (.if_icmp .gt 7, 3) := by decide +kernel
theorem dX11_in_10 : decode cX11_in 10 = .ok (.iconst 1, 1) := by decide +kernel
theorem dX11_in_11 : decode cX11_in 11 = .ok (.goto 4, 3) := by decide +kernel
theorem dX11_in_14 : decode cX11_in 14 = .ok (.iconst 0, 1) := by decide +kernel
theorem dX11_in_15 : decode cX11_in 15 = .ok (.ireturn, 1) := by decide +kernel
theorem dX11_isSquare_0 : decode cX11_isSquare 0 = .ok (.iload_n 0, 1) := by decide +kernel
theorem dX11_isSquare_1 : decode cX11_isSquare 1 = .ok (.iconst 0, 1) := by decide +kernel
theorem dX11_isSquare_2 : decode cX11_isSquare 2 = .ok (.bipush 35, 2) := by decide +kernel
theorem dX11_isSquare_4 : decode cX11_isSquare 4 = .ok (.invokestatic 85, 3) := by decide +kernel
theorem dX11_isSquare_7 : decode cX11_isSquare 7 = .ok (.ireturn, 1) := by decide +kernel
theorem dX11_isZone_0 : decode cX11_isZone 0 = .ok (.iload_n 0, 1) := by decide +kernel
theorem dX11_isZone_1 : decode cX11_isZone 1 = .ok (.iconst 0, 1) := by decide +kernel
theorem dX11_isZone_2 : decode cX11_isZone 2 = .ok (.iconst 3, 1) := by decide +kernel
theorem dX11_isZone_3 : decode cX11_isZone 3 = .ok (.invokestatic 85, 3) := by decide +kernel
theorem dX11_isZone_6 : decode cX11_isZone 6 = .ok (.ireturn, 1) := by decide +kernel
theorem dX11_isSpan_0 : decode cX11_isSpan 0 = .ok (.iload_n 0, 1) := by decide +kernel
theorem dX11_isSpan_1 : decode cX11_isSpan 1 = .ok (.iconst 0, 1) := by decide +kernel
theorem dX11_isSpan_2 : decode cX11_isSpan 2 = .ok (.iconst 3, 1) := by decide +kernel
theorem dX11_isSpan_3 : decode cX11_isSpan 3 = .ok (.invokestatic 85, 3) := by decide +kernel
theorem dX11_isSpan_6 : decode cX11_isSpan 6 = .ok (.ireturn, 1) := by decide +kernel
theorem dX11_isSide_0 : decode cX11_isSide 0 = .ok (.iload_n 0, 1) := by decide +kernel
theorem dX11_isSide_1 : decode cX11_isSide 1 = .ok (.iconst 0, 1) := by decide +kernel
theorem dX11_isSide_2 : decode cX11_isSide 2 = .ok (.iconst 1, 1) := by decide +kernel
theorem dX11_isSide_3 : decode cX11_isSide 3 = .ok (.invokestatic 85, 3) := by decide +kernel
theorem dX11_isSide_6 : decode cX11_isSide 6 = .ok (.ireturn, 1) := by decide +kernel
theorem dX11_isHeading_0 : decode cX11_isHeading 0 = .ok (.iload_n 0, 1) := by decide +kernel
theorem dX11_isHeading_1 : decode cX11_isHeading 1 = .ok (.iconst 0, 1) := by decide +kernel
theorem dX11_isHeading_2 : decode cX11_isHeading 2 = .ok (.bipush 7, 2) := by decide +kernel
theorem dX11_isHeading_4 : decode cX11_isHeading 4 = .ok (.invokestatic 85, 3) := by decide +kernel
theorem dX11_isHeading_7 : decode cX11_isHeading 7 = .ok (.ireturn, 1) := by decide +kernel
theorem dX11_isForce_0 : decode cX11_isForce 0 = .ok (.iload_n 0, 1) := by decide +kernel
theorem dX11_isForce_1 : decode cX11_isForce 1 = .ok (.iconst 0, 1) := by decide +kernel
theorem dX11_isForce_2 : decode cX11_isForce 2 = .ok (.iconst 3, 1) := by decide +kernel
theorem dX11_isForce_3 : decode cX11_isForce 3 = .ok (.invokestatic 85, 3) := by decide +kernel
theorem dX11_isForce_6 : decode cX11_isForce 6 = .ok (.ireturn, 1) := by decide +kernel
theorem dX11_isPart_0 : decode cX11_isPart 0 = .ok (.iload_n 0, 1) := by decide +kernel
theorem dX11_isPart_1 : decode cX11_isPart 1 = .ok (.iconst 0, 1) := by decide +kernel
theorem dX11_isPart_2 : decode cX11_isPart 2 = .ok (.iconst 1, 1) := by decide +kernel
theorem dX11_isPart_3 : decode cX11_isPart 3 = .ok (.invokestatic 85, 3) := by decide +kernel
theorem dX11_isPart_6 : decode cX11_isPart 6 = .ok (.ireturn, 1) := by decide +kernel
theorem dX11_zoneOf_0 : decode cX11_zoneOf 0 = .ok (.iconst 2, 1) := by decide +kernel
theorem dX11_zoneOf_1 : decode cX11_zoneOf 1 = .ok (.iload_n 0, 1) := by decide +kernel
theorem dX11_zoneOf_2 : decode cX11_zoneOf 2 = .ok (.bipush 18, 2) := by decide +kernel
theorem dX11_zoneOf_4 : decode cX11_zoneOf 4 = .ok (.idiv, 1) := by decide +kernel
theorem dX11_zoneOf_5 : decode cX11_zoneOf 5 = .ok (.imul, 1) := by decide +kernel
theorem dX11_zoneOf_6 : decode cX11_zoneOf 6 = .ok (.iload_n 0, 1) := by decide +kernel
theorem dX11_zoneOf_7 : decode cX11_zoneOf 7 = .ok (.bipush 6, 2) := by decide +kernel
theorem dX11_zoneOf_9 : decode cX11_zoneOf 9 = .ok (.irem, 1) := by decide +kernel
theorem dX11_zoneOf_10 : decode cX11_zoneOf 10 = .ok (.iconst 3, 1) := by decide +kernel
theorem dX11_zoneOf_11 : decode cX11_zoneOf 11 = .ok (.idiv, 1) := by decide +kernel
theorem dX11_zoneOf_12 : decode cX11_zoneOf 12 = .ok (.iadd, 1) := by decide +kernel
theorem dX11_zoneOf_13 : decode cX11_zoneOf 13 = .ok (.ireturn, 1) := by decide +kernel
theorem dX11_spanOf_0 : decode cX11_spanOf 0 = .ok (.iload_n 0, 1) := by decide +kernel
theorem dX11_spanOf_1 : decode cX11_spanOf 1 = .ok (.sipush 360, 3) := by decide +kernel
theorem dX11_spanOf_4 : decode cX11_spanOf 4 = .ok (.idiv, 1) := by decide +kernel
theorem dX11_spanOf_5 : decode cX11_spanOf 5 = .ok (.iconst 4, 1) := by decide +kernel
theorem dX11_spanOf_6 : decode cX11_spanOf 6 = .ok (.irem, 1) := by decide +kernel
theorem dX11_spanOf_7 : decode cX11_spanOf 7 = .ok (.ireturn, 1) := by decide +kernel
theorem dX11_turn_0 : decode cX11_turn 0 = .ok (.iload_n 0, 1) := by decide +kernel
theorem dX11_turn_1 : decode cX11_turn 1 = .ok (.iload_n 1, 1) := by decide +kernel
theorem dX11_turn_2 : decode cX11_turn 2 = .ok (.isub, 1) := by decide +kernel
theorem dX11_turn_3 : decode cX11_turn 3 = .ok (.bipush 8, 2) := by decide +kernel
theorem dX11_turn_5 : decode cX11_turn 5 = .ok (.iadd, 1) := by decide +kernel
theorem dX11_turn_6 : decode cX11_turn 6 = .ok (.bipush 8, 2) := by decide +kernel
theorem dX11_turn_8 : decode cX11_turn 8 = .ok (.irem, 1) := by decide +kernel
theorem dX11_turn_9 : decode cX11_turn 9 = .ok (.istore_n 2, 1) := by decide +kernel
theorem dX11_turn_10 : decode cX11_turn 10 = .ok (.iload_n 2, 1) := by decide +kernel
theorem dX11_turn_11 : decode cX11_turn 11 = .ok (.bipush 8, 2) := by decide +kernel
theorem dX11_turn_13 : decode cX11_turn 13 = .ok (.iload_n 2, 1) := by decide +kernel
theorem dX11_turn_14 : decode cX11_turn 14 = .ok (.isub, 1) := by decide +kernel
theorem dX11_turn_15 : decode cX11_turn 15 = .ok (.invokestatic 89, 3) := by decide +kernel
theorem dX11_turn_18 : decode cX11_turn 18 = .ok (.ireturn, 1) := by decide +kernel
theorem dX11_wind_0 : decode cX11_wind 0 = .ok (.iload_n 1, 1) := by decide +kernel
theorem dX11_wind_1 : decode cX11_wind 1 = .ok (.invokestatic 95, 3) := by decide +kernel
theorem dX11_wind_4 : decode cX11_wind 4 = .ok (.ifCond .eq 10, 3) := by decide +kernel
theorem dX11_wind_7 : decode cX11_wind 7 = .ok (.iload_n 2, 1) := by decide +kernel
theorem dX11_wind_8 : decode cX11_wind 8 = .ok (.invokestatic 99, 3) := by decide +kernel
theorem dX11_wind_11 : decode cX11_wind 11 = .ok (.ifCond .ne 5, 3) := by decide +kernel
theorem dX11_wind_14 : decode cX11_wind 14 = .ok (.iconst (-1), 1) := by decide +kernel
theorem dX11_wind_15 : decode cX11_wind 15 = .ok (.ireturn, 1) := by decide +kernel
theorem dX11_wind_16 : decode cX11_wind 16 = .ok (.iload_n 3, 1) := by decide +kernel
theorem dX11_wind_17 : decode cX11_wind 17 = .ok (.invokestatic 102, 3) := by decide +kernel
theorem dX11_wind_20 : decode cX11_wind 20 = .ok (.ifCond .eq 11, 3) := by decide +kernel
theorem dX11_wind_23 : decode cX11_wind 23 = .ok (.iload 4, 2) := by decide +kernel
theorem dX11_wind_25 : decode cX11_wind 25 = .ok (.invokestatic 105, 3) := by decide +kernel
theorem dX11_wind_28 : decode cX11_wind 28 = .ok (.ifCond .ne 6, 3) := by decide +kernel
theorem dX11_wind_31 : decode cX11_wind 31 = .ok (.bipush (-2), 2) := by decide +kernel
theorem dX11_wind_33 : decode cX11_wind 33 = .ok (.ireturn, 1) := by decide +kernel
theorem dX11_wind_34 : decode cX11_wind 34 = .ok (.iconst 4, 1) := by decide +kernel
theorem dX11_wind_35 : decode cX11_wind 35 = .ok (.iload_n 1, 1) := by decide +kernel
theorem dX11_wind_36 : decode cX11_wind 36 = .ok (.imul, 1) := by decide +kernel
theorem dX11_wind_37 : decode cX11_wind 37 = .ok (.iload_n 2, 1) := by decide +kernel
theorem dX11_wind_38 : decode cX11_wind 38 = .ok (.iadd, 1) := by decide +kernel
theorem dX11_wind_39 : decode cX11_wind 39 = .ok (.istore 5, 2) := by decide +kernel
theorem dX11_wind_41 : decode cX11_wind 41 = .ok (.bipush 10, 2) := by decide +kernel
theorem dX11_wind_43 : decode cX11_wind 43 = .ok (.aload_n 0, 1) := by decide +kernel
theorem dX11_wind_44 : decode cX11_wind 44 = .ok (.getfield 15, 3) := by decide +kernel
theorem dX11_wind_47 : decode cX11_wind 47 = .ok (.iload 5, 2) := by decide +kernel
theorem dX11_wind_49 : decode cX11_wind 49 = .ok (.iaload, 1) := by decide +kernel
theorem dX11_wind_50 : decode cX11_wind 50 = .ok (.imul, 1) := by decide +kernel
theorem dX11_wind_51 : decode cX11_wind 51 = .ok (.aload_n 0, 1) := by decide +kernel
theorem dX11_wind_52 : decode cX11_wind 52 = .ok (.getfield 18, 3) := by decide +kernel
theorem dX11_wind_55 : decode cX11_wind 55 = .ok (.iload 5, 2) := by decide +kernel
theorem dX11_wind_57 : decode cX11_wind 57 = .ok (.iaload, 1) := by decide +kernel
theorem dX11_wind_58 : decode cX11_wind 58 = .ok (.iadd, 1) := by decide +kernel
theorem dX11_wind_59 : decode cX11_wind 59 = .ok (.istore 6, 2) := by decide +kernel
theorem dX11_wind_61 : decode cX11_wind 61 = .ok (.aload_n 0, 1) := by decide +kernel
theorem dX11_wind_62 : decode cX11_wind 62 = .ok (.getfield 15, 3) := by decide +kernel
theorem dX11_wind_65 : decode cX11_wind 65 = .ok (.iload 5, 2) := by decide +kernel
theorem dX11_wind_67 : decode cX11_wind 67 = .ok (.iload_n 3, 1) := by decide +kernel
theorem dX11_wind_68 : decode cX11_wind 68 = .ok (.iastore, 1) := by decide +kernel
theorem dX11_wind_69 : decode cX11_wind 69 = .ok (.aload_n 0, 1) := by decide +kernel
theorem dX11_wind_70 : decode cX11_wind 70 = .ok (.getfield 18, 3) := by decide +kernel
theorem dX11_wind_73 : decode cX11_wind 73 = .ok (.iload 5, 2) := by decide +kernel
theorem dX11_wind_75 : decode cX11_wind 75 = .ok (.iload 4, 2) := by decide +kernel
theorem dX11_wind_77 : decode cX11_wind 77 = .ok (.iastore, 1) := by decide +kernel
theorem dX11_wind_78 : decode cX11_wind 78 = .ok (.iload 6, 2) := by decide +kernel
theorem dX11_wind_80 : decode cX11_wind 80 = .ok (.ireturn, 1) := by decide +kernel
theorem dX11_current_0 : decode cX11_current 0 = .ok (.iload_n 1, 1) := by decide +kernel
theorem dX11_current_1 : decode cX11_current 1 = .ok (.invokestatic 95, 3) := by decide +kernel
theorem dX11_current_4 : decode cX11_current 4 = .ok (.ifCond .ne 5, 3) := by decide +kernel
theorem dX11_current_7 : decode cX11_current 7 = .ok (.iconst (-1), 1) := by decide +kernel
theorem dX11_current_8 : decode cX11_current 8 = .ok (.ireturn, 1) := by decide +kernel
theorem dX11_current_9 : decode cX11_current 9 = .ok (.iload_n 2, 1) := by decide +kernel
theorem dX11_current_10 : decode cX11_current 10 = .ok (.invokestatic 102, 3) := by decide +kernel
theorem dX11_current_13 : decode cX11_current 13 = .ok (.ifCond .eq 10, 3) := by decide +kernel
theorem dX11_current_16 : decode cX11_current 16 = .ok (.iload_n 3, 1) := by decide +kernel
theorem dX11_current_17 : decode cX11_current 17 = .ok (.invokestatic 105, 3) := by decide +kernel
theorem dX11_current_20 : decode cX11_current 20 = .ok (.ifCond .ne 6, 3) := by decide +kernel
theorem dX11_current_23 : decode cX11_current 23 = .ok (.bipush (-2), 2) := by decide +kernel
theorem dX11_current_25 : decode cX11_current 25 = .ok (.ireturn, 1) := by decide +kernel
theorem dX11_current_26 : decode cX11_current 26 = .ok (.bipush 10, 2) := by decide +kernel
theorem dX11_current_28 : decode cX11_current 28 = .ok (.aload_n 0, 1) := by decide +kernel
theorem dX11_current_29 : decode cX11_current 29 = .ok (.getfield 24, 3) := by decide +kernel
theorem dX11_current_32 : decode cX11_current 32 = .ok (.iload_n 1, 1) := by decide +kernel
theorem dX11_current_33 : decode cX11_current 33 = .ok (.iaload, 1) := by decide +kernel
theorem dX11_current_34 : decode cX11_current 34 = .ok (.imul, 1) := by decide +kernel
theorem dX11_current_35 : decode cX11_current 35 = .ok (.aload_n 0, 1) := by decide +kernel
theorem dX11_current_36 : decode cX11_current 36 = .ok (.getfield 27, 3) := by decide +kernel
theorem dX11_current_39 : decode cX11_current 39 = .ok (.iload_n 1, 1) := by decide +kernel
theorem dX11_current_40 : decode cX11_current 40 = .ok (.iaload, 1) := by decide +kernel
theorem dX11_current_41 : decode cX11_current 41 = .ok (.iadd, 1) := by decide +kernel
theorem dX11_current_42 : decode cX11_current 42 = .ok (.istore 4, 2) := by decide +kernel
theorem dX11_current_44 : decode cX11_current 44 = .ok (.aload_n 0, 1) := by decide +kernel
theorem dX11_current_45 : decode cX11_current 45 = .ok (.getfield 24, 3) := by decide +kernel
theorem dX11_current_48 : decode cX11_current 48 = .ok (.iload_n 1, 1) := by decide +kernel
theorem dX11_current_49 : decode cX11_current 49 = .ok (.iload_n 2, 1) := by decide +kernel
theorem dX11_current_50 : decode cX11_current 50 = .ok (.iastore, 1) := by decide +kernel
theorem dX11_current_51 : decode cX11_current 51 = .ok (.aload_n 0, 1) := by decide +kernel
theorem dX11_current_52 : decode cX11_current 52 = .ok (.getfield 27, 3) := by decide +kernel
theorem dX11_current_55 : decode cX11_current 55 = .ok (.iload_n 1, 1) := by decide +kernel
theorem dX11_current_56 : decode cX11_current 56 = .ok (.iload_n 3, 1) := by decide +kernel
theorem dX11_current_57 : decode cX11_current 57 = .ok (.iastore, 1) := by decide +kernel
theorem dX11_current_58 : decode cX11_current 58 = .ok (.iload 4, 2) := by decide +kernel
theorem dX11_current_60 : decode cX11_current 60 = .ok (.ireturn, 1) := by decide +kernel
theorem dX11_isEntry_0 : decode cX11_isEntry 0 = .ok (.iload_n 0, 1) := by decide +kernel
theorem dX11_isEntry_1 : decode cX11_isEntry 1 = .ok (.iconst 1, 1) := by decide +kernel
theorem dX11_isEntry_2 : decode cX11_isEntry 2 = .ok (.iconst 3, 1) := by decide +kernel
theorem dX11_isEntry_3 : decode cX11_isEntry 3 = .ok (.invokestatic 85, 3) := by decide +kernel
theorem dX11_isEntry_6 : decode cX11_isEntry 6 = .ok (.ifCond .eq 16, 3) := by decide +kernel
theorem dX11_isEntry_9 : decode cX11_isEntry 9 = .ok (.iload_n 1, 1) := by decide +kernel
theorem dX11_isEntry_10 : decode cX11_isEntry 10 = .ok (.iconst 0, 1) := by decide +kernel
theorem dX11_isEntry_11 : decode cX11_isEntry 11 = .ok (.iconst 4, 1) := by decide +kernel
theorem dX11_isEntry_12 : decode cX11_isEntry 12 = .ok (.invokestatic 85, 3) := by decide +kernel
theorem dX11_isEntry_15 : decode cX11_isEntry 15 = .ok (.ifCond .eq 7, 3) := by decide +kernel
theorem dX11_isEntry_18 : decode cX11_isEntry 18 = .ok (.iconst 1, 1) := by decide +kernel
theorem dX11_isEntry_19 : decode cX11_isEntry 19 = .ok (.goto 4, 3) := by decide +kernel
theorem dX11_isEntry_22 : decode cX11_isEntry 22 = .ok (.iconst 0, 1) := by decide +kernel
theorem dX11_isEntry_23 : decode cX11_isEntry 23 = .ok (.ireturn, 1) := by decide +kernel
theorem dX11_table_0 : decode cX11_table 0 = .ok (.iload_n 1, 1) := by decide +kernel
theorem dX11_table_1 : decode cX11_table 1 = .ok (.iload_n 2, 1) := by decide +kernel
theorem dX11_table_2 : decode cX11_table 2 = .ok (.invokestatic 108, 3) := by decide +kernel
theorem dX11_table_5 : decode cX11_table 5 = .ok (.ifCond .ne 5, 3) := by decide +kernel
theorem dX11_table_8 : decode cX11_table 8 = .ok (.iconst (-1), 1) := by decide +kernel
theorem dX11_table_9 : decode cX11_table 9 = .ok (.ireturn, 1) := by decide +kernel
theorem dX11_table_10 : decode cX11_table 10 = .ok (.iload_n 3, 1) := by decide +kernel
theorem dX11_table_11 : decode cX11_table 11 = .ok (.iconst 0, 1) := by decide +kernel
theorem dX11_table_12 : decode cX11_table 12 = .ok (.bipush 9, 2) := by decide +kernel
theorem dX11_table_14 : decode cX11_table 14 = .ok (.invokestatic 85, 3) := by decide +kernel
theorem dX11_table_17 : decode cX11_table 17 = .ok (.ifCond .ne 6, 3) := by decide +kernel
theorem dX11_table_20 : decode cX11_table 20 = .ok (.bipush (-2), 2) := by decide +kernel
theorem dX11_table_22 : decode cX11_table 22 = .ok (.ireturn, 1) := by decide +kernel
theorem dX11_table_23 : decode cX11_table 23 = .ok (.aload_n 0, 1) := by decide +kernel
theorem dX11_table_24 : decode cX11_table 24 = .ok (.getfield 21, 3) := by decide +kernel
theorem dX11_table_27 : decode cX11_table 27 = .ok (.iconst 5, 1) := by decide +kernel
theorem dX11_table_28 : decode cX11_table 28 = .ok (.iload_n 1, 1) := by decide +kernel
theorem dX11_table_29 : decode cX11_table 29 = .ok (.imul, 1) := by decide +kernel
theorem dX11_table_30 : decode cX11_table 30 = .ok (.iload_n 2, 1) := by decide +kernel
theorem dX11_table_31 : decode cX11_table 31 = .ok (.iadd, 1) := by decide +kernel
theorem dX11_table_32 : decode cX11_table 32 = .ok (.iaload, 1) := by decide +kernel
theorem dX11_table_33 : decode cX11_table 33 = .ok (.istore 4, 2) := by decide +kernel
theorem dX11_table_35 : decode cX11_table 35 = .ok (.aload_n 0, 1) := by decide +kernel
theorem dX11_table_36 : decode cX11_table 36 = .ok (.getfield 21, 3) := by decide +kernel
theorem dX11_table_39 : decode cX11_table 39 = .ok (.iconst 5, 1) := by decide +kernel
theorem dX11_table_40 : decode cX11_table 40 = .ok (.iload_n 1, 1) := by decide +kernel
theorem dX11_table_41 : decode cX11_table 41 = .ok (.imul, 1) := by decide +kernel
theorem dX11_table_42 : decode cX11_table 42 = .ok (.iload_n 2, 1) := by decide +kernel
theorem dX11_table_43 : decode cX11_table 43 = .ok (.iadd, 1) := by decide +kernel
theorem dX11_table_44 : decode cX11_table 44 = .ok (.iload_n 3, 1) := by decide +kernel
theorem dX11_table_45 : decode cX11_table 45 = .ok (.iastore, 1) := by decide +kernel
theorem dX11_table_46 : decode cX11_table 46 = .ok (.iload 4, 2) := by decide +kernel
theorem dX11_table_48 : decode cX11_table 48 = .ok (.ireturn, 1) := by decide +kernel
theorem dX11_land_0 : decode cX11_land 0 = .ok (.iload_n 1, 1) := by decide +kernel
theorem dX11_land_1 : decode cX11_land 1 = .ok (.invokestatic 112, 3) := by decide +kernel
theorem dX11_land_4 : decode cX11_land 4 = .ok (.ifCond .ne 5, 3) := by decide +kernel
theorem dX11_land_7 : decode cX11_land 7 = .ok (.iconst (-1), 1) := by decide +kernel
theorem dX11_land_8 : decode cX11_land 8 = .ok (.ireturn, 1) := by decide +kernel
theorem dX11_land_9 : decode cX11_land 9 = .ok (.iload_n 2, 1) := by decide +kernel
theorem dX11_land_10 : decode cX11_land 10 = .ok (.ifCond .eq 14, 3) := by decide +kernel
theorem dX11_land_13 : decode cX11_land 13 = .ok (.iload_n 1, 1) := by decide +kernel
theorem dX11_land_14 : decode cX11_land 14 = .ok (.aload_n 0, 1) := by decide +kernel
theorem dX11_land_15 : decode cX11_land 15 = .ok (.getfield 115, 3) := by decide +kernel
theorem dX11_land_18 : decode cX11_land 18 = .ok (.if_icmp .ne 6, 3) := by decide +kernel
theorem dX11_land_21 : decode cX11_land 21 = .ok (.bipush (-3), 2) := by decide +kernel
theorem dX11_land_23 : decode cX11_land 23 = .ok (.ireturn, 1) := by decide +kernel
theorem dX11_land_24 : decode cX11_land 24 = .ok (.aload_n 0, 1) := by decide +kernel
theorem dX11_land_25 : decode cX11_land 25 = .ok (.getfield 9, 3) := by decide +kernel
theorem dX11_land_28 : decode cX11_land 28 = .ok (.iload_n 1, 1) := by decide +kernel
theorem dX11_land_29 : decode cX11_land 29 = .ok (.iaload, 1) := by decide +kernel
theorem dX11_land_30 : decode cX11_land 30 = .ok (.istore_n 3, 1) := by decide +kernel
theorem dX11_land_31 : decode cX11_land 31 = .ok (.aload_n 0, 1) := by decide +kernel
theorem dX11_land_32 : decode cX11_land 32 = .ok (.getfield 9, 3) := by decide +kernel
theorem dX11_land_35 : decode cX11_land 35 = .ok (.iload_n 1, 1) := by decide +kernel
theorem dX11_land_36 : decode cX11_land 36 = .ok (.iload_n 2, 1) := by decide +kernel
theorem dX11_land_37 : decode cX11_land 37 = .ok (.ifCond .eq 7, 3) := by decide +kernel
theorem dX11_land_40 : decode cX11_land 40 = .ok (.iconst 1, 1) := by decide +kernel
theorem dX11_land_41 : decode cX11_land 41 = .ok (.goto 4, 3) := by decide +kernel
theorem dX11_land_44 : decode cX11_land 44 = .ok (.iconst 0, 1) := by decide +kernel
theorem dX11_land_45 : decode cX11_land 45 = .ok (.iastore, 1) := by decide +kernel
theorem dX11_land_46 : decode cX11_land 46 = .ok (.iload_n 3, 1) := by decide +kernel
theorem dX11_land_47 : decode cX11_land 47 = .ok (.ireturn, 1) := by decide +kernel
theorem dX11_notStart_0 : decode cX11_notStart 0 = .ok (.iload_n 1, 1) := by decide +kernel
theorem dX11_notStart_1 : decode cX11_notStart 1 = .ok (.invokestatic 112, 3) := by decide +kernel
theorem dX11_notStart_4 : decode cX11_notStart 4 = .ok (.ifCond .eq 10, 3) := by decide +kernel
theorem dX11_notStart_7 : decode cX11_notStart 7 = .ok (.iload_n 2, 1) := by decide +kernel
theorem dX11_notStart_8 : decode cX11_notStart 8 = .ok (.invokestatic 119, 3) := by decide +kernel
theorem dX11_notStart_11 : decode cX11_notStart 11 = .ok (.ifCond .ne 5, 3) := by decide +kernel
theorem dX11_notStart_14 : decode cX11_notStart 14 = .ok (.iconst (-1), 1) := by decide +kernel
theorem dX11_notStart_15 : decode cX11_notStart 15 = .ok (.ireturn, 1) := by decide +kernel
theorem dX11_notStart_16 : decode cX11_notStart 16 = .ok (.iload_n 3, 1) := by decide +kernel
theorem dX11_notStart_17 : decode cX11_notStart 17 = .ok (.iconst 0, 1) := by decide +kernel
theorem dX11_notStart_18 : decode cX11_notStart 18 = .ok (.sipush 9999, 3) := by decide +kernel
theorem dX11_notStart_21 : decode cX11_notStart 21 = .ok (.invokestatic 85, 3) := by decide +kernel
theorem dX11_notStart_24 : decode cX11_notStart 24 = .ok (.ifCond .ne 6, 3) := by decide +kernel
theorem dX11_notStart_27 : decode cX11_notStart 27 = .ok (.bipush (-2), 2) := by decide +kernel
theorem dX11_notStart_29 : decode cX11_notStart 29 = .ok (.ireturn, 1) := by decide +kernel
theorem dX11_notStart_30 : decode cX11_notStart 30 = .ok (.aload_n 0, 1) := by decide +kernel
theorem dX11_notStart_31 : decode cX11_notStart 31 = .ok (.getfield 9, 3) := by decide +kernel
theorem dX11_notStart_34 : decode cX11_notStart 34 = .ok (.iload_n 1, 1) := by decide +kernel
theorem dX11_notStart_35 : decode cX11_notStart 35 = .ok (.iaload, 1) := by decide +kernel
theorem dX11_notStart_36 : decode cX11_notStart 36 = .ok (.iconst 1, 1) := by decide +kernel
theorem dX11_notStart_37 : decode cX11_notStart 37 = .ok (.if_icmp .ne 8, 3) := by decide +kernel
theorem dX11_notStart_40 : decode cX11_notStart 40 = .ok (.bipush (-3), 2) := by decide +kernel
theorem dX11_notStart_42 : decode cX11_notStart 42 = .ok (.goto 4, 3) := by decide +kernel
theorem dX11_notStart_45 : decode cX11_notStart 45 = .ok (.iconst 0, 1) := by decide +kernel
theorem dX11_notStart_46 : decode cX11_notStart 46 = .ok (.ireturn, 1) := by decide +kernel
theorem dX11_begins_0 : decode cX11_begins 0 = .ok (.aload_n 0, 1) := by decide +kernel
theorem dX11_begins_1 : decode cX11_begins 1 = .ok (.iload_n 1, 1) := by decide +kernel
theorem dX11_begins_2 : decode cX11_begins 2 = .ok (.putfield 115, 3) := by decide +kernel
theorem dX11_begins_5 : decode cX11_begins 5 = .ok (.aload_n 0, 1) := by decide +kernel
theorem dX11_begins_6 : decode cX11_begins 6 = .ok (.iload_n 2, 1) := by decide +kernel
theorem dX11_begins_7 : decode cX11_begins 7 = .ok (.putfield 122, 3) := by decide +kernel
theorem dX11_begins_10 : decode cX11_begins 10 = .ok (.aload_n 0, 1) := by decide +kernel
theorem dX11_begins_11 : decode cX11_begins 11 = .ok (.iload_n 3, 1) := by decide +kernel
theorem dX11_begins_12 : decode cX11_begins 12 = .ok (.putfield 125, 3) := by decide +kernel
theorem dX11_begins_15 : decode cX11_begins 15 = .ok (.return_, 1) := by decide +kernel
theorem dX11_start_0 : decode cX11_start 0 = .ok (.aload_n 0, 1) := by decide +kernel
theorem dX11_start_1 : decode cX11_start 1 = .ok (.iload_n 1, 1) := by decide +kernel
theorem dX11_start_2 : decode cX11_start 2 = .ok (.iload_n 2, 1) := by decide +kernel
theorem dX11_start_3 : decode cX11_start 3 = .ok (.iload_n 3, 1) := by decide +kernel
theorem dX11_start_4 : decode cX11_start 4 = .ok (.invokevirtual 128, 3) := by decide +kernel
theorem dX11_start_7 : decode cX11_start 7 = .ok (.istore 4, 2) := by decide +kernel
theorem dX11_start_9 : decode cX11_start 9 = .ok (.iload 4, 2) := by decide +kernel
theorem dX11_start_11 : decode cX11_start 11 = .ok (.ifCond .ge 6, 3) := by decide +kernel
theorem dX11_start_14 : decode cX11_start 14 = .ok (.iload 4, 2) := by decide +kernel
theorem dX11_start_16 : decode cX11_start 16 = .ok (.ireturn, 1) := by decide +kernel
theorem dX11_start_17 : decode cX11_start 17 = .ok (.aload_n 0, 1) := by decide +kernel
theorem dX11_start_18 : decode cX11_start 18 = .ok (.iload_n 1, 1) := by decide +kernel
theorem dX11_start_19 : decode cX11_start 19 = .ok (.iload_n 2, 1) := by decide +kernel
theorem dX11_start_20 : decode cX11_start 20 = .ok (.iload_n 3, 1) := by decide +kernel
theorem dX11_start_21 : decode cX11_start 21 = .ok (.invokevirtual 132, 3) := by decide +kernel
theorem dX11_start_24 : decode cX11_start 24 = .ok (.aload_n 0, 1) := by decide +kernel
theorem dX11_start_25 : decode cX11_start 25 = .ok (.invokevirtual 136, 3) := by decide +kernel
theorem dX11_start_28 : decode cX11_start 28 = .ok (.aload_n 0, 1) := by decide +kernel
theorem dX11_start_29 : decode cX11_start 29 = .ok (.invokevirtual 139, 3) := by decide +kernel
theorem dX11_start_32 : decode cX11_start 32 = .ok (.ireturn, 1) := by decide +kernel
theorem dX11_loss_0 : decode cX11_loss 0 = .ok (.iload_n 1, 1) := by decide +kernel
theorem dX11_loss_1 : decode cX11_loss 1 = .ok (.iconst 0, 1) := by decide +kernel
theorem dX11_loss_2 : decode cX11_loss 2 = .ok (.iconst 1, 1) := by decide +kernel
theorem dX11_loss_3 : decode cX11_loss 3 = .ok (.invokestatic 85, 3) := by decide +kernel
theorem dX11_loss_6 : decode cX11_loss 6 = .ok (.ifCond .ne 5, 3) := by decide +kernel
theorem dX11_loss_9 : decode cX11_loss 9 = .ok (.iconst (-1), 1) := by decide +kernel
theorem dX11_loss_10 : decode cX11_loss 10 = .ok (.ireturn, 1) := by decide +kernel
theorem dX11_loss_11 : decode cX11_loss 11 = .ok (.iload_n 2, 1) := by decide +kernel
theorem dX11_loss_12 : decode cX11_loss 12 = .ok (.iconst 0, 1) := by decide +kernel
theorem dX11_loss_13 : decode cX11_loss 13 = .ok (.bipush 60, 2) := by decide +kernel
theorem dX11_loss_15 : decode cX11_loss 15 = .ok (.invokestatic 85, 3) := by decide +kernel
theorem dX11_loss_18 : decode cX11_loss 18 = .ok (.ifCond .ne 6, 3) := by decide +kernel
theorem dX11_loss_21 : decode cX11_loss 21 = .ok (.bipush (-2), 2) := by decide +kernel
theorem dX11_loss_23 : decode cX11_loss 23 = .ok (.ireturn, 1) := by decide +kernel
theorem dX11_loss_24 : decode cX11_loss 24 = .ok (.aload_n 0, 1) := by decide +kernel
theorem dX11_loss_25 : decode cX11_loss 25 = .ok (.getfield 30, 3) := by decide +kernel
theorem dX11_loss_28 : decode cX11_loss 28 = .ok (.iload_n 1, 1) := by decide +kernel
theorem dX11_loss_29 : decode cX11_loss 29 = .ok (.iaload, 1) := by decide +kernel
theorem dX11_loss_30 : decode cX11_loss 30 = .ok (.istore_n 3, 1) := by decide +kernel
theorem dX11_loss_31 : decode cX11_loss 31 = .ok (.aload_n 0, 1) := by decide +kernel
theorem dX11_loss_32 : decode cX11_loss 32 = .ok (.getfield 30, 3) := by decide +kernel
theorem dX11_loss_35 : decode cX11_loss 35 = .ok (.iload_n 1, 1) := by decide +kernel
theorem dX11_loss_36 : decode cX11_loss 36 = .ok (.iload_n 2, 1) := by decide +kernel
theorem dX11_loss_37 : decode cX11_loss 37 = .ok (.iastore, 1) := by decide +kernel
theorem dX11_loss_38 : decode cX11_loss 38 = .ok (.iload_n 3, 1) := by decide +kernel
theorem dX11_loss_39 : decode cX11_loss 39 = .ok (.ireturn, 1) := by decide +kernel
theorem dX11_steer_0 : decode cX11_steer 0 = .ok (.iload_n 1, 1) := by decide +kernel
theorem dX11_steer_1 : decode cX11_steer 1 = .ok (.iconst (-1), 1) := by decide +kernel
theorem dX11_steer_2 : decode cX11_steer 2 = .ok (.if_icmp .ne 10, 3) := by decide +kernel
theorem dX11_steer_5 : decode cX11_steer 5 = .ok (.aload_n 0, 1) := by decide +kernel
theorem dX11_steer_6 : decode cX11_steer 6 = .ok (.iconst 0, 1) := by decide +kernel
theorem dX11_steer_7 : decode cX11_steer 7 = .ok (.putfield 143, 3) := by decide +kernel
theorem dX11_steer_10 : decode cX11_steer 10 = .ok (.iconst 0, 1) := by decide +kernel
theorem dX11_steer_11 : decode cX11_steer 11 = .ok (.ireturn, 1) := by decide +kernel
theorem dX11_steer_12 : decode cX11_steer 12 = .ok (.iload_n 1, 1) := by decide +kernel
theorem dX11_steer_13 : decode cX11_steer 13 = .ok (.invokestatic 102, 3) := by decide +kernel
theorem dX11_steer_16 : decode cX11_steer 16 = .ok (.ifCond .ne 5, 3) := by decide +kernel
theorem dX11_steer_19 : decode cX11_steer 19 = .ok (.iconst (-1), 1) := by decide +kernel
theorem dX11_steer_20 : decode cX11_steer 20 = .ok (.ireturn, 1) := by decide +kernel
theorem dX11_steer_21 : decode cX11_steer 21 = .ok (.aload_n 0, 1) := by decide +kernel
theorem dX11_steer_22 : decode cX11_steer 22 = .ok (.getfield 143, 3) := by decide +kernel
theorem dX11_steer_25 : decode cX11_steer 25 = .ok (.bipush 8, 2) := by decide +kernel
theorem dX11_steer_27 : decode cX11_steer 27 = .ok (.if_icmp .ne 6, 3) := by decide +kernel
theorem dX11_steer_30 : decode cX11_steer 30 = .ok (.bipush (-4), 2) := by decide +kernel
theorem dX11_steer_32 : decode cX11_steer 32 = .ok (.ireturn, 1) := by decide +kernel
theorem dX11_steer_33 : decode cX11_steer 33 = .ok (.aload_n 0, 1) := by decide +kernel
theorem dX11_steer_34 : decode cX11_steer 34 = .ok (.getfield 33, 3) := by decide +kernel
theorem dX11_steer_37 : decode cX11_steer 37 = .ok (.aload_n 0, 1) := by decide +kernel
theorem dX11_steer_38 : decode cX11_steer 38 = .ok (.getfield 143, 3) := by decide +kernel
theorem dX11_steer_41 : decode cX11_steer 41 = .ok (.iload_n 1, 1) := by decide +kernel
theorem dX11_steer_42 : decode cX11_steer 42 = .ok (.iastore, 1) := by decide +kernel
theorem dX11_steer_43 : decode cX11_steer 43 = .ok (.aload_n 0, 1) := by decide +kernel
theorem dX11_steer_44 : decode cX11_steer 44 = .ok (.dup, 1) := by decide +kernel
theorem dX11_steer_45 : decode cX11_steer 45 = .ok (.getfield 143, 3) := by decide +kernel
theorem dX11_steer_48 : decode cX11_steer 48 = .ok (.iconst 1, 1) := by decide +kernel
theorem dX11_steer_49 : decode cX11_steer 49 = .ok (.iadd, 1) := by decide +kernel
theorem dX11_steer_50 : decode cX11_steer 50 = .ok (.putfield 143, 3) := by decide +kernel
theorem dX11_steer_53 : decode cX11_steer 53 = .ok (.aload_n 0, 1) := by decide +kernel
theorem dX11_steer_54 : decode cX11_steer 54 = .ok (.getfield 143, 3) := by decide +kernel
theorem dX11_steer_57 : decode cX11_steer 57 = .ok (.ireturn, 1) := by decide +kernel
theorem dX11_feed_0 : decode cX11_feed 0 = .ok (.iload_n 1, 1) := by decide +kernel
theorem dX11_feed_1 : decode cX11_feed 1 = .ok (.iconst 0, 1) := by decide +kernel
theorem dX11_feed_2 : decode cX11_feed 2 = .ok (.bipush 127, 2) := by decide +kernel
theorem dX11_feed_4 : decode cX11_feed 4 = .ok (.invokestatic 85, 3) := by decide +kernel
theorem dX11_feed_7 : decode cX11_feed 7 = .ok (.ifCond .ne 6, 3) := by decide +kernel
theorem dX11_feed_10 : decode cX11_feed 10 = .ok (.bipush (-2), 2) := by decide +kernel
theorem dX11_feed_12 : decode cX11_feed 12 = .ok (.ireturn, 1) := by decide +kernel
theorem dX11_feed_13 : decode cX11_feed 13 = .ok (.aload_n 0, 1) := by decide +kernel
theorem dX11_feed_14 : decode cX11_feed 14 = .ok (.getfield 146, 3) := by decide +kernel
theorem dX11_feed_17 : decode cX11_feed 17 = .ok (.bipush 100, 2) := by decide +kernel
theorem dX11_feed_19 : decode cX11_feed 19 = .ok (.if_icmp .ne 6, 3) := by decide +kernel
theorem dX11_feed_22 : decode cX11_feed 22 = .ok (.bipush (-4), 2) := by decide +kernel
theorem dX11_feed_24 : decode cX11_feed 24 = .ok (.ireturn, 1) := by decide +kernel
theorem dX11_feed_25 : decode cX11_feed 25 = .ok (.aload_n 0, 1) := by decide +kernel
theorem dX11_feed_26 : decode cX11_feed 26 = .ok (.getfield 60, 3) := by decide +kernel
theorem dX11_feed_29 : decode cX11_feed 29 = .ok (.aload_n 0, 1) := by decide +kernel
theorem dX11_feed_30 : decode cX11_feed 30 = .ok (.getfield 146, 3) := by decide +kernel
theorem dX11_feed_33 : decode cX11_feed 33 = .ok (.iload_n 1, 1) := by decide +kernel
theorem dX11_feed_34 : decode cX11_feed 34 = .ok (.iastore, 1) := by decide +kernel
theorem dX11_feed_35 : decode cX11_feed 35 = .ok (.aload_n 0, 1) := by decide +kernel
theorem dX11_feed_36 : decode cX11_feed 36 = .ok (.dup, 1) := by decide +kernel
theorem dX11_feed_37 : decode cX11_feed 37 = .ok (.getfield 146, 3) := by decide +kernel
theorem dX11_feed_40 : decode cX11_feed 40 = .ok (.iconst 1, 1) := by decide +kernel
theorem dX11_feed_41 : decode cX11_feed 41 = .ok (.iadd, 1) := by decide +kernel
theorem dX11_feed_42 : decode cX11_feed 42 = .ok (.putfield 146, 3) := by decide +kernel
theorem dX11_feed_45 : decode cX11_feed 45 = .ok (.aload_n 0, 1) := by decide +kernel
theorem dX11_feed_46 : decode cX11_feed 46 = .ok (.getfield 146, 3) := by decide +kernel
theorem dX11_feed_49 : decode cX11_feed 49 = .ok (.ireturn, 1) := by decide +kernel
theorem dX11_here_0 : decode cX11_here 0 = .ok (.aload_n 0, 1) := by decide +kernel
theorem dX11_here_1 : decode cX11_here 1 = .ok (.getfield 149, 3) := by decide +kernel
theorem dX11_here_4 : decode cX11_here 4 = .ok (.aload_n 0, 1) := by decide +kernel
theorem dX11_here_5 : decode cX11_here 5 = .ok (.getfield 146, 3) := by decide +kernel
theorem dX11_here_8 : decode cX11_here 8 = .ok (.if_icmp .ge 15, 3) := by decide +kernel
theorem dX11_here_11 : decode cX11_here 11 = .ok (.aload_n 0, 1) := by decide +kernel
theorem dX11_here_12 : decode cX11_here 12 = .ok (.getfield 60, 3) := by decide +kernel
theorem dX11_here_15 : decode cX11_here 15 = .ok (.aload_n 0, 1) := by decide +kernel
theorem dX11_here_16 : decode cX11_here 16 = .ok (.getfield 149, 3) := by decide +kernel
theorem dX11_here_19 : decode cX11_here 19 = .ok (.iaload, 1) := by decide +kernel
theorem dX11_here_20 : decode cX11_here 20 = .ok (.goto 4, 3) := by decide +kernel
theorem dX11_here_23 : decode cX11_here 23 = .ok (.iconst (-1), 1) := by decide +kernel
theorem dX11_here_24 : decode cX11_here 24 = .ok (.ireturn, 1) := by decide +kernel
theorem dX11_digits_0 : decode cX11_digits 0 = .ok (.aload_n 0, 1) := by decide +kernel
theorem dX11_digits_1 : decode cX11_digits 1 = .ok (.getfield 149, 3) := by decide +kernel
theorem dX11_digits_4 : decode cX11_digits 4 = .ok (.istore 4, 2) := by decide +kernel
theorem dX11_digits_6 : decode cX11_digits 6 = .ok (.aload_n 0, 1) := by decide +kernel
theorem dX11_digits_7 : decode cX11_digits 7 = .ok (.getfield 63, 3) := by decide +kernel
theorem dX11_digits_10 : decode cX11_digits 10 = .ok (.iload_n 1, 1) := by decide +kernel
theorem dX11_digits_11 : decode cX11_digits 11 = .ok (.iconst 0, 1) := by decide +kernel
theorem dX11_digits_12 : decode cX11_digits 12 = .ok (.iastore, 1) := by decide +kernel
theorem dX11_digits_13 : decode cX11_digits 13 = .ok (.aload_n 0, 1) := by decide +kernel
theorem dX11_digits_14 : decode cX11_digits 14 = .ok (.getfield 149, 3) := by decide +kernel
theorem dX11_digits_17 : decode cX11_digits 17 = .ok (.iload 4, 2) := by decide +kernel
theorem dX11_digits_19 : decode cX11_digits 19 = .ok (.iload_n 3, 1) := by decide +kernel
theorem dX11_digits_20 : decode cX11_digits 20 = .ok (.iadd, 1) := by decide +kernel
theorem dX11_digits_21 : decode cX11_digits 21 = .ok (.if_icmp .ge 53, 3) := by decide +kernel
theorem dX11_digits_24 : decode cX11_digits 24 = .ok (.aload_n 0, 1) := by decide +kernel
theorem dX11_digits_25 : decode cX11_digits 25 = .ok (.invokevirtual 152, 3) := by decide +kernel
theorem dX11_digits_28 : decode cX11_digits 28 = .ok (.bipush 48, 2) := by decide +kernel
theorem dX11_digits_30 : decode cX11_digits 30 = .ok (.bipush 57, 2) := by decide +kernel
theorem dX11_digits_32 : decode cX11_digits 32 = .ok (.invokestatic 85, 3) := by decide +kernel
theorem dX11_digits_35 : decode cX11_digits 35 = .ok (.ifCond .eq 39, 3) := by decide +kernel
theorem dX11_digits_38 : decode cX11_digits 38 = .ok (.aload_n 0, 1) := by decide +kernel
theorem dX11_digits_39 : decode cX11_digits 39 = .ok (.getfield 63, 3) := by decide +kernel
theorem dX11_digits_42 : decode cX11_digits 42 = .ok (.iload_n 1, 1) := by decide +kernel
theorem dX11_digits_43 : decode cX11_digits 43 = .ok (.bipush 10, 2) := by decide +kernel
theorem dX11_digits_45 : decode cX11_digits 45 = .ok (.aload_n 0, 1) := by decide +kernel
theorem dX11_digits_46 : decode cX11_digits 46 = .ok (.getfield 63, 3) := by decide +kernel
theorem dX11_digits_49 : decode cX11_digits 49 = .ok (.iload_n 1, 1) := by decide +kernel
theorem dX11_digits_50 : decode cX11_digits 50 = .ok (.iaload, 1) := by decide +kernel
theorem dX11_digits_51 : decode cX11_digits 51 = .ok (.imul, 1) := by decide +kernel
theorem dX11_digits_52 : decode cX11_digits 52 = .ok (.aload_n 0, 1) := by decide +kernel
theorem dX11_digits_53 : decode cX11_digits 53 = .ok (.invokevirtual 152, 3) := by decide +kernel
theorem dX11_digits_56 : decode cX11_digits 56 = .ok (.iadd, 1) := by decide +kernel
theorem dX11_digits_57 : decode cX11_digits 57 = .ok (.bipush 48, 2) := by decide +kernel
theorem dX11_digits_59 : decode cX11_digits 59 = .ok (.isub, 1) := by decide +kernel
theorem dX11_digits_60 : decode cX11_digits 60 = .ok (.iastore, 1) := by decide +kernel
theorem dX11_digits_61 : decode cX11_digits 61 = .ok (.aload_n 0, 1) := by decide +kernel
theorem dX11_digits_62 : decode cX11_digits 62 = .ok (.dup, 1) := by decide +kernel
theorem dX11_digits_63 : decode cX11_digits 63 = .ok (.getfield 149, 3) := by decide +kernel
theorem dX11_digits_66 : decode cX11_digits 66 = .ok (.iconst 1, 1) := by decide +kernel
theorem dX11_digits_67 : decode cX11_digits 67 = .ok (.iadd, 1) := by decide +kernel
theorem dX11_digits_68 : decode cX11_digits 68 = .ok (.putfield 149, 3) := by decide +kernel
theorem dX11_digits_71 : decode cX11_digits 71 = .ok (.goto (-58), 3) := by decide +kernel
theorem dX11_digits_74 : decode cX11_digits 74 = .ok (.aload_n 0, 1) := by decide +kernel
theorem dX11_digits_75 : decode cX11_digits 75 = .ok (.getfield 149, 3) := by decide +kernel
theorem dX11_digits_78 : decode cX11_digits 78 = .ok (.iload 4, 2) := by decide +kernel
theorem dX11_digits_80 : decode cX11_digits 80 = .ok (.iload_n 2, 1) := by decide +kernel
theorem dX11_digits_81 : decode cX11_digits 81 = .ok (.iadd, 1) := by decide +kernel
theorem dX11_digits_82 : decode cX11_digits 82 = .ok (.if_icmp .lt 7, 3) := by decide +kernel
theorem dX11_digits_85 : decode cX11_digits 85 = .ok (.iconst 1, 1) := by decide +kernel
theorem dX11_digits_86 : decode cX11_digits 86 = .ok (.goto 4, 3) := by decide +kernel
theorem dX11_digits_89 : decode cX11_digits 89 = .ok (.iconst 0, 1) := by decide +kernel
theorem dX11_digits_90 : decode cX11_digits 90 = .ok (.ireturn, 1) := by decide +kernel
theorem dX11_ones_0 : decode cX11_ones 0 = .ok (.iconst 0, 1) := by decide +kernel
theorem dX11_ones_1 : decode cX11_ones 1 = .ok (.istore_n 2, 1) := by decide +kernel
theorem dX11_ones_2 : decode cX11_ones 2 = .ok (.iload_n 2, 1) := by decide +kernel
theorem dX11_ones_3 : decode cX11_ones 3 = .ok (.iload_n 1, 1) := by decide +kernel
theorem dX11_ones_4 : decode cX11_ones 4 = .ok (.if_icmp .ge 21, 3) := by decide +kernel
theorem dX11_ones_7 : decode cX11_ones 7 = .ok (.aload_n 0, 1) := by decide +kernel
theorem dX11_ones_8 : decode cX11_ones 8 = .ok (.iload_n 2, 1) := by decide +kernel
theorem dX11_ones_9 : decode cX11_ones 9 = .ok (.iconst 1, 1) := by decide +kernel
theorem dX11_ones_10 : decode cX11_ones 10 = .ok (.iconst 1, 1) := by decide +kernel
theorem dX11_ones_11 : decode cX11_ones 11 = .ok (.invokevirtual 155, 3) := by decide +kernel
theorem dX11_ones_14 : decode cX11_ones 14 = .ok (.ifCond .ne 5, 3) := by decide +kernel
theorem dX11_ones_17 : decode cX11_ones 17 = .ok (.iconst 0, 1) := by decide +kernel
theorem dX11_ones_18 : decode cX11_ones 18 = .ok (.ireturn, 1) := by decide +kernel
theorem dX11_ones_19 : decode cX11_ones 19 = .ok (.iinc 2 1, 3) := by decide +kernel
theorem dX11_ones_22 : decode cX11_ones 22 = .ok (.goto (-20), 3) := by decide +kernel
theorem dX11_ones_25 : decode cX11_ones 25 = .ok (.iconst 1, 1) := by decide +kernel
theorem dX11_ones_26 : decode cX11_ones 26 = .ok (.ireturn, 1) := by decide +kernel
theorem dX11_tables_0 : decode cX11_tables 0 = .ok (.aload_n 0, 1) := by decide +kernel
theorem dX11_tables_1 : decode cX11_tables 1 = .ok (.iconst 0, 1) := by decide +kernel
theorem dX11_tables_2 : decode cX11_tables 2 = .ok (.iconst 1, 1) := by decide +kernel
theorem dX11_tables_3 : decode cX11_tables 3 = .ok (.iconst 1, 1) := by decide +kernel
theorem dX11_tables_4 : decode cX11_tables 4 = .ok (.invokevirtual 155, 3) := by decide +kernel
theorem dX11_tables_7 : decode cX11_tables 7 = .ok (.ifCond .ne 5, 3) := by decide +kernel
theorem dX11_tables_10 : decode cX11_tables 10 = .ok (.iconst 0, 1) := by decide +kernel
theorem dX11_tables_11 : decode cX11_tables 11 = .ok (.ireturn, 1) := by decide +kernel
theorem dX11_tables_12 : decode cX11_tables 12 = .ok (.aload_n 0, 1) := by decide +kernel
theorem dX11_tables_13 : decode cX11_tables 13 = .ok (.aload_n 0, 1) := by decide +kernel
theorem dX11_tables_14 : decode cX11_tables 14 = .ok (.getfield 63, 3) := by decide +kernel
theorem dX11_tables_17 : decode cX11_tables 17 = .ok (.iconst 0, 1) := by decide +kernel
theorem dX11_tables_18 : decode cX11_tables 18 = .ok (.iaload, 1) := by decide +kernel
theorem dX11_tables_19 : decode cX11_tables 19 = .ok (.putfield 158, 3) := by decide +kernel
theorem dX11_tables_22 : decode cX11_tables 22 = .ok (.aload_n 0, 1) := by decide +kernel
theorem dX11_tables_23 : decode cX11_tables 23 = .ok (.iconst 5, 1) := by decide +kernel
theorem dX11_tables_24 : decode cX11_tables 24 = .ok (.invokevirtual 161, 3) := by decide +kernel
theorem dX11_tables_27 : decode cX11_tables 27 = .ok (.ireturn, 1) := by decide +kernel
theorem dX11_losses_0 : decode cX11_losses 0 = .ok (.aload_n 0, 1) := by decide +kernel
theorem dX11_losses_1 : decode cX11_losses 1 = .ok (.iconst 0, 1) := by decide +kernel
theorem dX11_losses_2 : decode cX11_losses 2 = .ok (.iconst 1, 1) := by decide +kernel
theorem dX11_losses_3 : decode cX11_losses 3 = .ok (.iconst 2, 1) := by decide +kernel
theorem dX11_losses_4 : decode cX11_losses 4 = .ok (.invokevirtual 155, 3) := by decide +kernel
theorem dX11_losses_7 : decode cX11_losses 7 = .ok (.ifCond .eq 12, 3) := by decide +kernel
theorem dX11_losses_10 : decode cX11_losses 10 = .ok (.aload_n 0, 1) := by decide +kernel
theorem dX11_losses_11 : decode cX11_losses 11 = .ok (.invokevirtual 152, 3) := by decide +kernel
theorem dX11_losses_14 : decode cX11_losses 14 = .ok (.bipush 44, 2) := by decide +kernel
theorem dX11_losses_16 : decode cX11_losses 16 = .ok (.if_icmp .eq 5, 3) := by decide +kernel
theorem dX11_losses_19 : decode cX11_losses 19 = .ok (.iconst 0, 1) := by decide +kernel
theorem dX11_losses_20 : decode cX11_losses 20 = .ok (.ireturn, 1) := by decide +kernel
theorem dX11_losses_21 : decode cX11_losses 21 = .ok (.aload_n 0, 1) := by decide +kernel
theorem dX11_losses_22 : decode cX11_losses 22 = .ok (.dup, 1) := by decide +kernel
theorem dX11_losses_23 : decode cX11_losses 23 = .ok (.getfield 149, 3) := by decide +kernel
theorem dX11_losses_26 : decode cX11_losses 26 = .ok (.iconst 1, 1) := by decide +kernel
theorem dX11_losses_27 : decode cX11_losses 27 = .ok (.iadd, 1) := by decide +kernel
theorem dX11_losses_28 : decode cX11_losses 28 = .ok (.putfield 149, 3) := by decide +kernel
theorem dX11_losses_31 : decode cX11_losses 31 = .ok (.aload_n 0, 1) := by decide +kernel
theorem dX11_losses_32 : decode cX11_losses 32 = .ok (.iconst 1, 1) := by decide +kernel
theorem dX11_losses_33 : decode cX11_losses 33 = .ok (.iconst 1, 1) := by decide +kernel
theorem dX11_losses_34 : decode cX11_losses 34 = .ok (.iconst 2, 1) := by decide +kernel
theorem dX11_losses_35 : decode cX11_losses 35 = .ok (.invokevirtual 155, 3) := by decide +kernel
theorem dX11_losses_38 : decode cX11_losses 38 = .ok (.ireturn, 1) := by decide +kernel
theorem dX11_clause_0 : decode cX11_clause 0 = .ok (.aload_n 0, 1) := by decide +kernel
theorem dX11_clause_1 : decode cX11_clause 1 = .ok (.invokevirtual 152, 3) := by decide +kernel
theorem dX11_clause_4 : decode cX11_clause 4 = .ok (.istore_n 1, 1) := by decide +kernel
theorem dX11_clause_5 : decode cX11_clause 5 = .ok (.aload_n 0, 1) := by decide +kernel
theorem dX11_clause_6 : decode cX11_clause 6 = .ok (.dup, 1) := by decide +kernel
theorem dX11_clause_7 : decode cX11_clause 7 = .ok (.getfield 149, 3) := by decide +kernel
theorem dX11_clause_10 : decode cX11_clause 10 = .ok (.iconst 1, 1) := by decide +kernel
theorem dX11_clause_11 : decode cX11_clause 11 = .ok (.iadd, 1) := by decide +kernel
theorem dX11_clause_12 : decode cX11_clause 12 = .ok (.putfield 149, 3) := by decide +kernel
theorem dX11_clause_15 : decode cX11_clause 15 = .ok (.iload_n 1, 1) := by decide +kernel
theorem dX11_clause_16 : decode cX11_clause 16 = .ok (.lookupswitch 144 #[(98, 78), (99, 69), (108, 86), (115, 97), (116, 136), (119, 60)], 60) := by decide +kernel
theorem dX11_clause_76 : decode cX11_clause 76 = .ok (.aload_n 0, 1) := by decide +kernel
theorem dX11_clause_77 : decode cX11_clause 77 = .ok (.iconst 4, 1) := by decide +kernel
theorem dX11_clause_78 : decode cX11_clause 78 = .ok (.invokevirtual 161, 3) := by decide +kernel
theorem dX11_clause_81 : decode cX11_clause 81 = .ok (.istore_n 2, 1) := by decide +kernel
theorem dX11_clause_82 : decode cX11_clause 82 = .ok (.goto 90, 3) := by decide +kernel
theorem dX11_clause_85 : decode cX11_clause 85 = .ok (.aload_n 0, 1) := by decide +kernel
theorem dX11_clause_86 : decode cX11_clause 86 = .ok (.iconst 3, 1) := by decide +kernel
theorem dX11_clause_87 : decode cX11_clause 87 = .ok (.invokevirtual 161, 3) := by decide +kernel
theorem dX11_clause_90 : decode cX11_clause 90 = .ok (.istore_n 2, 1) := by decide +kernel
theorem dX11_clause_91 : decode cX11_clause 91 = .ok (.goto 81, 3) := by decide +kernel
theorem dX11_clause_94 : decode cX11_clause 94 = .ok (.aload_n 0, 1) := by decide +kernel
theorem dX11_clause_95 : decode cX11_clause 95 = .ok (.invokevirtual 164, 3) := by decide +kernel
theorem dX11_clause_98 : decode cX11_clause 98 = .ok (.istore_n 2, 1) := by decide +kernel
theorem dX11_clause_99 : decode cX11_clause 99 = .ok (.goto 73, 3) := by decide +kernel
theorem dX11_clause_102 : decode cX11_clause 102 = .ok (.aload_n 0, 1) := by decide +kernel
theorem dX11_clause_103 : decode cX11_clause 103 = .ok (.iconst 0, 1) := by decide +kernel
theorem dX11_clause_104 : decode cX11_clause 104 = .ok (.iconst 2, 1) := by decide +kernel
theorem dX11_clause_105 : decode cX11_clause 105 = .ok (.iconst 2, 1) := by decide +kernel
theorem dX11_clause_106 : decode cX11_clause 106 = .ok (.invokevirtual 155, 3) := by decide +kernel
theorem dX11_clause_109 : decode cX11_clause 109 = .ok (.istore_n 2, 1) := by decide +kernel
theorem dX11_clause_110 : decode cX11_clause 110 = .ok (.goto 62, 3) := by decide +kernel
theorem dX11_clause_113 : decode cX11_clause 113 = .ok (.aload_n 0, 1) := by decide +kernel
theorem dX11_clause_114 : decode cX11_clause 114 = .ok (.iconst 0, 1) := by decide +kernel
theorem dX11_clause_115 : decode cX11_clause 115 = .ok (.iconst 2, 1) := by decide +kernel
theorem dX11_clause_116 : decode cX11_clause 116 = .ok (.iconst 2, 1) := by decide +kernel
theorem dX11_clause_117 : decode cX11_clause 117 = .ok (.invokevirtual 155, 3) := by decide +kernel
theorem dX11_clause_120 : decode cX11_clause 120 = .ok (.ifCond .eq 27, 3) := by decide +kernel
theorem dX11_clause_123 : decode cX11_clause 123 = .ok (.aload_n 0, 1) := by decide +kernel
theorem dX11_clause_124 : decode cX11_clause 124 = .ok (.iconst 1, 1) := by decide +kernel
theorem dX11_clause_125 : decode cX11_clause 125 = .ok (.iconst 1, 1) := by decide +kernel
theorem dX11_clause_126 : decode cX11_clause 126 = .ok (.iconst 1, 1) := by decide +kernel
theorem dX11_clause_127 : decode cX11_clause 127 = .ok (.invokevirtual 155, 3) := by decide +kernel
theorem dX11_clause_130 : decode cX11_clause 130 = .ok (.ifCond .eq 17, 3) := by decide +kernel
theorem dX11_clause_133 : decode cX11_clause 133 = .ok (.aload_n 0, 1) := by decide +kernel
theorem dX11_clause_134 : decode cX11_clause 134 = .ok (.iconst 2, 1) := by decide +kernel
theorem dX11_clause_135 : decode cX11_clause 135 = .ok (.iconst 1, 1) := by decide +kernel
theorem dX11_clause_136 : decode cX11_clause 136 = .ok (.iconst 4, 1) := by decide +kernel
theorem dX11_clause_137 : decode cX11_clause 137 = .ok (.invokevirtual 155, 3) := by decide +kernel
theorem dX11_clause_140 : decode cX11_clause 140 = .ok (.ifCond .eq 7, 3) := by decide +kernel
theorem dX11_clause_143 : decode cX11_clause 143 = .ok (.iconst 1, 1) := by decide +kernel
theorem dX11_clause_144 : decode cX11_clause 144 = .ok (.goto 4, 3) := by decide +kernel
theorem dX11_clause_147 : decode cX11_clause 147 = .ok (.iconst 0, 1) := by decide +kernel
theorem dX11_clause_148 : decode cX11_clause 148 = .ok (.istore_n 2, 1) := by decide +kernel
theorem dX11_clause_149 : decode cX11_clause 149 = .ok (.goto 23, 3) := by decide +kernel
theorem dX11_clause_152 : decode cX11_clause 152 = .ok (.aload_n 0, 1) := by decide +kernel
theorem dX11_clause_153 : decode cX11_clause 153 = .ok (.invokevirtual 168, 3) := by decide +kernel
theorem dX11_clause_156 : decode cX11_clause 156 = .ok (.istore_n 2, 1) := by decide +kernel
theorem dX11_clause_157 : decode cX11_clause 157 = .ok (.goto 15, 3) := by decide +kernel
theorem dX11_clause_160 : decode cX11_clause 160 = .ok (.aload_n 0, 1) := by decide +kernel
theorem dX11_clause_161 : decode cX11_clause 161 = .ok (.dup, 1) := by decide +kernel
theorem dX11_clause_162 : decode cX11_clause 162 = .ok (.getfield 149, 3) := by decide +kernel
theorem dX11_clause_165 : decode cX11_clause 165 = .ok (.iconst 1, 1) := by decide +kernel
theorem dX11_clause_166 : decode cX11_clause 166 = .ok (.isub, 1) := by decide +kernel
theorem dX11_clause_167 : decode cX11_clause 167 = .ok (.putfield 149, 3) := by decide +kernel
theorem dX11_clause_170 : decode cX11_clause 170 = .ok (.iconst 0, 1) := by decide +kernel
theorem dX11_clause_171 : decode cX11_clause 171 = .ok (.istore_n 2, 1) := by decide +kernel
theorem dX11_clause_172 : decode cX11_clause 172 = .ok (.iload_n 2, 1) := by decide +kernel
theorem dX11_clause_173 : decode cX11_clause 173 = .ok (.ifCond .eq 7, 3) := by decide +kernel
theorem dX11_clause_176 : decode cX11_clause 176 = .ok (.iload_n 1, 1) := by decide +kernel
theorem dX11_clause_177 : decode cX11_clause 177 = .ok (.goto 4, 3) := by decide +kernel
theorem dX11_clause_180 : decode cX11_clause 180 = .ok (.iconst (-1), 1) := by decide +kernel
theorem dX11_clause_181 : decode cX11_clause 181 = .ok (.ireturn, 1) := by decide +kernel
theorem dX11_isTabled_0 : decode cX11_isTabled 0 = .ok (.aload_n 0, 1) := by decide +kernel
theorem dX11_isTabled_1 : decode cX11_isTabled 1 = .ok (.getfield 158, 3) := by decide +kernel
theorem dX11_isTabled_4 : decode cX11_isTabled 4 = .ok (.iconst 1, 1) := by decide +kernel
theorem dX11_isTabled_5 : decode cX11_isTabled 5 = .ok (.iconst 3, 1) := by decide +kernel
theorem dX11_isTabled_6 : decode cX11_isTabled 6 = .ok (.invokestatic 85, 3) := by decide +kernel
theorem dX11_isTabled_9 : decode cX11_isTabled 9 = .ok (.ifCond .ne 5, 3) := by decide +kernel
theorem dX11_isTabled_12 : decode cX11_isTabled 12 = .ok (.iconst 0, 1) := by decide +kernel
theorem dX11_isTabled_13 : decode cX11_isTabled 13 = .ok (.ireturn, 1) := by decide +kernel
theorem dX11_isTabled_14 : decode cX11_isTabled 14 = .ok (.iconst 0, 1) := by decide +kernel
theorem dX11_isTabled_15 : decode cX11_isTabled 15 = .ok (.istore_n 1, 1) := by decide +kernel
theorem dX11_isTabled_16 : decode cX11_isTabled 16 = .ok (.iload_n 1, 1) := by decide +kernel
theorem dX11_isTabled_17 : decode cX11_isTabled 17 = .ok (.iconst 5, 1) := by decide +kernel
theorem dX11_isTabled_18 : decode cX11_isTabled 18 = .ok (.if_icmp .ge 28, 3) := by decide +kernel
theorem dX11_isTabled_21 : decode cX11_isTabled 21 = .ok (.aload_n 0, 1) := by decide +kernel
theorem dX11_isTabled_22 : decode cX11_isTabled 22 = .ok (.getfield 21, 3) := by decide +kernel
theorem dX11_isTabled_25 : decode cX11_isTabled 25 = .ok (.iconst 5, 1) := by decide +kernel
theorem dX11_isTabled_26 : decode cX11_isTabled 26 = .ok (.aload_n 0, 1) := by decide +kernel
theorem dX11_isTabled_27 : decode cX11_isTabled 27 = .ok (.getfield 158, 3) := by decide +kernel
theorem dX11_isTabled_30 : decode cX11_isTabled 30 = .ok (.imul, 1) := by decide +kernel
theorem dX11_isTabled_31 : decode cX11_isTabled 31 = .ok (.iload_n 1, 1) := by decide +kernel
theorem dX11_isTabled_32 : decode cX11_isTabled 32 = .ok (.iadd, 1) := by decide +kernel
theorem dX11_isTabled_33 : decode cX11_isTabled 33 = .ok (.aload_n 0, 1) := by decide +kernel
theorem dX11_isTabled_34 : decode cX11_isTabled 34 = .ok (.getfield 63, 3) := by decide +kernel
theorem dX11_isTabled_37 : decode cX11_isTabled 37 = .ok (.iload_n 1, 1) := by decide +kernel
theorem dX11_isTabled_38 : decode cX11_isTabled 38 = .ok (.iaload, 1) := by decide +kernel
theorem dX11_isTabled_39 : decode cX11_isTabled 39 = .ok (.iastore, 1) := by decide +kernel
theorem dX11_isTabled_40 : decode cX11_isTabled 40 = .ok (.iinc 1 1, 3) := by decide +kernel
theorem dX11_isTabled_43 : decode cX11_isTabled 43 = .ok (.goto (-27), 3) := by decide +kernel
theorem dX11_isTabled_46 : decode cX11_isTabled 46 = .ok (.iconst 1, 1) := by decide +kernel
theorem dX11_isTabled_47 : decode cX11_isTabled 47 = .ok (.ireturn, 1) := by decide +kernel
theorem dX11_isBegun_0 : decode cX11_isBegun 0 = .ok (.aload_n 0, 1) := by decide +kernel
theorem dX11_isBegun_1 : decode cX11_isBegun 1 = .ok (.aload_n 0, 1) := by decide +kernel
theorem dX11_isBegun_2 : decode cX11_isBegun 2 = .ok (.getfield 63, 3) := by decide +kernel
theorem dX11_isBegun_5 : decode cX11_isBegun 5 = .ok (.iconst 0, 1) := by decide +kernel
theorem dX11_isBegun_6 : decode cX11_isBegun 6 = .ok (.iaload, 1) := by decide +kernel
theorem dX11_isBegun_7 : decode cX11_isBegun 7 = .ok (.aload_n 0, 1) := by decide +kernel
theorem dX11_isBegun_8 : decode cX11_isBegun 8 = .ok (.getfield 63, 3) := by decide +kernel
theorem dX11_isBegun_11 : decode cX11_isBegun 11 = .ok (.iconst 1, 1) := by decide +kernel
theorem dX11_isBegun_12 : decode cX11_isBegun 12 = .ok (.iaload, 1) := by decide +kernel
theorem dX11_isBegun_13 : decode cX11_isBegun 13 = .ok (.aload_n 0, 1) := by decide +kernel
theorem dX11_isBegun_14 : decode cX11_isBegun 14 = .ok (.getfield 63, 3) := by decide +kernel
theorem dX11_isBegun_17 : decode cX11_isBegun 17 = .ok (.iconst 2, 1) := by decide +kernel
theorem dX11_isBegun_18 : decode cX11_isBegun 18 = .ok (.iaload, 1) := by decide +kernel
theorem dX11_isBegun_19 : decode cX11_isBegun 19 = .ok (.invokevirtual 128, 3) := by decide +kernel
theorem dX11_isBegun_22 : decode cX11_isBegun 22 = .ok (.ifCond .ge 5, 3) := by decide +kernel
theorem dX11_isBegun_25 : decode cX11_isBegun 25 = .ok (.iconst 0, 1) := by decide +kernel
theorem dX11_isBegun_26 : decode cX11_isBegun 26 = .ok (.ireturn, 1) := by decide +kernel
theorem dX11_isBegun_27 : decode cX11_isBegun 27 = .ok (.aload_n 0, 1) := by decide +kernel
theorem dX11_isBegun_28 : decode cX11_isBegun 28 = .ok (.aload_n 0, 1) := by decide +kernel
theorem dX11_isBegun_29 : decode cX11_isBegun 29 = .ok (.getfield 63, 3) := by decide +kernel
theorem dX11_isBegun_32 : decode cX11_isBegun 32 = .ok (.iconst 0, 1) := by decide +kernel
theorem dX11_isBegun_33 : decode cX11_isBegun 33 = .ok (.iaload, 1) := by decide +kernel
theorem dX11_isBegun_34 : decode cX11_isBegun 34 = .ok (.aload_n 0, 1) := by decide +kernel
theorem dX11_isBegun_35 : decode cX11_isBegun 35 = .ok (.getfield 63, 3) := by decide +kernel
theorem dX11_isBegun_38 : decode cX11_isBegun 38 = .ok (.iconst 1, 1) := by decide +kernel
theorem dX11_isBegun_39 : decode cX11_isBegun 39 = .ok (.iaload, 1) := by decide +kernel
theorem dX11_isBegun_40 : decode cX11_isBegun 40 = .ok (.aload_n 0, 1) := by decide +kernel
theorem dX11_isBegun_41 : decode cX11_isBegun 41 = .ok (.getfield 63, 3) := by decide +kernel
theorem dX11_isBegun_44 : decode cX11_isBegun 44 = .ok (.iconst 2, 1) := by decide +kernel
theorem dX11_isBegun_45 : decode cX11_isBegun 45 = .ok (.iaload, 1) := by decide +kernel
theorem dX11_isBegun_46 : decode cX11_isBegun 46 = .ok (.invokevirtual 132, 3) := by decide +kernel
theorem dX11_isBegun_49 : decode cX11_isBegun 49 = .ok (.iconst 1, 1) := by decide +kernel
theorem dX11_isBegun_50 : decode cX11_isBegun 50 = .ok (.ireturn, 1) := by decide +kernel
theorem dX11_isLost_0 : decode cX11_isLost 0 = .ok (.aload_n 0, 1) := by decide +kernel
theorem dX11_isLost_1 : decode cX11_isLost 1 = .ok (.getfield 63, 3) := by decide +kernel
theorem dX11_isLost_4 : decode cX11_isLost 4 = .ok (.iconst 0, 1) := by decide +kernel
theorem dX11_isLost_5 : decode cX11_isLost 5 = .ok (.iaload, 1) := by decide +kernel
theorem dX11_isLost_6 : decode cX11_isLost 6 = .ok (.bipush 60, 2) := by decide +kernel
theorem dX11_isLost_8 : decode cX11_isLost 8 = .ok (.if_icmp .gt 14, 3) := by decide +kernel
theorem dX11_isLost_11 : decode cX11_isLost 11 = .ok (.aload_n 0, 1) := by decide +kernel
theorem dX11_isLost_12 : decode cX11_isLost 12 = .ok (.getfield 63, 3) := by decide +kernel
theorem dX11_isLost_15 : decode cX11_isLost 15 = .ok (.iconst 1, 1) := by decide +kernel
theorem dX11_isLost_16 : decode cX11_isLost 16 = .ok (.iaload, 1) := by decide +kernel
theorem dX11_isLost_17 : decode cX11_isLost 17 = .ok (.bipush 60, 2) := by decide +kernel
theorem dX11_isLost_19 : decode cX11_isLost 19 = .ok (.if_icmp .le 5, 3) := by decide +kernel
theorem dX11_isLost_22 : decode cX11_isLost 22 = .ok (.iconst 0, 1) := by decide +kernel
theorem dX11_isLost_23 : decode cX11_isLost 23 = .ok (.ireturn, 1) := by decide +kernel
theorem dX11_isLost_24 : decode cX11_isLost 24 = .ok (.aload_n 0, 1) := by decide +kernel
theorem dX11_isLost_25 : decode cX11_isLost 25 = .ok (.getfield 30, 3) := by decide +kernel
theorem dX11_isLost_28 : decode cX11_isLost 28 = .ok (.iconst 0, 1) := by decide +kernel
theorem dX11_isLost_29 : decode cX11_isLost 29 = .ok (.aload_n 0, 1) := by decide +kernel
theorem dX11_isLost_30 : decode cX11_isLost 30 = .ok (.getfield 63, 3) := by decide +kernel
theorem dX11_isLost_33 : decode cX11_isLost 33 = .ok (.iconst 0, 1) := by decide +kernel
theorem dX11_isLost_34 : decode cX11_isLost 34 = .ok (.iaload, 1) := by decide +kernel
theorem dX11_isLost_35 : decode cX11_isLost 35 = .ok (.iastore, 1) := by decide +kernel
theorem dX11_isLost_36 : decode cX11_isLost 36 = .ok (.aload_n 0, 1) := by decide +kernel
theorem dX11_isLost_37 : decode cX11_isLost 37 = .ok (.getfield 30, 3) := by decide +kernel
theorem dX11_isLost_40 : decode cX11_isLost 40 = .ok (.iconst 1, 1) := by decide +kernel
theorem dX11_isLost_41 : decode cX11_isLost 41 = .ok (.aload_n 0, 1) := by decide +kernel
theorem dX11_isLost_42 : decode cX11_isLost 42 = .ok (.getfield 63, 3) := by decide +kernel
theorem dX11_isLost_45 : decode cX11_isLost 45 = .ok (.iconst 1, 1) := by decide +kernel
theorem dX11_isLost_46 : decode cX11_isLost 46 = .ok (.iaload, 1) := by decide +kernel
theorem dX11_isLost_47 : decode cX11_isLost 47 = .ok (.iastore, 1) := by decide +kernel
theorem dX11_isLost_48 : decode cX11_isLost 48 = .ok (.iconst 1, 1) := by decide +kernel
theorem dX11_isLost_49 : decode cX11_isLost 49 = .ok (.ireturn, 1) := by decide +kernel
theorem dX11_isDone_0 : decode cX11_isDone 0 = .ok (.iload_n 1, 1) := by decide +kernel
theorem dX11_isDone_1 : decode cX11_isDone 1 = .ok (.lookupswitch 179 #[(98, 119), (99, 88), (108, 124), (115, 174), (119, 51)], 51) := by decide +kernel
theorem dX11_isDone_52 : decode cX11_isDone 52 = .ok (.aload_n 0, 1) := by decide +kernel
theorem dX11_isDone_53 : decode cX11_isDone 53 = .ok (.aload_n 0, 1) := by decide +kernel
theorem dX11_isDone_54 : decode cX11_isDone 54 = .ok (.getfield 63, 3) := by decide +kernel
theorem dX11_isDone_57 : decode cX11_isDone 57 = .ok (.iconst 0, 1) := by decide +kernel
theorem dX11_isDone_58 : decode cX11_isDone 58 = .ok (.iaload, 1) := by decide +kernel
theorem dX11_isDone_59 : decode cX11_isDone 59 = .ok (.aload_n 0, 1) := by decide +kernel
theorem dX11_isDone_60 : decode cX11_isDone 60 = .ok (.getfield 63, 3) := by decide +kernel
theorem dX11_isDone_63 : decode cX11_isDone 63 = .ok (.iconst 1, 1) := by decide +kernel
theorem dX11_isDone_64 : decode cX11_isDone 64 = .ok (.iaload, 1) := by decide +kernel
theorem dX11_isDone_65 : decode cX11_isDone 65 = .ok (.aload_n 0, 1) := by decide +kernel
theorem dX11_isDone_66 : decode cX11_isDone 66 = .ok (.getfield 63, 3) := by decide +kernel
theorem dX11_isDone_69 : decode cX11_isDone 69 = .ok (.iconst 2, 1) := by decide +kernel
theorem dX11_isDone_70 : decode cX11_isDone 70 = .ok (.iaload, 1) := by decide +kernel
theorem dX11_isDone_71 : decode cX11_isDone 71 = .ok (.aload_n 0, 1) := by decide +kernel
theorem dX11_isDone_72 : decode cX11_isDone 72 = .ok (.getfield 63, 3) := by decide +kernel
theorem dX11_isDone_75 : decode cX11_isDone 75 = .ok (.iconst 3, 1) := by decide +kernel
theorem dX11_isDone_76 : decode cX11_isDone 76 = .ok (.iaload, 1) := by decide +kernel
theorem dX11_isDone_77 : decode cX11_isDone 77 = .ok (.invokevirtual 171, 3) := by decide +kernel
theorem dX11_isDone_80 : decode cX11_isDone 80 = .ok (.ifCond .lt 7, 3) := by decide +kernel
theorem dX11_isDone_83 : decode cX11_isDone 83 = .ok (.iconst 1, 1) := by decide +kernel
theorem dX11_isDone_84 : decode cX11_isDone 84 = .ok (.goto 4, 3) := by decide +kernel
theorem dX11_isDone_87 : decode cX11_isDone 87 = .ok (.iconst 0, 1) := by decide +kernel
theorem dX11_isDone_88 : decode cX11_isDone 88 = .ok (.ireturn, 1) := by decide +kernel
theorem dX11_isDone_89 : decode cX11_isDone 89 = .ok (.aload_n 0, 1) := by decide +kernel
theorem dX11_isDone_90 : decode cX11_isDone 90 = .ok (.aload_n 0, 1) := by decide +kernel
theorem dX11_isDone_91 : decode cX11_isDone 91 = .ok (.getfield 63, 3) := by decide +kernel
theorem dX11_isDone_94 : decode cX11_isDone 94 = .ok (.iconst 0, 1) := by decide +kernel
theorem dX11_isDone_95 : decode cX11_isDone 95 = .ok (.iaload, 1) := by decide +kernel
theorem dX11_isDone_96 : decode cX11_isDone 96 = .ok (.aload_n 0, 1) := by decide +kernel
theorem dX11_isDone_97 : decode cX11_isDone 97 = .ok (.getfield 63, 3) := by decide +kernel
theorem dX11_isDone_100 : decode cX11_isDone 100 = .ok (.iconst 1, 1) := by decide +kernel
theorem dX11_isDone_101 : decode cX11_isDone 101 = .ok (.iaload, 1) := by decide +kernel
theorem dX11_isDone_102 : decode cX11_isDone 102 = .ok (.aload_n 0, 1) := by decide +kernel
theorem dX11_isDone_103 : decode cX11_isDone 103 = .ok (.getfield 63, 3) := by decide +kernel
theorem dX11_isDone_106 : decode cX11_isDone 106 = .ok (.iconst 2, 1) := by decide +kernel
theorem dX11_isDone_107 : decode cX11_isDone 107 = .ok (.iaload, 1) := by decide +kernel
theorem dX11_isDone_108 : decode cX11_isDone 108 = .ok (.invokevirtual 175, 3) := by decide +kernel
theorem dX11_isDone_111 : decode cX11_isDone 111 = .ok (.ifCond .lt 7, 3) := by decide +kernel
theorem dX11_isDone_114 : decode cX11_isDone 114 = .ok (.iconst 1, 1) := by decide +kernel
theorem dX11_isDone_115 : decode cX11_isDone 115 = .ok (.goto 4, 3) := by decide +kernel
theorem dX11_isDone_118 : decode cX11_isDone 118 = .ok (.iconst 0, 1) := by decide +kernel
theorem dX11_isDone_119 : decode cX11_isDone 119 = .ok (.ireturn, 1) := by decide +kernel
theorem dX11_isDone_120 : decode cX11_isDone 120 = .ok (.aload_n 0, 1) := by decide +kernel
theorem dX11_isDone_121 : decode cX11_isDone 121 = .ok (.invokevirtual 178, 3) := by decide +kernel
theorem dX11_isDone_124 : decode cX11_isDone 124 = .ok (.ireturn, 1) := by decide +kernel
theorem dX11_isDone_125 : decode cX11_isDone 125 = .ok (.aload_n 0, 1) := by decide +kernel
theorem dX11_isDone_126 : decode cX11_isDone 126 = .ok (.getfield 63, 3) := by decide +kernel
theorem dX11_isDone_129 : decode cX11_isDone 129 = .ok (.iconst 0, 1) := by decide +kernel
theorem dX11_isDone_130 : decode cX11_isDone 130 = .ok (.iaload, 1) := by decide +kernel
theorem dX11_isDone_131 : decode cX11_isDone 131 = .ok (.invokestatic 112, 3) := by decide +kernel
theorem dX11_isDone_134 : decode cX11_isDone 134 = .ok (.ifCond .eq 39, 3) := by decide +kernel
theorem dX11_isDone_137 : decode cX11_isDone 137 = .ok (.aload_n 0, 1) := by decide +kernel
theorem dX11_isDone_138 : decode cX11_isDone 138 = .ok (.aload_n 0, 1) := by decide +kernel
theorem dX11_isDone_139 : decode cX11_isDone 139 = .ok (.getfield 63, 3) := by decide +kernel
theorem dX11_isDone_142 : decode cX11_isDone 142 = .ok (.iconst 0, 1) := by decide +kernel
theorem dX11_isDone_143 : decode cX11_isDone 143 = .ok (.iaload, 1) := by decide +kernel
theorem dX11_isDone_144 : decode cX11_isDone 144 = .ok (.aload_n 0, 1) := by decide +kernel
theorem dX11_isDone_145 : decode cX11_isDone 145 = .ok (.getfield 9, 3) := by decide +kernel
theorem dX11_isDone_148 : decode cX11_isDone 148 = .ok (.aload_n 0, 1) := by decide +kernel
theorem dX11_isDone_149 : decode cX11_isDone 149 = .ok (.getfield 63, 3) := by decide +kernel
theorem dX11_isDone_152 : decode cX11_isDone 152 = .ok (.iconst 0, 1) := by decide +kernel
theorem dX11_isDone_153 : decode cX11_isDone 153 = .ok (.iaload, 1) := by decide +kernel
theorem dX11_isDone_154 : decode cX11_isDone 154 = .ok (.iaload, 1) := by decide +kernel
theorem dX11_isDone_155 : decode cX11_isDone 155 = .ok (.ifCond .ne 7, 3) := by decide +kernel
theorem dX11_isDone_158 : decode cX11_isDone 158 = .ok (.iconst 1, 1) := by decide +kernel
theorem dX11_isDone_159 : decode cX11_isDone 159 = .ok (.goto 4, 3) := by decide +kernel
theorem dX11_isDone_162 : decode cX11_isDone 162 = .ok (.iconst 0, 1) := by decide +kernel
theorem dX11_isDone_163 : decode cX11_isDone 163 = .ok (.invokevirtual 181, 3) := by decide +kernel
theorem dX11_isDone_166 : decode cX11_isDone 166 = .ok (.ifCond .lt 7, 3) := by decide +kernel
theorem dX11_isDone_169 : decode cX11_isDone 169 = .ok (.iconst 1, 1) := by decide +kernel
theorem dX11_isDone_170 : decode cX11_isDone 170 = .ok (.goto 4, 3) := by decide +kernel
theorem dX11_isDone_173 : decode cX11_isDone 173 = .ok (.iconst 0, 1) := by decide +kernel
theorem dX11_isDone_174 : decode cX11_isDone 174 = .ok (.ireturn, 1) := by decide +kernel
theorem dX11_isDone_175 : decode cX11_isDone 175 = .ok (.aload_n 0, 1) := by decide +kernel
theorem dX11_isDone_176 : decode cX11_isDone 176 = .ok (.invokevirtual 184, 3) := by decide +kernel
theorem dX11_isDone_179 : decode cX11_isDone 179 = .ok (.ireturn, 1) := by decide +kernel
theorem dX11_isDone_180 : decode cX11_isDone 180 = .ok (.aload_n 0, 1) := by decide +kernel
theorem dX11_isDone_181 : decode cX11_isDone 181 = .ok (.invokevirtual 187, 3) := by decide +kernel
theorem dX11_isDone_184 : decode cX11_isDone 184 = .ok (.ireturn, 1) := by decide +kernel
theorem dX11_clauses_0 : decode cX11_clauses 0 = .ok (.aload_n 0, 1) := by decide +kernel
theorem dX11_clauses_1 : decode cX11_clauses 1 = .ok (.iconst 0, 1) := by decide +kernel
theorem dX11_clauses_2 : decode cX11_clauses 2 = .ok (.putfield 149, 3) := by decide +kernel
theorem dX11_clauses_5 : decode cX11_clauses 5 = .ok (.iconst 0, 1) := by decide +kernel
theorem dX11_clauses_6 : decode cX11_clauses 6 = .ok (.istore_n 2, 1) := by decide +kernel
theorem dX11_clauses_7 : decode cX11_clauses 7 = .ok (.iconst 0, 1) := by decide +kernel
theorem dX11_clauses_8 : decode cX11_clauses 8 = .ok (.istore_n 3, 1) := by decide +kernel
theorem dX11_clauses_9 : decode cX11_clauses 9 = .ok (.iload_n 3, 1) := by decide +kernel
theorem dX11_clauses_10 : decode cX11_clauses 10 = .ok (.bipush 12, 2) := by decide +kernel
theorem dX11_clauses_12 : decode cX11_clauses 12 = .ok (.if_icmp .ge 83, 3) := by decide +kernel
theorem dX11_clauses_15 : decode cX11_clauses 15 = .ok (.aload_n 0, 1) := by decide +kernel
theorem dX11_clauses_16 : decode cX11_clauses 16 = .ok (.invokevirtual 190, 3) := by decide +kernel
theorem dX11_clauses_19 : decode cX11_clauses 19 = .ok (.istore 4, 2) := by decide +kernel
theorem dX11_clauses_21 : decode cX11_clauses 21 = .ok (.iload 4, 2) := by decide +kernel
theorem dX11_clauses_23 : decode cX11_clauses 23 = .ok (.ifCond .ge 5, 3) := by decide +kernel
theorem dX11_clauses_26 : decode cX11_clauses 26 = .ok (.iconst (-1), 1) := by decide +kernel
theorem dX11_clauses_27 : decode cX11_clauses 27 = .ok (.ireturn, 1) := by decide +kernel
theorem dX11_clauses_28 : decode cX11_clauses 28 = .ok (.iload_n 2, 1) := by decide +kernel
theorem dX11_clauses_29 : decode cX11_clauses 29 = .ok (.iload_n 1, 1) := by decide +kernel
theorem dX11_clauses_30 : decode cX11_clauses 30 = .ok (.ifCond .eq 16, 3) := by decide +kernel
theorem dX11_clauses_33 : decode cX11_clauses 33 = .ok (.aload_n 0, 1) := by decide +kernel
theorem dX11_clauses_34 : decode cX11_clauses 34 = .ok (.iload 4, 2) := by decide +kernel
theorem dX11_clauses_36 : decode cX11_clauses 36 = .ok (.invokevirtual 193, 3) := by decide +kernel
theorem dX11_clauses_39 : decode cX11_clauses 39 = .ok (.ifCond .eq 7, 3) := by decide +kernel
theorem dX11_clauses_42 : decode cX11_clauses 42 = .ok (.iconst 1, 1) := by decide +kernel
theorem dX11_clauses_43 : decode cX11_clauses 43 = .ok (.goto 4, 3) := by decide +kernel
theorem dX11_clauses_46 : decode cX11_clauses 46 = .ok (.iconst 0, 1) := by decide +kernel
theorem dX11_clauses_47 : decode cX11_clauses 47 = .ok (.iadd, 1) := by decide +kernel
theorem dX11_clauses_48 : decode cX11_clauses 48 = .ok (.istore_n 2, 1) := by decide +kernel
theorem dX11_clauses_49 : decode cX11_clauses 49 = .ok (.aload_n 0, 1) := by decide +kernel
theorem dX11_clauses_50 : decode cX11_clauses 50 = .ok (.getfield 149, 3) := by decide +kernel
theorem dX11_clauses_53 : decode cX11_clauses 53 = .ok (.aload_n 0, 1) := by decide +kernel
theorem dX11_clauses_54 : decode cX11_clauses 54 = .ok (.getfield 146, 3) := by decide +kernel
theorem dX11_clauses_57 : decode cX11_clauses 57 = .ok (.if_icmp .ne 5, 3) := by decide +kernel
theorem dX11_clauses_60 : decode cX11_clauses 60 = .ok (.iload_n 2, 1) := by decide +kernel
theorem dX11_clauses_61 : decode cX11_clauses 61 = .ok (.ireturn, 1) := by decide +kernel
theorem dX11_clauses_62 : decode cX11_clauses 62 = .ok (.iload_n 3, 1) := by decide +kernel
theorem dX11_clauses_63 : decode cX11_clauses 63 = .ok (.bipush 11, 2) := by decide +kernel
theorem dX11_clauses_65 : decode cX11_clauses 65 = .ok (.if_icmp .eq 12, 3) := by decide +kernel
theorem dX11_clauses_68 : decode cX11_clauses 68 = .ok (.aload_n 0, 1) := by decide +kernel
theorem dX11_clauses_69 : decode cX11_clauses 69 = .ok (.invokevirtual 152, 3) := by decide +kernel
theorem dX11_clauses_72 : decode cX11_clauses 72 = .ok (.bipush 59, 2) := by decide +kernel
theorem dX11_clauses_74 : decode cX11_clauses 74 = .ok (.if_icmp .eq 5, 3) := by decide +kernel
theorem dX11_clauses_77 : decode cX11_clauses 77 = .ok (.iconst (-1), 1) := by decide +kernel
theorem dX11_clauses_78 : decode cX11_clauses 78 = .ok (.ireturn, 1) := by decide +kernel
theorem dX11_clauses_79 : decode cX11_clauses 79 = .ok (.aload_n 0, 1) := by decide +kernel
theorem dX11_clauses_80 : decode cX11_clauses 80 = .ok (.dup, 1) := by decide +kernel
theorem dX11_clauses_81 : decode cX11_clauses 81 = .ok (.getfield 149, 3) := by decide +kernel
theorem dX11_clauses_84 : decode cX11_clauses 84 = .ok (.iconst 1, 1) := by decide +kernel
theorem dX11_clauses_85 : decode cX11_clauses 85 = .ok (.iadd, 1) := by decide +kernel
theorem dX11_clauses_86 : decode cX11_clauses 86 = .ok (.putfield 149, 3) := by decide +kernel
theorem dX11_clauses_89 : decode cX11_clauses 89 = .ok (.iinc 3 1, 3) := by decide +kernel
theorem dX11_clauses_92 : decode cX11_clauses 92 = .ok (.goto (-83), 3) := by decide +kernel
theorem dX11_clauses_95 : decode cX11_clauses 95 = .ok (.iconst (-1), 1) := by decide +kernel
theorem dX11_clauses_96 : decode cX11_clauses 96 = .ok (.ireturn, 1) := by decide +kernel
theorem dX11_read_0 : decode cX11_read 0 = .ok (.aload_n 0, 1) := by decide +kernel
theorem dX11_read_1 : decode cX11_read 1 = .ok (.iconst 0, 1) := by decide +kernel
theorem dX11_read_2 : decode cX11_read 2 = .ok (.invokevirtual 196, 3) := by decide +kernel
theorem dX11_read_5 : decode cX11_read 5 = .ok (.ifCond .ge 13, 3) := by decide +kernel
theorem dX11_read_8 : decode cX11_read 8 = .ok (.bipush (-10), 2) := by decide +kernel
theorem dX11_read_10 : decode cX11_read 10 = .ok (.aload_n 0, 1) := by decide +kernel
theorem dX11_read_11 : decode cX11_read 11 = .ok (.getfield 149, 3) := by decide +kernel
theorem dX11_read_14 : decode cX11_read 14 = .ok (.isub, 1) := by decide +kernel
theorem dX11_read_15 : decode cX11_read 15 = .ok (.goto 8, 3) := by decide +kernel
theorem dX11_read_18 : decode cX11_read 18 = .ok (.aload_n 0, 1) := by decide +kernel
theorem dX11_read_19 : decode cX11_read 19 = .ok (.iconst 1, 1) := by decide +kernel
theorem dX11_read_20 : decode cX11_read 20 = .ok (.invokevirtual 196, 3) := by decide +kernel
theorem dX11_read_23 : decode cX11_read 23 = .ok (.istore_n 1, 1) := by decide +kernel
theorem dX11_read_24 : decode cX11_read 24 = .ok (.aload_n 0, 1) := by decide +kernel
theorem dX11_read_25 : decode cX11_read 25 = .ok (.iconst 0, 1) := by decide +kernel
theorem dX11_read_26 : decode cX11_read 26 = .ok (.putfield 146, 3) := by decide +kernel
theorem dX11_read_29 : decode cX11_read 29 = .ok (.iload_n 1, 1) := by decide +kernel
theorem dX11_read_30 : decode cX11_read 30 = .ok (.ireturn, 1) := by decide +kernel
theorem dX11_of_0 : decode cX11_of 0 = .ok (.iload_n 1, 1) := by decide +kernel
theorem dX11_of_1 : decode cX11_of 1 = .ok (.invokestatic 95, 3) := by decide +kernel
theorem dX11_of_4 : decode cX11_of 4 = .ok (.ifCond .eq 10, 3) := by decide +kernel
theorem dX11_of_7 : decode cX11_of 7 = .ok (.iload_n 2, 1) := by decide +kernel
theorem dX11_of_8 : decode cX11_of 8 = .ok (.invokestatic 99, 3) := by decide +kernel
theorem dX11_of_11 : decode cX11_of 11 = .ok (.ifCond .ne 5, 3) := by decide +kernel
theorem dX11_of_14 : decode cX11_of 14 = .ok (.iconst (-1), 1) := by decide +kernel
theorem dX11_of_15 : decode cX11_of 15 = .ok (.ireturn, 1) := by decide +kernel
theorem dX11_of_16 : decode cX11_of 16 = .ok (.iload_n 3, 1) := by decide +kernel
theorem dX11_of_17 : decode cX11_of 17 = .ok (.tableswitch 67 0 3 #[31, 42, 53, 60], 31) := by decide +kernel
theorem dX11_of_48 : decode cX11_of 48 = .ok (.aload_n 0, 1) := by decide +kernel
theorem dX11_of_49 : decode cX11_of 49 = .ok (.getfield 15, 3) := by decide +kernel
theorem dX11_of_52 : decode cX11_of 52 = .ok (.iconst 4, 1) := by decide +kernel
theorem dX11_of_53 : decode cX11_of 53 = .ok (.iload_n 1, 1) := by decide +kernel
theorem dX11_of_54 : decode cX11_of 54 = .ok (.imul, 1) := by decide +kernel
theorem dX11_of_55 : decode cX11_of 55 = .ok (.iload_n 2, 1) := by decide +kernel
theorem dX11_of_56 : decode cX11_of 56 = .ok (.iadd, 1) := by decide +kernel
theorem dX11_of_57 : decode cX11_of 57 = .ok (.iaload, 1) := by decide +kernel
theorem dX11_of_58 : decode cX11_of 58 = .ok (.ireturn, 1) := by decide +kernel
theorem dX11_of_59 : decode cX11_of 59 = .ok (.aload_n 0, 1) := by decide +kernel
theorem dX11_of_60 : decode cX11_of 60 = .ok (.getfield 18, 3) := by decide +kernel
theorem dX11_of_63 : decode cX11_of 63 = .ok (.iconst 4, 1) := by decide +kernel
theorem dX11_of_64 : decode cX11_of 64 = .ok (.iload_n 1, 1) := by decide +kernel
theorem dX11_of_65 : decode cX11_of 65 = .ok (.imul, 1) := by decide +kernel
theorem dX11_of_66 : decode cX11_of 66 = .ok (.iload_n 2, 1) := by decide +kernel
theorem dX11_of_67 : decode cX11_of 67 = .ok (.iadd, 1) := by decide +kernel
theorem dX11_of_68 : decode cX11_of 68 = .ok (.iaload, 1) := by decide +kernel
theorem dX11_of_69 : decode cX11_of 69 = .ok (.ireturn, 1) := by decide +kernel
theorem dX11_of_70 : decode cX11_of 70 = .ok (.aload_n 0, 1) := by decide +kernel
theorem dX11_of_71 : decode cX11_of 71 = .ok (.getfield 24, 3) := by decide +kernel
theorem dX11_of_74 : decode cX11_of 74 = .ok (.iload_n 1, 1) := by decide +kernel
theorem dX11_of_75 : decode cX11_of 75 = .ok (.iaload, 1) := by decide +kernel
theorem dX11_of_76 : decode cX11_of 76 = .ok (.ireturn, 1) := by decide +kernel
theorem dX11_of_77 : decode cX11_of 77 = .ok (.aload_n 0, 1) := by decide +kernel
theorem dX11_of_78 : decode cX11_of 78 = .ok (.getfield 27, 3) := by decide +kernel
theorem dX11_of_81 : decode cX11_of 81 = .ok (.iload_n 1, 1) := by decide +kernel
theorem dX11_of_82 : decode cX11_of 82 = .ok (.iaload, 1) := by decide +kernel
theorem dX11_of_83 : decode cX11_of 83 = .ok (.ireturn, 1) := by decide +kernel
theorem dX11_of_84 : decode cX11_of 84 = .ok (.iconst (-1), 1) := by decide +kernel
theorem dX11_of_85 : decode cX11_of 85 = .ok (.ireturn, 1) := by decide +kernel
theorem dX11_speed_0 : decode cX11_speed 0 = .ok (.iload_n 1, 1) := by decide +kernel
theorem dX11_speed_1 : decode cX11_speed 1 = .ok (.iload_n 2, 1) := by decide +kernel
theorem dX11_speed_2 : decode cX11_speed 2 = .ok (.invokestatic 108, 3) := by decide +kernel
theorem dX11_speed_5 : decode cX11_speed 5 = .ok (.ifCond .eq 16, 3) := by decide +kernel
theorem dX11_speed_8 : decode cX11_speed 8 = .ok (.aload_n 0, 1) := by decide +kernel
theorem dX11_speed_9 : decode cX11_speed 9 = .ok (.getfield 21, 3) := by decide +kernel
theorem dX11_speed_12 : decode cX11_speed 12 = .ok (.iconst 5, 1) := by decide +kernel
theorem dX11_speed_13 : decode cX11_speed 13 = .ok (.iload_n 1, 1) := by decide +kernel
theorem dX11_speed_14 : decode cX11_speed 14 = .ok (.imul, 1) := by decide +kernel
theorem dX11_speed_15 : decode cX11_speed 15 = .ok (.iload_n 2, 1) := by decide +kernel
theorem dX11_speed_16 : decode cX11_speed 16 = .ok (.iadd, 1) := by decide +kernel
theorem dX11_speed_17 : decode cX11_speed 17 = .ok (.iaload, 1) := by decide +kernel
theorem dX11_speed_18 : decode cX11_speed 18 = .ok (.goto 4, 3) := by decide +kernel
theorem dX11_speed_21 : decode cX11_speed 21 = .ok (.iconst (-1), 1) := by decide +kernel
theorem dX11_speed_22 : decode cX11_speed 22 = .ok (.ireturn, 1) := by decide +kernel
theorem dX11_lands_0 : decode cX11_lands 0 = .ok (.iconst 0, 1) := by decide +kernel
theorem dX11_lands_1 : decode cX11_lands 1 = .ok (.istore_n 1, 1) := by decide +kernel
theorem dX11_lands_2 : decode cX11_lands 2 = .ok (.iconst 0, 1) := by decide +kernel
theorem dX11_lands_3 : decode cX11_lands 3 = .ok (.istore_n 2, 1) := by decide +kernel
theorem dX11_lands_4 : decode cX11_lands 4 = .ok (.iload_n 2, 1) := by decide +kernel
theorem dX11_lands_5 : decode cX11_lands 5 = .ok (.bipush 36, 2) := by decide +kernel
theorem dX11_lands_7 : decode cX11_lands 7 = .ok (.if_icmp .ge 18, 3) := by decide +kernel
theorem dX11_lands_10 : decode cX11_lands 10 = .ok (.iload_n 1, 1) := by decide +kernel
theorem dX11_lands_11 : decode cX11_lands 11 = .ok (.aload_n 0, 1) := by decide +kernel
theorem dX11_lands_12 : decode cX11_lands 12 = .ok (.getfield 9, 3) := by decide +kernel
theorem dX11_lands_15 : decode cX11_lands 15 = .ok (.iload_n 2, 1) := by decide +kernel
theorem dX11_lands_16 : decode cX11_lands 16 = .ok (.iaload, 1) := by decide +kernel
theorem dX11_lands_17 : decode cX11_lands 17 = .ok (.iadd, 1) := by decide +kernel
theorem dX11_lands_18 : decode cX11_lands 18 = .ok (.istore_n 1, 1) := by decide +kernel
theorem dX11_lands_19 : decode cX11_lands 19 = .ok (.iinc 2 1, 3) := by decide +kernel
theorem dX11_lands_22 : decode cX11_lands 22 = .ok (.goto (-18), 3) := by decide +kernel
theorem dX11_lands_25 : decode cX11_lands 25 = .ok (.iload_n 1, 1) := by decide +kernel
theorem dX11_lands_26 : decode cX11_lands 26 = .ok (.ireturn, 1) := by decide +kernel
theorem dX11_paceOf_0 : decode cX11_paceOf 0 = .ok (.iload_n 1, 1) := by decide +kernel
theorem dX11_paceOf_1 : decode cX11_paceOf 1 = .ok (.invokestatic 200, 3) := by decide +kernel
theorem dX11_paceOf_4 : decode cX11_paceOf 4 = .ok (.istore 4, 2) := by decide +kernel
theorem dX11_paceOf_6 : decode cX11_paceOf 6 = .ok (.iconst 4, 1) := by decide +kernel
theorem dX11_paceOf_7 : decode cX11_paceOf 7 = .ok (.iload 4, 2) := by decide +kernel
theorem dX11_paceOf_9 : decode cX11_paceOf 9 = .ok (.imul, 1) := by decide +kernel
theorem dX11_paceOf_10 : decode cX11_paceOf 10 = .ok (.iload_n 3, 1) := by decide +kernel
theorem dX11_paceOf_11 : decode cX11_paceOf 11 = .ok (.invokestatic 204, 3) := by decide +kernel
theorem dX11_paceOf_14 : decode cX11_paceOf 14 = .ok (.iadd, 1) := by decide +kernel
theorem dX11_paceOf_15 : decode cX11_paceOf 15 = .ok (.istore 5, 2) := by decide +kernel
theorem dX11_paceOf_17 : decode cX11_paceOf 17 = .ok (.aload_n 0, 1) := by decide +kernel
theorem dX11_paceOf_18 : decode cX11_paceOf 18 = .ok (.getfield 18, 3) := by decide +kernel
theorem dX11_paceOf_21 : decode cX11_paceOf 21 = .ok (.iload 5, 2) := by decide +kernel
theorem dX11_paceOf_23 : decode cX11_paceOf 23 = .ok (.iaload, 1) := by decide +kernel
theorem dX11_paceOf_24 : decode cX11_paceOf 24 = .ok (.ifCond .ne 7, 3) := by decide +kernel
theorem dX11_paceOf_27 : decode cX11_paceOf 27 = .ok (.iconst 0, 1) := by decide +kernel
theorem dX11_paceOf_28 : decode cX11_paceOf 28 = .ok (.goto 29, 3) := by decide +kernel
theorem dX11_paceOf_31 : decode cX11_paceOf 31 = .ok (.aload_n 0, 1) := by decide +kernel
theorem dX11_paceOf_32 : decode cX11_paceOf 32 = .ok (.getfield 21, 3) := by decide +kernel
theorem dX11_paceOf_35 : decode cX11_paceOf 35 = .ok (.iconst 5, 1) := by decide +kernel
theorem dX11_paceOf_36 : decode cX11_paceOf 36 = .ok (.aload_n 0, 1) := by decide +kernel
theorem dX11_paceOf_37 : decode cX11_paceOf 37 = .ok (.getfield 18, 3) := by decide +kernel
theorem dX11_paceOf_40 : decode cX11_paceOf 40 = .ok (.iload 5, 2) := by decide +kernel
theorem dX11_paceOf_42 : decode cX11_paceOf 42 = .ok (.iaload, 1) := by decide +kernel
theorem dX11_paceOf_43 : decode cX11_paceOf 43 = .ok (.imul, 1) := by decide +kernel
theorem dX11_paceOf_44 : decode cX11_paceOf 44 = .ok (.iload_n 2, 1) := by decide +kernel
theorem dX11_paceOf_45 : decode cX11_paceOf 45 = .ok (.aload_n 0, 1) := by decide +kernel
theorem dX11_paceOf_46 : decode cX11_paceOf 46 = .ok (.getfield 15, 3) := by decide +kernel
theorem dX11_paceOf_49 : decode cX11_paceOf 49 = .ok (.iload 5, 2) := by decide +kernel
theorem dX11_paceOf_51 : decode cX11_paceOf 51 = .ok (.iaload, 1) := by decide +kernel
theorem dX11_paceOf_52 : decode cX11_paceOf 52 = .ok (.invokestatic 207, 3) := by decide +kernel
theorem dX11_paceOf_55 : decode cX11_paceOf 55 = .ok (.iadd, 1) := by decide +kernel
theorem dX11_paceOf_56 : decode cX11_paceOf 56 = .ok (.iaload, 1) := by decide +kernel
theorem dX11_paceOf_57 : decode cX11_paceOf 57 = .ok (.istore 6, 2) := by decide +kernel
theorem dX11_paceOf_59 : decode cX11_paceOf 59 = .ok (.iload_n 2, 1) := by decide +kernel
theorem dX11_paceOf_60 : decode cX11_paceOf 60 = .ok (.aload_n 0, 1) := by decide +kernel
theorem dX11_paceOf_61 : decode cX11_paceOf 61 = .ok (.getfield 24, 3) := by decide +kernel
theorem dX11_paceOf_64 : decode cX11_paceOf 64 = .ok (.iload 4, 2) := by decide +kernel
theorem dX11_paceOf_66 : decode cX11_paceOf 66 = .ok (.iaload, 1) := by decide +kernel
theorem dX11_paceOf_67 : decode cX11_paceOf 67 = .ok (.invokestatic 207, 3) := by decide +kernel
theorem dX11_paceOf_70 : decode cX11_paceOf 70 = .ok (.tableswitch 98 0 4 #[34, 49, 98, 66, 83], 34) := by decide +kernel
theorem dX11_paceOf_104 : decode cX11_paceOf 104 = .ok (.iload 6, 2) := by decide +kernel
theorem dX11_paceOf_106 : decode cX11_paceOf 106 = .ok (.aload_n 0, 1) := by decide +kernel
theorem dX11_paceOf_107 : decode cX11_paceOf 107 = .ok (.getfield 27, 3) := by decide +kernel
theorem dX11_paceOf_110 : decode cX11_paceOf 110 = .ok (.iload 4, 2) := by decide +kernel
theorem dX11_paceOf_112 : decode cX11_paceOf 112 = .ok (.iaload, 1) := by decide +kernel
theorem dX11_paceOf_113 : decode cX11_paceOf 113 = .ok (.iadd, 1) := by decide +kernel
theorem dX11_paceOf_114 : decode cX11_paceOf 114 = .ok (.istore 6, 2) := by decide +kernel
theorem dX11_paceOf_116 : decode cX11_paceOf 116 = .ok (.goto 52, 3) := by decide +kernel
theorem dX11_paceOf_119 : decode cX11_paceOf 119 = .ok (.iload 6, 2) := by decide +kernel
theorem dX11_paceOf_121 : decode cX11_paceOf 121 = .ok (.aload_n 0, 1) := by decide +kernel
theorem dX11_paceOf_122 : decode cX11_paceOf 122 = .ok (.getfield 27, 3) := by decide +kernel
theorem dX11_paceOf_125 : decode cX11_paceOf 125 = .ok (.iload 4, 2) := by decide +kernel
theorem dX11_paceOf_127 : decode cX11_paceOf 127 = .ok (.iaload, 1) := by decide +kernel
theorem dX11_paceOf_128 : decode cX11_paceOf 128 = .ok (.iconst 2, 1) := by decide +kernel
theorem dX11_paceOf_129 : decode cX11_paceOf 129 = .ok (.idiv, 1) := by decide +kernel
theorem dX11_paceOf_130 : decode cX11_paceOf 130 = .ok (.iadd, 1) := by decide +kernel
theorem dX11_paceOf_131 : decode cX11_paceOf 131 = .ok (.istore 6, 2) := by decide +kernel
theorem dX11_paceOf_133 : decode cX11_paceOf 133 = .ok (.goto 35, 3) := by decide +kernel
theorem dX11_paceOf_136 : decode cX11_paceOf 136 = .ok (.iload 6, 2) := by decide +kernel
theorem dX11_paceOf_138 : decode cX11_paceOf 138 = .ok (.aload_n 0, 1) := by decide +kernel
theorem dX11_paceOf_139 : decode cX11_paceOf 139 = .ok (.getfield 27, 3) := by decide +kernel
theorem dX11_paceOf_142 : decode cX11_paceOf 142 = .ok (.iload 4, 2) := by decide +kernel
theorem dX11_paceOf_144 : decode cX11_paceOf 144 = .ok (.iaload, 1) := by decide +kernel
theorem dX11_paceOf_145 : decode cX11_paceOf 145 = .ok (.iconst 2, 1) := by decide +kernel
theorem dX11_paceOf_146 : decode cX11_paceOf 146 = .ok (.idiv, 1) := by decide +kernel
theorem dX11_paceOf_147 : decode cX11_paceOf 147 = .ok (.isub, 1) := by decide +kernel
theorem dX11_paceOf_148 : decode cX11_paceOf 148 = .ok (.istore 6, 2) := by decide +kernel
theorem dX11_paceOf_150 : decode cX11_paceOf 150 = .ok (.goto 18, 3) := by decide +kernel
theorem dX11_paceOf_153 : decode cX11_paceOf 153 = .ok (.iload 6, 2) := by decide +kernel
theorem dX11_paceOf_155 : decode cX11_paceOf 155 = .ok (.aload_n 0, 1) := by decide +kernel
theorem dX11_paceOf_156 : decode cX11_paceOf 156 = .ok (.getfield 27, 3) := by decide +kernel
theorem dX11_paceOf_159 : decode cX11_paceOf 159 = .ok (.iload 4, 2) := by decide +kernel
theorem dX11_paceOf_161 : decode cX11_paceOf 161 = .ok (.iaload, 1) := by decide +kernel
theorem dX11_paceOf_162 : decode cX11_paceOf 162 = .ok (.isub, 1) := by decide +kernel
theorem dX11_paceOf_163 : decode cX11_paceOf 163 = .ok (.istore 6, 2) := by decide +kernel
theorem dX11_paceOf_165 : decode cX11_paceOf 165 = .ok (.goto 3, 3) := by decide +kernel
theorem dX11_paceOf_168 : decode cX11_paceOf 168 = .ok (.iconst 0, 1) := by decide +kernel
theorem dX11_paceOf_169 : decode cX11_paceOf 169 = .ok (.iload 6, 2) := by decide +kernel
theorem dX11_paceOf_171 : decode cX11_paceOf 171 = .ok (.invokestatic 210, 3) := by decide +kernel
theorem dX11_paceOf_174 : decode cX11_paceOf 174 = .ok (.ireturn, 1) := by decide +kernel
theorem dX11_pace_0 : decode cX11_pace 0 = .ok (.iload_n 1, 1) := by decide +kernel
theorem dX11_pace_1 : decode cX11_pace 1 = .ok (.invokestatic 112, 3) := by decide +kernel
theorem dX11_pace_4 : decode cX11_pace 4 = .ok (.ifCond .eq 10, 3) := by decide +kernel
theorem dX11_pace_7 : decode cX11_pace 7 = .ok (.iload_n 2, 1) := by decide +kernel
theorem dX11_pace_8 : decode cX11_pace 8 = .ok (.invokestatic 102, 3) := by decide +kernel
theorem dX11_pace_11 : decode cX11_pace 11 = .ok (.ifCond .ne 5, 3) := by decide +kernel
theorem dX11_pace_14 : decode cX11_pace 14 = .ok (.iconst (-1), 1) := by decide +kernel
theorem dX11_pace_15 : decode cX11_pace 15 = .ok (.ireturn, 1) := by decide +kernel
theorem dX11_pace_16 : decode cX11_pace 16 = .ok (.iload_n 3, 1) := by decide +kernel
theorem dX11_pace_17 : decode cX11_pace 17 = .ok (.iconst 0, 1) := by decide +kernel
theorem dX11_pace_18 : decode cX11_pace 18 = .ok (.sipush 9999, 3) := by decide +kernel
theorem dX11_pace_21 : decode cX11_pace 21 = .ok (.invokestatic 85, 3) := by decide +kernel
theorem dX11_pace_24 : decode cX11_pace 24 = .ok (.ifCond .eq 13, 3) := by decide +kernel
theorem dX11_pace_27 : decode cX11_pace 27 = .ok (.aload_n 0, 1) := by decide +kernel
theorem dX11_pace_28 : decode cX11_pace 28 = .ok (.iload_n 1, 1) := by decide +kernel
theorem dX11_pace_29 : decode cX11_pace 29 = .ok (.iload_n 2, 1) := by decide +kernel
theorem dX11_pace_30 : decode cX11_pace 30 = .ok (.iload_n 3, 1) := by decide +kernel
theorem dX11_pace_31 : decode cX11_pace 31 = .ok (.invokevirtual 213, 3) := by decide +kernel
theorem dX11_pace_34 : decode cX11_pace 34 = .ok (.goto 5, 3) := by decide +kernel
theorem dX11_pace_37 : decode cX11_pace 37 = .ok (.bipush (-2), 2) := by decide +kernel
theorem dX11_pace_39 : decode cX11_pace 39 = .ok (.ireturn, 1) := by decide +kernel
theorem dX11_beside_0 : decode cX11_beside 0 = .ok (.iload_n 2, 1) := by decide +kernel
theorem dX11_beside_1 : decode cX11_beside 1 = .ok (.ifCond .eq 14, 3) := by decide +kernel
theorem dX11_beside_4 : decode cX11_beside 4 = .ok (.iload_n 2, 1) := by decide +kernel
theorem dX11_beside_5 : decode cX11_beside 5 = .ok (.iconst 1, 1) := by decide +kernel
theorem dX11_beside_6 : decode cX11_beside 6 = .ok (.if_icmp .eq 9, 3) := by decide +kernel
theorem dX11_beside_9 : decode cX11_beside 9 = .ok (.iload_n 2, 1) := by decide +kernel
theorem dX11_beside_10 : decode cX11_beside 10 = .ok (.bipush 7, 2) := by decide +kernel
theorem dX11_beside_12 : decode cX11_beside 12 = .ok (.if_icmp .ne 7, 3) := by decide +kernel
theorem dX11_beside_15 : decode cX11_beside 15 = .ok (.iconst (-1), 1) := by decide +kernel
theorem dX11_beside_16 : decode cX11_beside 16 = .ok (.goto 23, 3) := by decide +kernel
theorem dX11_beside_19 : decode cX11_beside 19 = .ok (.iload_n 2, 1) := by decide +kernel
theorem dX11_beside_20 : decode cX11_beside 20 = .ok (.iconst 3, 1) := by decide +kernel
theorem dX11_beside_21 : decode cX11_beside 21 = .ok (.if_icmp .eq 13, 3) := by decide +kernel
theorem dX11_beside_24 : decode cX11_beside 24 = .ok (.iload_n 2, 1) := by decide +kernel
theorem dX11_beside_25 : decode cX11_beside 25 = .ok (.iconst 4, 1) := by decide +kernel
theorem dX11_beside_26 : decode cX11_beside 26 = .ok (.if_icmp .eq 8, 3) := by decide +kernel
theorem dX11_beside_29 : decode cX11_beside 29 = .ok (.iload_n 2, 1) := by decide +kernel
theorem dX11_beside_30 : decode cX11_beside 30 = .ok (.iconst 5, 1) := by decide +kernel
theorem dX11_beside_31 : decode cX11_beside 31 = .ok (.if_icmp .ne 7, 3) := by decide +kernel
theorem dX11_beside_34 : decode cX11_beside 34 = .ok (.iconst 1, 1) := by decide +kernel
theorem dX11_beside_35 : decode cX11_beside 35 = .ok (.goto 4, 3) := by decide +kernel
theorem dX11_beside_38 : decode cX11_beside 38 = .ok (.iconst 0, 1) := by decide +kernel
theorem dX11_beside_39 : decode cX11_beside 39 = .ok (.istore_n 3, 1) := by decide +kernel
theorem dX11_beside_40 : decode cX11_beside 40 = .ok (.iload_n 2, 1) := by decide +kernel
theorem dX11_beside_41 : decode cX11_beside 41 = .ok (.iconst 1, 1) := by decide +kernel
theorem dX11_beside_42 : decode cX11_beside 42 = .ok (.iconst 3, 1) := by decide +kernel
theorem dX11_beside_43 : decode cX11_beside 43 = .ok (.invokestatic 85, 3) := by decide +kernel
theorem dX11_beside_46 : decode cX11_beside 46 = .ok (.ifCond .eq 7, 3) := by decide +kernel
theorem dX11_beside_49 : decode cX11_beside 49 = .ok (.iconst 1, 1) := by decide +kernel
theorem dX11_beside_50 : decode cX11_beside 50 = .ok (.goto 18, 3) := by decide +kernel
theorem dX11_beside_53 : decode cX11_beside 53 = .ok (.iload_n 2, 1) := by decide +kernel
theorem dX11_beside_54 : decode cX11_beside 54 = .ok (.iconst 5, 1) := by decide +kernel
theorem dX11_beside_55 : decode cX11_beside 55 = .ok (.bipush 7, 2) := by decide +kernel
theorem dX11_beside_57 : decode cX11_beside 57 = .ok (.invokestatic 85, 3) := by decide +kernel
theorem dX11_beside_60 : decode cX11_beside 60 = .ok (.ifCond .eq 7, 3) := by decide +kernel
theorem dX11_beside_63 : decode cX11_beside 63 = .ok (.iconst (-1), 1) := by decide +kernel
theorem dX11_beside_64 : decode cX11_beside 64 = .ok (.goto 4, 3) := by decide +kernel
theorem dX11_beside_67 : decode cX11_beside 67 = .ok (.iconst 0, 1) := by decide +kernel
theorem dX11_beside_68 : decode cX11_beside 68 = .ok (.istore 4, 2) := by decide +kernel
theorem dX11_beside_70 : decode cX11_beside 70 = .ok (.iload_n 1, 1) := by decide +kernel
theorem dX11_beside_71 : decode cX11_beside 71 = .ok (.bipush 6, 2) := by decide +kernel
theorem dX11_beside_73 : decode cX11_beside 73 = .ok (.idiv, 1) := by decide +kernel
theorem dX11_beside_74 : decode cX11_beside 74 = .ok (.iload_n 3, 1) := by decide +kernel
theorem dX11_beside_75 : decode cX11_beside 75 = .ok (.iadd, 1) := by decide +kernel
theorem dX11_beside_76 : decode cX11_beside 76 = .ok (.istore 5, 2) := by decide +kernel
theorem dX11_beside_78 : decode cX11_beside 78 = .ok (.iload_n 1, 1) := by decide +kernel
theorem dX11_beside_79 : decode cX11_beside 79 = .ok (.bipush 6, 2) := by decide +kernel
theorem dX11_beside_81 : decode cX11_beside 81 = .ok (.irem, 1) := by decide +kernel
theorem dX11_beside_82 : decode cX11_beside 82 = .ok (.iload 4, 2) := by decide +kernel
theorem dX11_beside_84 : decode cX11_beside 84 = .ok (.iadd, 1) := by decide +kernel
theorem dX11_beside_85 : decode cX11_beside 85 = .ok (.istore 6, 2) := by decide +kernel
theorem dX11_beside_87 : decode cX11_beside 87 = .ok (.iload 5, 2) := by decide +kernel
theorem dX11_beside_89 : decode cX11_beside 89 = .ok (.iconst 0, 1) := by decide +kernel
theorem dX11_beside_90 : decode cX11_beside 90 = .ok (.iconst 5, 1) := by decide +kernel
theorem dX11_beside_91 : decode cX11_beside 91 = .ok (.invokestatic 85, 3) := by decide +kernel
theorem dX11_beside_94 : decode cX11_beside 94 = .ok (.ifCond .eq 13, 3) := by decide +kernel
theorem dX11_beside_97 : decode cX11_beside 97 = .ok (.iload 6, 2) := by decide +kernel
theorem dX11_beside_99 : decode cX11_beside 99 = .ok (.iconst 0, 1) := by decide +kernel
theorem dX11_beside_100 : decode cX11_beside 100 = .ok (.iconst 5, 1) := by decide +kernel
theorem dX11_beside_101 : decode cX11_beside 101 = .ok (.invokestatic 85, 3) := by decide +kernel
theorem dX11_beside_104 : decode cX11_beside 104 = .ok (.ifCond .ne 5, 3) := by decide +kernel
theorem dX11_beside_107 : decode cX11_beside 107 = .ok (.iconst (-1), 1) := by decide +kernel
theorem dX11_beside_108 : decode cX11_beside 108 = .ok (.ireturn, 1) := by decide +kernel
theorem dX11_beside_109 : decode cX11_beside 109 = .ok (.aload_n 0, 1) := by decide +kernel
theorem dX11_beside_110 : decode cX11_beside 110 = .ok (.getfield 9, 3) := by decide +kernel
theorem dX11_beside_113 : decode cX11_beside 113 = .ok (.bipush 6, 2) := by decide +kernel
theorem dX11_beside_115 : decode cX11_beside 115 = .ok (.iload 5, 2) := by decide +kernel
theorem dX11_beside_117 : decode cX11_beside 117 = .ok (.imul, 1) := by decide +kernel
theorem dX11_beside_118 : decode cX11_beside 118 = .ok (.iload 6, 2) := by decide +kernel
theorem dX11_beside_120 : decode cX11_beside 120 = .ok (.iadd, 1) := by decide +kernel
theorem dX11_beside_121 : decode cX11_beside 121 = .ok (.iaload, 1) := by decide +kernel
theorem dX11_beside_122 : decode cX11_beside 122 = .ok (.iconst 1, 1) := by decide +kernel
theorem dX11_beside_123 : decode cX11_beside 123 = .ok (.if_icmp .ne 7, 3) := by decide +kernel
theorem dX11_beside_126 : decode cX11_beside 126 = .ok (.iconst (-1), 1) := by decide +kernel
theorem dX11_beside_127 : decode cX11_beside 127 = .ok (.goto 11, 3) := by decide +kernel
theorem dX11_beside_130 : decode cX11_beside 130 = .ok (.bipush 6, 2) := by decide +kernel
theorem dX11_beside_132 : decode cX11_beside 132 = .ok (.iload 5, 2) := by decide +kernel
theorem dX11_beside_134 : decode cX11_beside 134 = .ok (.imul, 1) := by decide +kernel
theorem dX11_beside_135 : decode cX11_beside 135 = .ok (.iload 6, 2) := by decide +kernel
theorem dX11_beside_137 : decode cX11_beside 137 = .ok (.iadd, 1) := by decide +kernel
theorem dX11_beside_138 : decode cX11_beside 138 = .ok (.ireturn, 1) := by decide +kernel
theorem dX11_length_0 : decode cX11_length 0 = .ok (.iload_n 0, 1) := by decide +kernel
theorem dX11_length_1 : decode cX11_length 1 = .ok (.iconst 2, 1) := by decide +kernel
theorem dX11_length_2 : decode cX11_length 2 = .ok (.irem, 1) := by decide +kernel
theorem dX11_length_3 : decode cX11_length 3 = .ok (.ifCond .ne 9, 3) := by decide +kernel
theorem dX11_length_6 : decode cX11_length 6 = .ok (.sipush 600, 3) := by decide +kernel
theorem dX11_length_9 : decode cX11_length 9 = .ok (.goto 6, 3) := by decide +kernel
theorem dX11_length_12 : decode cX11_length 12 = .ok (.sipush 850, 3) := by decide +kernel
theorem dX11_length_15 : decode cX11_length 15 = .ok (.ireturn, 1) := by decide +kernel
theorem dX11_minuteOf_0 : decode cX11_minuteOf 0 = .ok (.iload_n 1, 1) := by decide +kernel
theorem dX11_minuteOf_1 : decode cX11_minuteOf 1 = .ok (.ifCond .ne 7, 3) := by decide +kernel
theorem dX11_minuteOf_4 : decode cX11_minuteOf 4 = .ok (.iload_n 0, 1) := by decide +kernel
theorem dX11_minuteOf_5 : decode cX11_minuteOf 5 = .ok (.goto 14, 3) := by decide +kernel
theorem dX11_minuteOf_8 : decode cX11_minuteOf 8 = .ok (.sipush 360, 3) := by decide +kernel
theorem dX11_minuteOf_11 : decode cX11_minuteOf 11 = .ok (.iload_n 0, 1) := by decide +kernel
theorem dX11_minuteOf_12 : decode cX11_minuteOf 12 = .ok (.sipush 360, 3) := by decide +kernel
theorem dX11_minuteOf_15 : decode cX11_minuteOf 15 = .ok (.idiv, 1) := by decide +kernel
theorem dX11_minuteOf_16 : decode cX11_minuteOf 16 = .ok (.iload_n 1, 1) := by decide +kernel
theorem dX11_minuteOf_17 : decode cX11_minuteOf 17 = .ok (.iadd, 1) := by decide +kernel
theorem dX11_minuteOf_18 : decode cX11_minuteOf 18 = .ok (.imul, 1) := by decide +kernel
theorem dX11_minuteOf_19 : decode cX11_minuteOf 19 = .ok (.ireturn, 1) := by decide +kernel
theorem dX11_goes_0 : decode cX11_goes 0 = .ok (.aload_n 0, 1) := by decide +kernel
theorem dX11_goes_1 : decode cX11_goes 1 = .ok (.iconst (-1), 1) := by decide +kernel
theorem dX11_goes_2 : decode cX11_goes 2 = .ok (.putfield 216, 3) := by decide +kernel
theorem dX11_goes_5 : decode cX11_goes 5 = .ok (.aload_n 0, 1) := by decide +kernel
theorem dX11_goes_6 : decode cX11_goes 6 = .ok (.aload_n 0, 1) := by decide +kernel
theorem dX11_goes_7 : decode cX11_goes 7 = .ok (.iload_n 1, 1) := by decide +kernel
theorem dX11_goes_8 : decode cX11_goes 8 = .ok (.iload_n 3, 1) := by decide +kernel
theorem dX11_goes_9 : decode cX11_goes 9 = .ok (.invokevirtual 219, 3) := by decide +kernel
theorem dX11_goes_12 : decode cX11_goes 12 = .ok (.putfield 222, 3) := by decide +kernel
theorem dX11_goes_15 : decode cX11_goes 15 = .ok (.aload_n 0, 1) := by decide +kernel
theorem dX11_goes_16 : decode cX11_goes 16 = .ok (.iload_n 1, 1) := by decide +kernel
theorem dX11_goes_17 : decode cX11_goes 17 = .ok (.iload_n 3, 1) := by decide +kernel
theorem dX11_goes_18 : decode cX11_goes 18 = .ok (.iload 4, 2) := by decide +kernel
theorem dX11_goes_20 : decode cX11_goes 20 = .ok (.invokevirtual 213, 3) := by decide +kernel
theorem dX11_goes_23 : decode cX11_goes 23 = .ok (.istore 5, 2) := by decide +kernel
theorem dX11_goes_25 : decode cX11_goes 25 = .ok (.aload_n 0, 1) := by decide +kernel
theorem dX11_goes_26 : decode cX11_goes 26 = .ok (.getfield 222, 3) := by decide +kernel
theorem dX11_goes_29 : decode cX11_goes 29 = .ok (.ifCond .lt 8, 3) := by decide +kernel
theorem dX11_goes_32 : decode cX11_goes 32 = .ok (.iload 5, 2) := by decide +kernel
theorem dX11_goes_34 : decode cX11_goes 34 = .ok (.ifCond .ne 4, 3) := by decide +kernel
theorem dX11_goes_37 : decode cX11_goes 37 = .ok (.return_, 1) := by decide +kernel
theorem dX11_goes_38 : decode cX11_goes 38 = .ok (.aload_n 0, 1) := by decide +kernel
theorem dX11_goes_39 : decode cX11_goes 39 = .ok (.getfield 15, 3) := by decide +kernel
theorem dX11_goes_42 : decode cX11_goes 42 = .ok (.iconst 4, 1) := by decide +kernel
theorem dX11_goes_43 : decode cX11_goes 43 = .ok (.iload_n 1, 1) := by decide +kernel
theorem dX11_goes_44 : decode cX11_goes 44 = .ok (.invokestatic 200, 3) := by decide +kernel
theorem dX11_goes_47 : decode cX11_goes 47 = .ok (.imul, 1) := by decide +kernel
theorem dX11_goes_48 : decode cX11_goes 48 = .ok (.iload 4, 2) := by decide +kernel
theorem dX11_goes_50 : decode cX11_goes 50 = .ok (.invokestatic 204, 3) := by decide +kernel
theorem dX11_goes_53 : decode cX11_goes 53 = .ok (.iadd, 1) := by decide +kernel
theorem dX11_goes_54 : decode cX11_goes 54 = .ok (.iaload, 1) := by decide +kernel
theorem dX11_goes_55 : decode cX11_goes 55 = .ok (.istore 6, 2) := by decide +kernel
theorem dX11_goes_57 : decode cX11_goes 57 = .ok (.iload_n 3, 1) := by decide +kernel
theorem dX11_goes_58 : decode cX11_goes 58 = .ok (.iload 6, 2) := by decide +kernel
theorem dX11_goes_60 : decode cX11_goes 60 = .ok (.isub, 1) := by decide +kernel
theorem dX11_goes_61 : decode cX11_goes 61 = .ok (.bipush 8, 2) := by decide +kernel
theorem dX11_goes_63 : decode cX11_goes 63 = .ok (.iadd, 1) := by decide +kernel
theorem dX11_goes_64 : decode cX11_goes 64 = .ok (.bipush 8, 2) := by decide +kernel
theorem dX11_goes_66 : decode cX11_goes 66 = .ok (.irem, 1) := by decide +kernel
theorem dX11_goes_67 : decode cX11_goes 67 = .ok (.istore 7, 2) := by decide +kernel
theorem dX11_goes_69 : decode cX11_goes 69 = .ok (.iload 7, 2) := by decide +kernel
theorem dX11_goes_71 : decode cX11_goes 71 = .ok (.iconst 1, 1) := by decide +kernel
theorem dX11_goes_72 : decode cX11_goes 72 = .ok (.iconst 3, 1) := by decide +kernel
theorem dX11_goes_73 : decode cX11_goes 73 = .ok (.invokestatic 85, 3) := by decide +kernel
theorem dX11_goes_76 : decode cX11_goes 76 = .ok (.ifCond .eq 7, 3) := by decide +kernel
theorem dX11_goes_79 : decode cX11_goes 79 = .ok (.iconst 0, 1) := by decide +kernel
theorem dX11_goes_80 : decode cX11_goes 80 = .ok (.goto 19, 3) := by decide +kernel
theorem dX11_goes_83 : decode cX11_goes 83 = .ok (.iload 7, 2) := by decide +kernel
theorem dX11_goes_85 : decode cX11_goes 85 = .ok (.iconst 5, 1) := by decide +kernel
theorem dX11_goes_86 : decode cX11_goes 86 = .ok (.bipush 7, 2) := by decide +kernel
theorem dX11_goes_88 : decode cX11_goes 88 = .ok (.invokestatic 85, 3) := by decide +kernel
theorem dX11_goes_91 : decode cX11_goes 91 = .ok (.ifCond .eq 7, 3) := by decide +kernel
theorem dX11_goes_94 : decode cX11_goes 94 = .ok (.iconst 1, 1) := by decide +kernel
theorem dX11_goes_95 : decode cX11_goes 95 = .ok (.goto 4, 3) := by decide +kernel
theorem dX11_goes_98 : decode cX11_goes 98 = .ok (.iload_n 2, 1) := by decide +kernel
theorem dX11_goes_99 : decode cX11_goes 99 = .ok (.istore 8, 2) := by decide +kernel
theorem dX11_goes_101 : decode cX11_goes 101 = .ok (.iload 8, 2) := by decide +kernel
theorem dX11_goes_103 : decode cX11_goes 103 = .ok (.iload_n 2, 1) := by decide +kernel
theorem dX11_goes_104 : decode cX11_goes 104 = .ok (.if_icmp .ne 7, 3) := by decide +kernel
theorem dX11_goes_107 : decode cX11_goes 107 = .ok (.iconst 0, 1) := by decide +kernel
theorem dX11_goes_108 : decode cX11_goes 108 = .ok (.goto 28, 3) := by decide +kernel
theorem dX11_goes_111 : decode cX11_goes 111 = .ok (.iload_n 3, 1) := by decide +kernel
theorem dX11_goes_112 : decode cX11_goes 112 = .ok (.iload 6, 2) := by decide +kernel
theorem dX11_goes_114 : decode cX11_goes 114 = .ok (.invokestatic 207, 3) := by decide +kernel
theorem dX11_goes_117 : decode cX11_goes 117 = .ok (.iconst 2, 1) := by decide +kernel
theorem dX11_goes_118 : decode cX11_goes 118 = .ok (.if_icmp .gt 12, 3) := by decide +kernel
theorem dX11_goes_121 : decode cX11_goes 121 = .ok (.aload_n 0, 1) := by decide +kernel
theorem dX11_goes_122 : decode cX11_goes 122 = .ok (.getfield 30, 3) := by decide +kernel
theorem dX11_goes_125 : decode cX11_goes 125 = .ok (.iconst 0, 1) := by decide +kernel
theorem dX11_goes_126 : decode cX11_goes 126 = .ok (.iaload, 1) := by decide +kernel
theorem dX11_goes_127 : decode cX11_goes 127 = .ok (.goto 9, 3) := by decide +kernel
theorem dX11_goes_130 : decode cX11_goes 130 = .ok (.aload_n 0, 1) := by decide +kernel
theorem dX11_goes_131 : decode cX11_goes 131 = .ok (.getfield 30, 3) := by decide +kernel
theorem dX11_goes_134 : decode cX11_goes 134 = .ok (.iconst 1, 1) := by decide +kernel
theorem dX11_goes_135 : decode cX11_goes 135 = .ok (.iaload, 1) := by decide +kernel
theorem dX11_goes_136 : decode cX11_goes 136 = .ok (.istore 9, 2) := by decide +kernel
theorem dX11_goes_138 : decode cX11_goes 138 = .ok (.aload_n 0, 1) := by decide +kernel
theorem dX11_goes_139 : decode cX11_goes 139 = .ok (.iload 4, 2) := by decide +kernel
theorem dX11_goes_141 : decode cX11_goes 141 = .ok (.iload_n 3, 1) := by decide +kernel
theorem dX11_goes_142 : decode cX11_goes 142 = .ok (.invokestatic 225, 3) := by decide +kernel
theorem dX11_goes_145 : decode cX11_goes 145 = .ok (.iload 5, 2) := by decide +kernel
theorem dX11_goes_147 : decode cX11_goes 147 = .ok (.iadd, 1) := by decide +kernel
theorem dX11_goes_148 : decode cX11_goes 148 = .ok (.iconst 1, 1) := by decide +kernel
theorem dX11_goes_149 : decode cX11_goes 149 = .ok (.isub, 1) := by decide +kernel
theorem dX11_goes_150 : decode cX11_goes 150 = .ok (.iload 5, 2) := by decide +kernel
theorem dX11_goes_152 : decode cX11_goes 152 = .ok (.idiv, 1) := by decide +kernel
theorem dX11_goes_153 : decode cX11_goes 153 = .ok (.iadd, 1) := by decide +kernel
theorem dX11_goes_154 : decode cX11_goes 154 = .ok (.iload 9, 2) := by decide +kernel
theorem dX11_goes_156 : decode cX11_goes 156 = .ok (.iadd, 1) := by decide +kernel
theorem dX11_goes_157 : decode cX11_goes 157 = .ok (.putfield 216, 3) := by decide +kernel
theorem dX11_goes_160 : decode cX11_goes 160 = .ok (.aload_n 0, 1) := by decide +kernel
theorem dX11_goes_161 : decode cX11_goes 161 = .ok (.iload 4, 2) := by decide +kernel
theorem dX11_goes_163 : decode cX11_goes 163 = .ok (.putfield 228, 3) := by decide +kernel
theorem dX11_goes_166 : decode cX11_goes 166 = .ok (.aload_n 0, 1) := by decide +kernel
theorem dX11_goes_167 : decode cX11_goes 167 = .ok (.iload 8, 2) := by decide +kernel
theorem dX11_goes_169 : decode cX11_goes 169 = .ok (.putfield 231, 3) := by decide +kernel
theorem dX11_goes_172 : decode cX11_goes 172 = .ok (.return_, 1) := by decide +kernel
theorem dX11_soonest_0 : decode cX11_soonest 0 = .ok (.iconst (-1), 1) := by decide +kernel
theorem dX11_soonest_1 : decode cX11_soonest 1 = .ok (.istore 5, 2) := by decide +kernel
theorem dX11_soonest_3 : decode cX11_soonest 3 = .ok (.iconst (-1), 1) := by decide +kernel
theorem dX11_soonest_4 : decode cX11_soonest 4 = .ok (.istore 6, 2) := by decide +kernel
theorem dX11_soonest_6 : decode cX11_soonest 6 = .ok (.iconst 0, 1) := by decide +kernel
theorem dX11_soonest_7 : decode cX11_soonest 7 = .ok (.istore 7, 2) := by decide +kernel
theorem dX11_soonest_9 : decode cX11_soonest 9 = .ok (.iload 7, 2) := by decide +kernel
theorem dX11_soonest_11 : decode cX11_soonest 11 = .ok (.iconst 4, 1) := by decide +kernel
theorem dX11_soonest_12 : decode cX11_soonest 12 = .ok (.if_icmp .ge 54, 3) := by decide +kernel
theorem dX11_soonest_15 : decode cX11_soonest 15 = .ok (.aload_n 0, 1) := by decide +kernel
theorem dX11_soonest_16 : decode cX11_soonest 16 = .ok (.iload_n 1, 1) := by decide +kernel
theorem dX11_soonest_17 : decode cX11_soonest 17 = .ok (.iload_n 2, 1) := by decide +kernel
theorem dX11_soonest_18 : decode cX11_soonest 18 = .ok (.iload_n 3, 1) := by decide +kernel
theorem dX11_soonest_19 : decode cX11_soonest 19 = .ok (.iload 4, 2) := by decide +kernel
theorem dX11_soonest_21 : decode cX11_soonest 21 = .ok (.iload 7, 2) := by decide +kernel
theorem dX11_soonest_23 : decode cX11_soonest 23 = .ok (.invokestatic 234, 3) := by decide +kernel
theorem dX11_soonest_26 : decode cX11_soonest 26 = .ok (.invokevirtual 237, 3) := by decide +kernel
theorem dX11_soonest_29 : decode cX11_soonest 29 = .ok (.aload_n 0, 1) := by decide +kernel
theorem dX11_soonest_30 : decode cX11_soonest 30 = .ok (.getfield 216, 3) := by decide +kernel
theorem dX11_soonest_33 : decode cX11_soonest 33 = .ok (.ifCond .lt 27, 3) := by decide +kernel
theorem dX11_soonest_36 : decode cX11_soonest 36 = .ok (.iload 6, 2) := by decide +kernel
theorem dX11_soonest_38 : decode cX11_soonest 38 = .ok (.ifCond .lt 12, 3) := by decide +kernel
theorem dX11_soonest_41 : decode cX11_soonest 41 = .ok (.aload_n 0, 1) := by decide +kernel
theorem dX11_soonest_42 : decode cX11_soonest 42 = .ok (.getfield 216, 3) := by decide +kernel
theorem dX11_soonest_45 : decode cX11_soonest 45 = .ok (.iload 6, 2) := by decide +kernel
theorem dX11_soonest_47 : decode cX11_soonest 47 = .ok (.if_icmp .ge 13, 3) := by decide +kernel
theorem dX11_soonest_50 : decode cX11_soonest 50 = .ok (.iload 7, 2) := by decide +kernel
theorem dX11_soonest_52 : decode cX11_soonest 52 = .ok (.istore 5, 2) := by decide +kernel
theorem dX11_soonest_54 : decode cX11_soonest 54 = .ok (.aload_n 0, 1) := by decide +kernel
theorem dX11_soonest_55 : decode cX11_soonest 55 = .ok (.getfield 216, 3) := by decide +kernel
theorem dX11_soonest_58 : decode cX11_soonest 58 = .ok (.istore 6, 2) := by decide +kernel
theorem dX11_soonest_60 : decode cX11_soonest 60 = .ok (.iinc 7 1, 3) := by decide +kernel
theorem dX11_soonest_63 : decode cX11_soonest 63 = .ok (.goto (-54), 3) := by decide +kernel
theorem dX11_soonest_66 : decode cX11_soonest 66 = .ok (.iload 5, 2) := by decide +kernel
theorem dX11_soonest_68 : decode cX11_soonest 68 = .ok (.ifCond .lt 17, 3) := by decide +kernel
theorem dX11_soonest_71 : decode cX11_soonest 71 = .ok (.aload_n 0, 1) := by decide +kernel
theorem dX11_soonest_72 : decode cX11_soonest 72 = .ok (.iload_n 1, 1) := by decide +kernel
theorem dX11_soonest_73 : decode cX11_soonest 73 = .ok (.iload_n 2, 1) := by decide +kernel
theorem dX11_soonest_74 : decode cX11_soonest 74 = .ok (.iload_n 3, 1) := by decide +kernel
theorem dX11_soonest_75 : decode cX11_soonest 75 = .ok (.iload 4, 2) := by decide +kernel
theorem dX11_soonest_77 : decode cX11_soonest 77 = .ok (.iload 5, 2) := by decide +kernel
theorem dX11_soonest_79 : decode cX11_soonest 79 = .ok (.invokestatic 234, 3) := by decide +kernel
theorem dX11_soonest_82 : decode cX11_soonest 82 = .ok (.invokevirtual 237, 3) := by decide +kernel
theorem dX11_soonest_85 : decode cX11_soonest 85 = .ok (.return_, 1) := by decide +kernel
theorem dX11_leg_0 : decode cX11_leg 0 = .ok (.iload_n 1, 1) := by decide +kernel
theorem dX11_leg_1 : decode cX11_leg 1 = .ok (.invokestatic 112, 3) := by decide +kernel
theorem dX11_leg_4 : decode cX11_leg 4 = .ok (.ifCond .eq 37, 3) := by decide +kernel
theorem dX11_leg_7 : decode cX11_leg 7 = .ok (.aload_n 0, 1) := by decide +kernel
theorem dX11_leg_8 : decode cX11_leg 8 = .ok (.getfield 9, 3) := by decide +kernel
theorem dX11_leg_11 : decode cX11_leg 11 = .ok (.iload_n 1, 1) := by decide +kernel
theorem dX11_leg_12 : decode cX11_leg 12 = .ok (.iaload, 1) := by decide +kernel
theorem dX11_leg_13 : decode cX11_leg 13 = .ok (.iconst 1, 1) := by decide +kernel
theorem dX11_leg_14 : decode cX11_leg 14 = .ok (.if_icmp .eq 27, 3) := by decide +kernel
theorem dX11_leg_17 : decode cX11_leg 17 = .ok (.iload_n 2, 1) := by decide +kernel
theorem dX11_leg_18 : decode cX11_leg 18 = .ok (.invokestatic 119, 3) := by decide +kernel
theorem dX11_leg_21 : decode cX11_leg 21 = .ok (.ifCond .eq 20, 3) := by decide +kernel
theorem dX11_leg_24 : decode cX11_leg 24 = .ok (.iload_n 3, 1) := by decide +kernel
theorem dX11_leg_25 : decode cX11_leg 25 = .ok (.invokestatic 102, 3) := by decide +kernel
theorem dX11_leg_28 : decode cX11_leg 28 = .ok (.ifCond .eq 13, 3) := by decide +kernel
theorem dX11_leg_31 : decode cX11_leg 31 = .ok (.iload 5, 2) := by decide +kernel
theorem dX11_leg_33 : decode cX11_leg 33 = .ok (.iconst 0, 1) := by decide +kernel
theorem dX11_leg_34 : decode cX11_leg 34 = .ok (.iconst 2, 1) := by decide +kernel
theorem dX11_leg_35 : decode cX11_leg 35 = .ok (.invokestatic 85, 3) := by decide +kernel
theorem dX11_leg_38 : decode cX11_leg 38 = .ok (.ifCond .ne 5, 3) := by decide +kernel
theorem dX11_leg_41 : decode cX11_leg 41 = .ok (.iconst (-1), 1) := by decide +kernel
theorem dX11_leg_42 : decode cX11_leg 42 = .ok (.ireturn, 1) := by decide +kernel
theorem dX11_leg_43 : decode cX11_leg 43 = .ok (.iload 4, 2) := by decide +kernel
theorem dX11_leg_45 : decode cX11_leg 45 = .ok (.iconst 0, 1) := by decide +kernel
theorem dX11_leg_46 : decode cX11_leg 46 = .ok (.sipush 9999, 3) := by decide +kernel
theorem dX11_leg_49 : decode cX11_leg 49 = .ok (.invokestatic 85, 3) := by decide +kernel
theorem dX11_leg_52 : decode cX11_leg 52 = .ok (.ifCond .ne 6, 3) := by decide +kernel
theorem dX11_leg_55 : decode cX11_leg 55 = .ok (.bipush (-2), 2) := by decide +kernel
theorem dX11_leg_57 : decode cX11_leg 57 = .ok (.ireturn, 1) := by decide +kernel
theorem dX11_leg_58 : decode cX11_leg 58 = .ok (.aload_n 0, 1) := by decide +kernel
theorem dX11_leg_59 : decode cX11_leg 59 = .ok (.iload_n 1, 1) := by decide +kernel
theorem dX11_leg_60 : decode cX11_leg 60 = .ok (.iload_n 2, 1) := by decide +kernel
theorem dX11_leg_61 : decode cX11_leg 61 = .ok (.iload_n 3, 1) := by decide +kernel
theorem dX11_leg_62 : decode cX11_leg 62 = .ok (.iload 4, 2) := by decide +kernel
theorem dX11_leg_64 : decode cX11_leg 64 = .ok (.invokevirtual 241, 3) := by decide +kernel
theorem dX11_leg_67 : decode cX11_leg 67 = .ok (.aload_n 0, 1) := by decide +kernel
theorem dX11_leg_68 : decode cX11_leg 68 = .ok (.getfield 216, 3) := by decide +kernel
theorem dX11_leg_71 : decode cX11_leg 71 = .ok (.ifCond .ge 6, 3) := by decide +kernel
theorem dX11_leg_74 : decode cX11_leg 74 = .ok (.bipush (-5), 2) := by decide +kernel
theorem dX11_leg_76 : decode cX11_leg 76 = .ok (.ireturn, 1) := by decide +kernel
theorem dX11_leg_77 : decode cX11_leg 77 = .ok (.iload 5, 2) := by decide +kernel
theorem dX11_leg_79 : decode cX11_leg 79 = .ok (.ifCond .ne 10, 3) := by decide +kernel
theorem dX11_leg_82 : decode cX11_leg 82 = .ok (.aload_n 0, 1) := by decide +kernel
theorem dX11_leg_83 : decode cX11_leg 83 = .ok (.getfield 216, 3) := by decide +kernel
theorem dX11_leg_86 : decode cX11_leg 86 = .ok (.goto 20, 3) := by decide +kernel
theorem dX11_leg_89 : decode cX11_leg 89 = .ok (.iload 5, 2) := by decide +kernel
theorem dX11_leg_91 : decode cX11_leg 91 = .ok (.iconst 1, 1) := by decide +kernel
theorem dX11_leg_92 : decode cX11_leg 92 = .ok (.if_icmp .ne 10, 3) := by decide +kernel
theorem dX11_leg_95 : decode cX11_leg 95 = .ok (.aload_n 0, 1) := by decide +kernel
theorem dX11_leg_96 : decode cX11_leg 96 = .ok (.getfield 228, 3) := by decide +kernel
theorem dX11_leg_99 : decode cX11_leg 99 = .ok (.goto 7, 3) := by decide +kernel
theorem dX11_leg_102 : decode cX11_leg 102 = .ok (.aload_n 0, 1) := by decide +kernel
theorem dX11_leg_103 : decode cX11_leg 103 = .ok (.getfield 231, 3) := by decide +kernel
theorem dX11_leg_106 : decode cX11_leg 106 = .ok (.ireturn, 1) := by decide +kernel
theorem dX11_seeks_0 : decode cX11_seeks 0 = .ok (.iconst 0, 1) := by decide +kernel
theorem dX11_seeks_1 : decode cX11_seeks 1 = .ok (.istore_n 1, 1) := by decide +kernel
theorem dX11_seeks_2 : decode cX11_seeks 2 = .ok (.iload_n 1, 1) := by decide +kernel
theorem dX11_seeks_3 : decode cX11_seeks 3 = .ok (.bipush 72, 2) := by decide +kernel
theorem dX11_seeks_5 : decode cX11_seeks 5 = .ok (.if_icmp .ge 16, 3) := by decide +kernel
theorem dX11_seeks_8 : decode cX11_seeks 8 = .ok (.aload_n 0, 1) := by decide +kernel
theorem dX11_seeks_9 : decode cX11_seeks 9 = .ok (.getfield 66, 3) := by decide +kernel
theorem dX11_seeks_12 : decode cX11_seeks 12 = .ok (.iload_n 1, 1) := by decide +kernel
theorem dX11_seeks_13 : decode cX11_seeks 13 = .ok (.iconst (-1), 1) := by decide +kernel
theorem dX11_seeks_14 : decode cX11_seeks 14 = .ok (.iastore, 1) := by decide +kernel
theorem dX11_seeks_15 : decode cX11_seeks 15 = .ok (.iinc 1 1, 3) := by decide +kernel
theorem dX11_seeks_18 : decode cX11_seeks 18 = .ok (.goto (-16), 3) := by decide +kernel
theorem dX11_seeks_21 : decode cX11_seeks 21 = .ok (.aload_n 0, 1) := by decide +kernel
theorem dX11_seeks_22 : decode cX11_seeks 22 = .ok (.getfield 66, 3) := by decide +kernel
theorem dX11_seeks_25 : decode cX11_seeks 25 = .ok (.iconst 2, 1) := by decide +kernel
theorem dX11_seeks_26 : decode cX11_seeks 26 = .ok (.aload_n 0, 1) := by decide +kernel
theorem dX11_seeks_27 : decode cX11_seeks 27 = .ok (.getfield 115, 3) := by decide +kernel
theorem dX11_seeks_30 : decode cX11_seeks 30 = .ok (.imul, 1) := by decide +kernel
theorem dX11_seeks_31 : decode cX11_seeks 31 = .ok (.aload_n 0, 1) := by decide +kernel
theorem dX11_seeks_32 : decode cX11_seeks 32 = .ok (.getfield 122, 3) := by decide +kernel
theorem dX11_seeks_35 : decode cX11_seeks 35 = .ok (.iadd, 1) := by decide +kernel
theorem dX11_seeks_36 : decode cX11_seeks 36 = .ok (.aload_n 0, 1) := by decide +kernel
theorem dX11_seeks_37 : decode cX11_seeks 37 = .ok (.getfield 125, 3) := by decide +kernel
theorem dX11_seeks_40 : decode cX11_seeks 40 = .ok (.iastore, 1) := by decide +kernel
theorem dX11_seeks_41 : decode cX11_seeks 41 = .ok (.iconst 1, 1) := by decide +kernel
theorem dX11_seeks_42 : decode cX11_seeks 42 = .ok (.istore_n 1, 1) := by decide +kernel
theorem dX11_seeks_43 : decode cX11_seeks 43 = .ok (.iload_n 1, 1) := by decide +kernel
theorem dX11_seeks_44 : decode cX11_seeks 44 = .ok (.ifCond .eq 127, 3) := by decide +kernel
theorem dX11_seeks_47 : decode cX11_seeks 47 = .ok (.iconst 0, 1) := by decide +kernel
theorem dX11_seeks_48 : decode cX11_seeks 48 = .ok (.istore_n 1, 1) := by decide +kernel
theorem dX11_seeks_49 : decode cX11_seeks 49 = .ok (.iconst 0, 1) := by decide +kernel
theorem dX11_seeks_50 : decode cX11_seeks 50 = .ok (.istore_n 2, 1) := by decide +kernel
theorem dX11_seeks_51 : decode cX11_seeks 51 = .ok (.iload_n 2, 1) := by decide +kernel
theorem dX11_seeks_52 : decode cX11_seeks 52 = .ok (.bipush 72, 2) := by decide +kernel
theorem dX11_seeks_54 : decode cX11_seeks 54 = .ok (.if_icmp .ge 114, 3) := by decide +kernel
theorem dX11_seeks_57 : decode cX11_seeks 57 = .ok (.iconst 0, 1) := by decide +kernel
theorem dX11_seeks_58 : decode cX11_seeks 58 = .ok (.istore_n 3, 1) := by decide +kernel
theorem dX11_seeks_59 : decode cX11_seeks 59 = .ok (.iload_n 3, 1) := by decide +kernel
theorem dX11_seeks_60 : decode cX11_seeks 60 = .ok (.bipush 32, 2) := by decide +kernel
theorem dX11_seeks_62 : decode cX11_seeks 62 = .ok (.if_icmp .ge 100, 3) := by decide +kernel
theorem dX11_seeks_65 : decode cX11_seeks 65 = .ok (.aload_n 0, 1) := by decide +kernel
theorem dX11_seeks_66 : decode cX11_seeks 66 = .ok (.getfield 66, 3) := by decide +kernel
theorem dX11_seeks_69 : decode cX11_seeks 69 = .ok (.iload_n 2, 1) := by decide +kernel
theorem dX11_seeks_70 : decode cX11_seeks 70 = .ok (.iaload, 1) := by decide +kernel
theorem dX11_seeks_71 : decode cX11_seeks 71 = .ok (.ifCond .lt 91, 3) := by decide +kernel
theorem dX11_seeks_74 : decode cX11_seeks 74 = .ok (.aload_n 0, 1) := by decide +kernel
theorem dX11_seeks_75 : decode cX11_seeks 75 = .ok (.iload_n 2, 1) := by decide +kernel
theorem dX11_seeks_76 : decode cX11_seeks 76 = .ok (.iconst 2, 1) := by decide +kernel
theorem dX11_seeks_77 : decode cX11_seeks 77 = .ok (.idiv, 1) := by decide +kernel
theorem dX11_seeks_78 : decode cX11_seeks 78 = .ok (.iload_n 2, 1) := by decide +kernel
theorem dX11_seeks_79 : decode cX11_seeks 79 = .ok (.iconst 2, 1) := by decide +kernel
theorem dX11_seeks_80 : decode cX11_seeks 80 = .ok (.irem, 1) := by decide +kernel
theorem dX11_seeks_81 : decode cX11_seeks 81 = .ok (.iload_n 3, 1) := by decide +kernel
theorem dX11_seeks_82 : decode cX11_seeks 82 = .ok (.iconst 4, 1) := by decide +kernel
theorem dX11_seeks_83 : decode cX11_seeks 83 = .ok (.idiv, 1) := by decide +kernel
theorem dX11_seeks_84 : decode cX11_seeks 84 = .ok (.aload_n 0, 1) := by decide +kernel
theorem dX11_seeks_85 : decode cX11_seeks 85 = .ok (.getfield 66, 3) := by decide +kernel
theorem dX11_seeks_88 : decode cX11_seeks 88 = .ok (.iload_n 2, 1) := by decide +kernel
theorem dX11_seeks_89 : decode cX11_seeks 89 = .ok (.iaload, 1) := by decide +kernel
theorem dX11_seeks_90 : decode cX11_seeks 90 = .ok (.iload_n 3, 1) := by decide +kernel
theorem dX11_seeks_91 : decode cX11_seeks 91 = .ok (.iconst 4, 1) := by decide +kernel
theorem dX11_seeks_92 : decode cX11_seeks 92 = .ok (.irem, 1) := by decide +kernel
theorem dX11_seeks_93 : decode cX11_seeks 93 = .ok (.invokestatic 234, 3) := by decide +kernel
theorem dX11_seeks_96 : decode cX11_seeks 96 = .ok (.invokevirtual 237, 3) := by decide +kernel
theorem dX11_seeks_99 : decode cX11_seeks 99 = .ok (.iconst 2, 1) := by decide +kernel
theorem dX11_seeks_100 : decode cX11_seeks 100 = .ok (.aload_n 0, 1) := by decide +kernel
theorem dX11_seeks_101 : decode cX11_seeks 101 = .ok (.getfield 222, 3) := by decide +kernel
theorem dX11_seeks_104 : decode cX11_seeks 104 = .ok (.imul, 1) := by decide +kernel
theorem dX11_seeks_105 : decode cX11_seeks 105 = .ok (.aload_n 0, 1) := by decide +kernel
theorem dX11_seeks_106 : decode cX11_seeks 106 = .ok (.getfield 231, 3) := by decide +kernel
theorem dX11_seeks_109 : decode cX11_seeks 109 = .ok (.iadd, 1) := by decide +kernel
theorem dX11_seeks_110 : decode cX11_seeks 110 = .ok (.istore 4, 2) := by decide +kernel
theorem dX11_seeks_112 : decode cX11_seeks 112 = .ok (.aload_n 0, 1) := by decide +kernel
theorem dX11_seeks_113 : decode cX11_seeks 113 = .ok (.getfield 216, 3) := by decide +kernel
theorem dX11_seeks_116 : decode cX11_seeks 116 = .ok (.ifCond .lt 40, 3) := by decide +kernel
theorem dX11_seeks_119 : decode cX11_seeks 119 = .ok (.aload_n 0, 1) := by decide +kernel
theorem dX11_seeks_120 : decode cX11_seeks 120 = .ok (.getfield 66, 3) := by decide +kernel
theorem dX11_seeks_123 : decode cX11_seeks 123 = .ok (.iload 4, 2) := by decide +kernel
theorem dX11_seeks_125 : decode cX11_seeks 125 = .ok (.iaload, 1) := by decide +kernel
theorem dX11_seeks_126 : decode cX11_seeks 126 = .ok (.ifCond .lt 17, 3) := by decide +kernel
theorem dX11_seeks_129 : decode cX11_seeks 129 = .ok (.aload_n 0, 1) := by decide +kernel
theorem dX11_seeks_130 : decode cX11_seeks 130 = .ok (.getfield 216, 3) := by decide +kernel
theorem dX11_seeks_133 : decode cX11_seeks 133 = .ok (.aload_n 0, 1) := by decide +kernel
theorem dX11_seeks_134 : decode cX11_seeks 134 = .ok (.getfield 66, 3) := by decide +kernel
theorem dX11_seeks_137 : decode cX11_seeks 137 = .ok (.iload 4, 2) := by decide +kernel
theorem dX11_seeks_139 : decode cX11_seeks 139 = .ok (.iaload, 1) := by decide +kernel
theorem dX11_seeks_140 : decode cX11_seeks 140 = .ok (.if_icmp .ge 16, 3) := by decide +kernel
theorem dX11_seeks_143 : decode cX11_seeks 143 = .ok (.aload_n 0, 1) := by decide +kernel
theorem dX11_seeks_144 : decode cX11_seeks 144 = .ok (.getfield 66, 3) := by decide +kernel
theorem dX11_seeks_147 : decode cX11_seeks 147 = .ok (.iload 4, 2) := by decide +kernel
theorem dX11_seeks_149 : decode cX11_seeks 149 = .ok (.aload_n 0, 1) := by decide +kernel
theorem dX11_seeks_150 : decode cX11_seeks 150 = .ok (.getfield 216, 3) := by decide +kernel
theorem dX11_seeks_153 : decode cX11_seeks 153 = .ok (.iastore, 1) := by decide +kernel
theorem dX11_seeks_154 : decode cX11_seeks 154 = .ok (.iconst 1, 1) := by decide +kernel
theorem dX11_seeks_155 : decode cX11_seeks 155 = .ok (.istore_n 1, 1) := by decide +kernel
theorem dX11_seeks_156 : decode cX11_seeks 156 = .ok (.iinc 3 1, 3) := by decide +kernel
theorem dX11_seeks_159 : decode cX11_seeks 159 = .ok (.goto (-100), 3) := by decide +kernel
theorem dX11_seeks_162 : decode cX11_seeks 162 = .ok (.iinc 2 1, 3) := by decide +kernel
theorem dX11_seeks_165 : decode cX11_seeks 165 = .ok (.goto (-114), 3) := by decide +kernel
theorem dX11_seeks_168 : decode cX11_seeks 168 = .ok (.goto (-125), 3) := by decide +kernel
theorem dX11_seeks_171 : decode cX11_seeks 171 = .ok (.return_, 1) := by decide +kernel
theorem dX11_leastOf_0 : decode cX11_leastOf 0 = .ok (.aload_n 0, 1) := by decide +kernel
theorem dX11_leastOf_1 : decode cX11_leastOf 1 = .ok (.getfield 66, 3) := by decide +kernel
theorem dX11_leastOf_4 : decode cX11_leastOf 4 = .ok (.iconst 2, 1) := by decide +kernel
theorem dX11_leastOf_5 : decode cX11_leastOf 5 = .ok (.iload_n 1, 1) := by decide +kernel
theorem dX11_leastOf_6 : decode cX11_leastOf 6 = .ok (.imul, 1) := by decide +kernel
theorem dX11_leastOf_7 : decode cX11_leastOf 7 = .ok (.iaload, 1) := by decide +kernel
theorem dX11_leastOf_8 : decode cX11_leastOf 8 = .ok (.istore_n 2, 1) := by decide +kernel
theorem dX11_leastOf_9 : decode cX11_leastOf 9 = .ok (.aload_n 0, 1) := by decide +kernel
theorem dX11_leastOf_10 : decode cX11_leastOf 10 = .ok (.getfield 66, 3) := by decide +kernel
theorem dX11_leastOf_13 : decode cX11_leastOf 13 = .ok (.iconst 2, 1) := by decide +kernel
theorem dX11_leastOf_14 : decode cX11_leastOf 14 = .ok (.iload_n 1, 1) := by decide +kernel
theorem dX11_leastOf_15 : decode cX11_leastOf 15 = .ok (.imul, 1) := by decide +kernel
theorem dX11_leastOf_16 : decode cX11_leastOf 16 = .ok (.iconst 1, 1) := by decide +kernel
theorem dX11_leastOf_17 : decode cX11_leastOf 17 = .ok (.iadd, 1) := by decide +kernel
theorem dX11_leastOf_18 : decode cX11_leastOf 18 = .ok (.iaload, 1) := by decide +kernel
theorem dX11_leastOf_19 : decode cX11_leastOf 19 = .ok (.istore_n 3, 1) := by decide +kernel
theorem dX11_leastOf_20 : decode cX11_leastOf 20 = .ok (.iload_n 2, 1) := by decide +kernel
theorem dX11_leastOf_21 : decode cX11_leastOf 21 = .ok (.ifCond .ge 7, 3) := by decide +kernel
theorem dX11_leastOf_24 : decode cX11_leastOf 24 = .ok (.iload_n 3, 1) := by decide +kernel
theorem dX11_leastOf_25 : decode cX11_leastOf 25 = .ok (.goto 16, 3) := by decide +kernel
theorem dX11_leastOf_28 : decode cX11_leastOf 28 = .ok (.iload_n 3, 1) := by decide +kernel
theorem dX11_leastOf_29 : decode cX11_leastOf 29 = .ok (.ifCond .ge 7, 3) := by decide +kernel
theorem dX11_leastOf_32 : decode cX11_leastOf 32 = .ok (.iload_n 2, 1) := by decide +kernel
theorem dX11_leastOf_33 : decode cX11_leastOf 33 = .ok (.goto 8, 3) := by decide +kernel
theorem dX11_leastOf_36 : decode cX11_leastOf 36 = .ok (.iload_n 2, 1) := by decide +kernel
theorem dX11_leastOf_37 : decode cX11_leastOf 37 = .ok (.iload_n 3, 1) := by decide +kernel
theorem dX11_leastOf_38 : decode cX11_leastOf 38 = .ok (.invokestatic 89, 3) := by decide +kernel
theorem dX11_leastOf_41 : decode cX11_leastOf 41 = .ok (.ireturn, 1) := by decide +kernel
theorem dX11_reached_0 : decode cX11_reached 0 = .ok (.iconst 0, 1) := by decide +kernel
theorem dX11_reached_1 : decode cX11_reached 1 = .ok (.istore_n 1, 1) := by decide +kernel
theorem dX11_reached_2 : decode cX11_reached 2 = .ok (.iconst 0, 1) := by decide +kernel
theorem dX11_reached_3 : decode cX11_reached 3 = .ok (.istore_n 2, 1) := by decide +kernel
theorem dX11_reached_4 : decode cX11_reached 4 = .ok (.iload_n 2, 1) := by decide +kernel
theorem dX11_reached_5 : decode cX11_reached 5 = .ok (.bipush 36, 2) := by decide +kernel
theorem dX11_reached_7 : decode cX11_reached 7 = .ok (.if_icmp .ge 25, 3) := by decide +kernel
theorem dX11_reached_10 : decode cX11_reached 10 = .ok (.iload_n 1, 1) := by decide +kernel
theorem dX11_reached_11 : decode cX11_reached 11 = .ok (.aload_n 0, 1) := by decide +kernel
theorem dX11_reached_12 : decode cX11_reached 12 = .ok (.iload_n 2, 1) := by decide +kernel
theorem dX11_reached_13 : decode cX11_reached 13 = .ok (.invokevirtual 244, 3) := by decide +kernel
theorem dX11_reached_16 : decode cX11_reached 16 = .ok (.ifCond .lt 7, 3) := by decide +kernel
theorem dX11_reached_19 : decode cX11_reached 19 = .ok (.iconst 1, 1) := by decide +kernel
theorem dX11_reached_20 : decode cX11_reached 20 = .ok (.goto 4, 3) := by decide +kernel
theorem dX11_reached_23 : decode cX11_reached 23 = .ok (.iconst 0, 1) := by decide +kernel
theorem dX11_reached_24 : decode cX11_reached 24 = .ok (.iadd, 1) := by decide +kernel
theorem dX11_reached_25 : decode cX11_reached 25 = .ok (.istore_n 1, 1) := by decide +kernel
theorem dX11_reached_26 : decode cX11_reached 26 = .ok (.iinc 2 1, 3) := by decide +kernel
theorem dX11_reached_29 : decode cX11_reached 29 = .ok (.goto (-25), 3) := by decide +kernel
theorem dX11_reached_32 : decode cX11_reached 32 = .ok (.iload_n 1, 1) := by decide +kernel
theorem dX11_reached_33 : decode cX11_reached 33 = .ok (.ireturn, 1) := by decide +kernel
theorem dX11_farthest_0 : decode cX11_farthest 0 = .ok (.aload_n 0, 1) := by decide +kernel
theorem dX11_farthest_1 : decode cX11_farthest 1 = .ok (.getfield 115, 3) := by decide +kernel
theorem dX11_farthest_4 : decode cX11_farthest 4 = .ok (.istore_n 1, 1) := by decide +kernel
theorem dX11_farthest_5 : decode cX11_farthest 5 = .ok (.bipush 35, 2) := by decide +kernel
theorem dX11_farthest_7 : decode cX11_farthest 7 = .ok (.istore_n 2, 1) := by decide +kernel
theorem dX11_farthest_8 : decode cX11_farthest 8 = .ok (.iload_n 2, 1) := by decide +kernel
theorem dX11_farthest_9 : decode cX11_farthest 9 = .ok (.ifCond .lt 28, 3) := by decide +kernel
theorem dX11_farthest_12 : decode cX11_farthest 12 = .ok (.aload_n 0, 1) := by decide +kernel
theorem dX11_farthest_13 : decode cX11_farthest 13 = .ok (.iload_n 2, 1) := by decide +kernel
theorem dX11_farthest_14 : decode cX11_farthest 14 = .ok (.invokevirtual 244, 3) := by decide +kernel
theorem dX11_farthest_17 : decode cX11_farthest 17 = .ok (.aload_n 0, 1) := by decide +kernel
theorem dX11_farthest_18 : decode cX11_farthest 18 = .ok (.iload_n 1, 1) := by decide +kernel
theorem dX11_farthest_19 : decode cX11_farthest 19 = .ok (.invokevirtual 244, 3) := by decide +kernel
theorem dX11_farthest_22 : decode cX11_farthest 22 = .ok (.if_icmp .lt 7, 3) := by decide +kernel
theorem dX11_farthest_25 : decode cX11_farthest 25 = .ok (.iload_n 2, 1) := by decide +kernel
theorem dX11_farthest_26 : decode cX11_farthest 26 = .ok (.goto 4, 3) := by decide +kernel
theorem dX11_farthest_29 : decode cX11_farthest 29 = .ok (.iload_n 1, 1) := by decide +kernel
theorem dX11_farthest_30 : decode cX11_farthest 30 = .ok (.istore_n 1, 1) := by decide +kernel
theorem dX11_farthest_31 : decode cX11_farthest 31 = .ok (.iinc 2 (-1), 3) := by decide +kernel
theorem dX11_farthest_34 : decode cX11_farthest 34 = .ok (.goto (-26), 3) := by decide +kernel
theorem dX11_farthest_37 : decode cX11_farthest 37 = .ok (.iload_n 1, 1) := by decide +kernel
theorem dX11_farthest_38 : decode cX11_farthest 38 = .ok (.ireturn, 1) := by decide +kernel
theorem dX11_least_0 : decode cX11_least 0 = .ok (.iload_n 1, 1) := by decide +kernel
theorem dX11_least_1 : decode cX11_least 1 = .ok (.invokestatic 112, 3) := by decide +kernel
theorem dX11_least_4 : decode cX11_least 4 = .ok (.ifCond .eq 12, 3) := by decide +kernel
theorem dX11_least_7 : decode cX11_least 7 = .ok (.iload_n 2, 1) := by decide +kernel
theorem dX11_least_8 : decode cX11_least 8 = .ok (.iconst 0, 1) := by decide +kernel
theorem dX11_least_9 : decode cX11_least 9 = .ok (.iconst 2, 1) := by decide +kernel
theorem dX11_least_10 : decode cX11_least 10 = .ok (.invokestatic 85, 3) := by decide +kernel
theorem dX11_least_13 : decode cX11_least 13 = .ok (.ifCond .ne 5, 3) := by decide +kernel
theorem dX11_least_16 : decode cX11_least 16 = .ok (.iconst (-1), 1) := by decide +kernel
theorem dX11_least_17 : decode cX11_least 17 = .ok (.ireturn, 1) := by decide +kernel
theorem dX11_least_18 : decode cX11_least 18 = .ok (.aload_n 0, 1) := by decide +kernel
theorem dX11_least_19 : decode cX11_least 19 = .ok (.invokevirtual 136, 3) := by decide +kernel
theorem dX11_least_22 : decode cX11_least 22 = .ok (.iload_n 2, 1) := by decide +kernel
theorem dX11_least_23 : decode cX11_least 23 = .ok (.iconst 2, 1) := by decide +kernel
theorem dX11_least_24 : decode cX11_least 24 = .ok (.if_icmp .ne 11, 3) := by decide +kernel
theorem dX11_least_27 : decode cX11_least 27 = .ok (.aload_n 0, 1) := by decide +kernel
theorem dX11_least_28 : decode cX11_least 28 = .ok (.iload_n 1, 1) := by decide +kernel
theorem dX11_least_29 : decode cX11_least 29 = .ok (.invokevirtual 244, 3) := by decide +kernel
theorem dX11_least_32 : decode cX11_least 32 = .ok (.goto 13, 3) := by decide +kernel
theorem dX11_least_35 : decode cX11_least 35 = .ok (.aload_n 0, 1) := by decide +kernel
theorem dX11_least_36 : decode cX11_least 36 = .ok (.getfield 66, 3) := by decide +kernel
theorem dX11_least_39 : decode cX11_least 39 = .ok (.iconst 2, 1) := by decide +kernel
theorem dX11_least_40 : decode cX11_least 40 = .ok (.iload_n 1, 1) := by decide +kernel
theorem dX11_least_41 : decode cX11_least 41 = .ok (.imul, 1) := by decide +kernel
theorem dX11_least_42 : decode cX11_least 42 = .ok (.iload_n 2, 1) := by decide +kernel
theorem dX11_least_43 : decode cX11_least 43 = .ok (.iadd, 1) := by decide +kernel
theorem dX11_least_44 : decode cX11_least 44 = .ok (.iaload, 1) := by decide +kernel
theorem dX11_least_45 : decode cX11_least 45 = .ok (.istore_n 3, 1) := by decide +kernel
theorem dX11_least_46 : decode cX11_least 46 = .ok (.iload_n 3, 1) := by decide +kernel
theorem dX11_least_47 : decode cX11_least 47 = .ok (.ifCond .ge 8, 3) := by decide +kernel
theorem dX11_least_50 : decode cX11_least 50 = .ok (.bipush (-5), 2) := by decide +kernel
theorem dX11_least_52 : decode cX11_least 52 = .ok (.goto 4, 3) := by decide +kernel
theorem dX11_least_55 : decode cX11_least 55 = .ok (.iload_n 3, 1) := by decide +kernel
theorem dX11_least_56 : decode cX11_least 56 = .ok (.ireturn, 1) := by decide +kernel
theorem dX11_lastOf_0 : decode cX11_lastOf 0 = .ok (.aload_n 0, 1) := by decide +kernel
theorem dX11_lastOf_1 : decode cX11_lastOf 1 = .ok (.getfield 66, 3) := by decide +kernel
theorem dX11_lastOf_4 : decode cX11_lastOf 4 = .ok (.iload_n 1, 1) := by decide +kernel
theorem dX11_lastOf_5 : decode cX11_lastOf 5 = .ok (.iaload, 1) := by decide +kernel
theorem dX11_lastOf_6 : decode cX11_lastOf 6 = .ok (.ifCond .lt 18, 3) := by decide +kernel
theorem dX11_lastOf_9 : decode cX11_lastOf 9 = .ok (.iload_n 1, 1) := by decide +kernel
theorem dX11_lastOf_10 : decode cX11_lastOf 10 = .ok (.iconst 2, 1) := by decide +kernel
theorem dX11_lastOf_11 : decode cX11_lastOf 11 = .ok (.aload_n 0, 1) := by decide +kernel
theorem dX11_lastOf_12 : decode cX11_lastOf 12 = .ok (.getfield 115, 3) := by decide +kernel
theorem dX11_lastOf_15 : decode cX11_lastOf 15 = .ok (.imul, 1) := by decide +kernel
theorem dX11_lastOf_16 : decode cX11_lastOf 16 = .ok (.aload_n 0, 1) := by decide +kernel
theorem dX11_lastOf_17 : decode cX11_lastOf 17 = .ok (.getfield 122, 3) := by decide +kernel
theorem dX11_lastOf_20 : decode cX11_lastOf 20 = .ok (.iadd, 1) := by decide +kernel
theorem dX11_lastOf_21 : decode cX11_lastOf 21 = .ok (.if_icmp .ne 6, 3) := by decide +kernel
theorem dX11_lastOf_24 : decode cX11_lastOf 24 = .ok (.bipush (-5), 2) := by decide +kernel
theorem dX11_lastOf_26 : decode cX11_lastOf 26 = .ok (.ireturn, 1) := by decide +kernel
theorem dX11_lastOf_27 : decode cX11_lastOf 27 = .ok (.iconst 0, 1) := by decide +kernel
theorem dX11_lastOf_28 : decode cX11_lastOf 28 = .ok (.istore_n 2, 1) := by decide +kernel
theorem dX11_lastOf_29 : decode cX11_lastOf 29 = .ok (.iload_n 2, 1) := by decide +kernel
theorem dX11_lastOf_30 : decode cX11_lastOf 30 = .ok (.bipush 72, 2) := by decide +kernel
theorem dX11_lastOf_32 : decode cX11_lastOf 32 = .ok (.if_icmp .ge 103, 3) := by decide +kernel
theorem dX11_lastOf_35 : decode cX11_lastOf 35 = .ok (.iconst 0, 1) := by decide +kernel
theorem dX11_lastOf_36 : decode cX11_lastOf 36 = .ok (.istore_n 3, 1) := by decide +kernel
theorem dX11_lastOf_37 : decode cX11_lastOf 37 = .ok (.iload_n 3, 1) := by decide +kernel
theorem dX11_lastOf_38 : decode cX11_lastOf 38 = .ok (.bipush 32, 2) := by decide +kernel
theorem dX11_lastOf_40 : decode cX11_lastOf 40 = .ok (.if_icmp .ge 89, 3) := by decide +kernel
theorem dX11_lastOf_43 : decode cX11_lastOf 43 = .ok (.aload_n 0, 1) := by decide +kernel
theorem dX11_lastOf_44 : decode cX11_lastOf 44 = .ok (.getfield 66, 3) := by decide +kernel
theorem dX11_lastOf_47 : decode cX11_lastOf 47 = .ok (.iload_n 2, 1) := by decide +kernel
theorem dX11_lastOf_48 : decode cX11_lastOf 48 = .ok (.iaload, 1) := by decide +kernel
theorem dX11_lastOf_49 : decode cX11_lastOf 49 = .ok (.ifCond .lt 80, 3) := by decide +kernel
theorem dX11_lastOf_52 : decode cX11_lastOf 52 = .ok (.aload_n 0, 1) := by decide +kernel
theorem dX11_lastOf_53 : decode cX11_lastOf 53 = .ok (.iload_n 2, 1) := by decide +kernel
theorem dX11_lastOf_54 : decode cX11_lastOf 54 = .ok (.iconst 2, 1) := by decide +kernel
theorem dX11_lastOf_55 : decode cX11_lastOf 55 = .ok (.idiv, 1) := by decide +kernel
theorem dX11_lastOf_56 : decode cX11_lastOf 56 = .ok (.iload_n 2, 1) := by decide +kernel
theorem dX11_lastOf_57 : decode cX11_lastOf 57 = .ok (.iconst 2, 1) := by decide +kernel
theorem dX11_lastOf_58 : decode cX11_lastOf 58 = .ok (.irem, 1) := by decide +kernel
theorem dX11_lastOf_59 : decode cX11_lastOf 59 = .ok (.iload_n 3, 1) := by decide +kernel
theorem dX11_lastOf_60 : decode cX11_lastOf 60 = .ok (.iconst 4, 1) := by decide +kernel
theorem dX11_lastOf_61 : decode cX11_lastOf 61 = .ok (.idiv, 1) := by decide +kernel
theorem dX11_lastOf_62 : decode cX11_lastOf 62 = .ok (.aload_n 0, 1) := by decide +kernel
theorem dX11_lastOf_63 : decode cX11_lastOf 63 = .ok (.getfield 66, 3) := by decide +kernel
theorem dX11_lastOf_66 : decode cX11_lastOf 66 = .ok (.iload_n 2, 1) := by decide +kernel
theorem dX11_lastOf_67 : decode cX11_lastOf 67 = .ok (.iaload, 1) := by decide +kernel
theorem dX11_lastOf_68 : decode cX11_lastOf 68 = .ok (.iload_n 3, 1) := by decide +kernel
theorem dX11_lastOf_69 : decode cX11_lastOf 69 = .ok (.iconst 4, 1) := by decide +kernel
theorem dX11_lastOf_70 : decode cX11_lastOf 70 = .ok (.irem, 1) := by decide +kernel
theorem dX11_lastOf_71 : decode cX11_lastOf 71 = .ok (.invokestatic 234, 3) := by decide +kernel
theorem dX11_lastOf_74 : decode cX11_lastOf 74 = .ok (.invokevirtual 237, 3) := by decide +kernel
theorem dX11_lastOf_77 : decode cX11_lastOf 77 = .ok (.aload_n 0, 1) := by decide +kernel
theorem dX11_lastOf_78 : decode cX11_lastOf 78 = .ok (.getfield 216, 3) := by decide +kernel
theorem dX11_lastOf_81 : decode cX11_lastOf 81 = .ok (.aload_n 0, 1) := by decide +kernel
theorem dX11_lastOf_82 : decode cX11_lastOf 82 = .ok (.getfield 66, 3) := by decide +kernel
theorem dX11_lastOf_85 : decode cX11_lastOf 85 = .ok (.iload_n 1, 1) := by decide +kernel
theorem dX11_lastOf_86 : decode cX11_lastOf 86 = .ok (.iaload, 1) := by decide +kernel
theorem dX11_lastOf_87 : decode cX11_lastOf 87 = .ok (.if_icmp .ne 36, 3) := by decide +kernel
theorem dX11_lastOf_90 : decode cX11_lastOf 90 = .ok (.iconst 2, 1) := by decide +kernel
theorem dX11_lastOf_91 : decode cX11_lastOf 91 = .ok (.aload_n 0, 1) := by decide +kernel
theorem dX11_lastOf_92 : decode cX11_lastOf 92 = .ok (.getfield 222, 3) := by decide +kernel
theorem dX11_lastOf_95 : decode cX11_lastOf 95 = .ok (.imul, 1) := by decide +kernel
theorem dX11_lastOf_96 : decode cX11_lastOf 96 = .ok (.aload_n 0, 1) := by decide +kernel
theorem dX11_lastOf_97 : decode cX11_lastOf 97 = .ok (.getfield 231, 3) := by decide +kernel
theorem dX11_lastOf_100 : decode cX11_lastOf 100 = .ok (.iadd, 1) := by decide +kernel
theorem dX11_lastOf_101 : decode cX11_lastOf 101 = .ok (.iload_n 1, 1) := by decide +kernel
theorem dX11_lastOf_102 : decode cX11_lastOf 102 = .ok (.if_icmp .ne 21, 3) := by decide +kernel
theorem dX11_lastOf_105 : decode cX11_lastOf 105 = .ok (.bipush 100, 2) := by decide +kernel
theorem dX11_lastOf_107 : decode cX11_lastOf 107 = .ok (.iload_n 2, 1) := by decide +kernel
theorem dX11_lastOf_108 : decode cX11_lastOf 108 = .ok (.iconst 2, 1) := by decide +kernel
theorem dX11_lastOf_109 : decode cX11_lastOf 109 = .ok (.idiv, 1) := by decide +kernel
theorem dX11_lastOf_110 : decode cX11_lastOf 110 = .ok (.imul, 1) := by decide +kernel
theorem dX11_lastOf_111 : decode cX11_lastOf 111 = .ok (.bipush 10, 2) := by decide +kernel
theorem dX11_lastOf_113 : decode cX11_lastOf 113 = .ok (.iload_n 2, 1) := by decide +kernel
theorem dX11_lastOf_114 : decode cX11_lastOf 114 = .ok (.iconst 2, 1) := by decide +kernel
theorem dX11_lastOf_115 : decode cX11_lastOf 115 = .ok (.irem, 1) := by decide +kernel
theorem dX11_lastOf_116 : decode cX11_lastOf 116 = .ok (.imul, 1) := by decide +kernel
theorem dX11_lastOf_117 : decode cX11_lastOf 117 = .ok (.iadd, 1) := by decide +kernel
theorem dX11_lastOf_118 : decode cX11_lastOf 118 = .ok (.iload_n 3, 1) := by decide +kernel
theorem dX11_lastOf_119 : decode cX11_lastOf 119 = .ok (.iconst 4, 1) := by decide +kernel
theorem dX11_lastOf_120 : decode cX11_lastOf 120 = .ok (.idiv, 1) := by decide +kernel
theorem dX11_lastOf_121 : decode cX11_lastOf 121 = .ok (.iadd, 1) := by decide +kernel
theorem dX11_lastOf_122 : decode cX11_lastOf 122 = .ok (.ireturn, 1) := by decide +kernel
theorem dX11_lastOf_123 : decode cX11_lastOf 123 = .ok (.iinc 3 1, 3) := by decide +kernel
theorem dX11_lastOf_126 : decode cX11_lastOf 126 = .ok (.goto (-89), 3) := by decide +kernel
theorem dX11_lastOf_129 : decode cX11_lastOf 129 = .ok (.iinc 2 1, 3) := by decide +kernel
theorem dX11_lastOf_132 : decode cX11_lastOf 132 = .ok (.goto (-103), 3) := by decide +kernel
theorem dX11_lastOf_135 : decode cX11_lastOf 135 = .ok (.bipush (-5), 2) := by decide +kernel
theorem dX11_lastOf_137 : decode cX11_lastOf 137 = .ok (.ireturn, 1) := by decide +kernel
theorem dX11_last_0 : decode cX11_last 0 = .ok (.iload_n 1, 1) := by decide +kernel
theorem dX11_last_1 : decode cX11_last 1 = .ok (.invokestatic 112, 3) := by decide +kernel
theorem dX11_last_4 : decode cX11_last 4 = .ok (.ifCond .eq 10, 3) := by decide +kernel
theorem dX11_last_7 : decode cX11_last 7 = .ok (.iload_n 2, 1) := by decide +kernel
theorem dX11_last_8 : decode cX11_last 8 = .ok (.invokestatic 119, 3) := by decide +kernel
theorem dX11_last_11 : decode cX11_last 11 = .ok (.ifCond .ne 5, 3) := by decide +kernel
theorem dX11_last_14 : decode cX11_last 14 = .ok (.iconst (-1), 1) := by decide +kernel
theorem dX11_last_15 : decode cX11_last 15 = .ok (.ireturn, 1) := by decide +kernel
theorem dX11_last_16 : decode cX11_last 16 = .ok (.aload_n 0, 1) := by decide +kernel
theorem dX11_last_17 : decode cX11_last 17 = .ok (.invokevirtual 136, 3) := by decide +kernel
theorem dX11_last_20 : decode cX11_last 20 = .ok (.aload_n 0, 1) := by decide +kernel
theorem dX11_last_21 : decode cX11_last 21 = .ok (.iconst 2, 1) := by decide +kernel
theorem dX11_last_22 : decode cX11_last 22 = .ok (.iload_n 1, 1) := by decide +kernel
theorem dX11_last_23 : decode cX11_last 23 = .ok (.imul, 1) := by decide +kernel
theorem dX11_last_24 : decode cX11_last 24 = .ok (.iload_n 2, 1) := by decide +kernel
theorem dX11_last_25 : decode cX11_last 25 = .ok (.iadd, 1) := by decide +kernel
theorem dX11_last_26 : decode cX11_last 26 = .ok (.invokevirtual 247, 3) := by decide +kernel
theorem dX11_last_29 : decode cX11_last 29 = .ok (.ireturn, 1) := by decide +kernel
theorem dX11_courseTo_0 : decode cX11_courseTo 0 = .ok (.iconst 2, 1) := by decide +kernel
theorem dX11_courseTo_1 : decode cX11_courseTo 1 = .ok (.iload_n 1, 1) := by decide +kernel
theorem dX11_courseTo_2 : decode cX11_courseTo 2 = .ok (.imul, 1) := by decide +kernel
theorem dX11_courseTo_3 : decode cX11_courseTo 3 = .ok (.aload_n 0, 1) := by decide +kernel
theorem dX11_courseTo_4 : decode cX11_courseTo 4 = .ok (.getfield 66, 3) := by decide +kernel
theorem dX11_courseTo_7 : decode cX11_courseTo 7 = .ok (.iconst 2, 1) := by decide +kernel
theorem dX11_courseTo_8 : decode cX11_courseTo 8 = .ok (.iload_n 1, 1) := by decide +kernel
theorem dX11_courseTo_9 : decode cX11_courseTo 9 = .ok (.imul, 1) := by decide +kernel
theorem dX11_courseTo_10 : decode cX11_courseTo 10 = .ok (.iaload, 1) := by decide +kernel
theorem dX11_courseTo_11 : decode cX11_courseTo 11 = .ok (.ifCond .lt 37, 3) := by decide +kernel
theorem dX11_courseTo_14 : decode cX11_courseTo 14 = .ok (.aload_n 0, 1) := by decide +kernel
theorem dX11_courseTo_15 : decode cX11_courseTo 15 = .ok (.getfield 66, 3) := by decide +kernel
theorem dX11_courseTo_18 : decode cX11_courseTo 18 = .ok (.iconst 2, 1) := by decide +kernel
theorem dX11_courseTo_19 : decode cX11_courseTo 19 = .ok (.iload_n 1, 1) := by decide +kernel
theorem dX11_courseTo_20 : decode cX11_courseTo 20 = .ok (.imul, 1) := by decide +kernel
theorem dX11_courseTo_21 : decode cX11_courseTo 21 = .ok (.iconst 1, 1) := by decide +kernel
theorem dX11_courseTo_22 : decode cX11_courseTo 22 = .ok (.iadd, 1) := by decide +kernel
theorem dX11_courseTo_23 : decode cX11_courseTo 23 = .ok (.iaload, 1) := by decide +kernel
theorem dX11_courseTo_24 : decode cX11_courseTo 24 = .ok (.ifCond .lt 28, 3) := by decide +kernel
theorem dX11_courseTo_27 : decode cX11_courseTo 27 = .ok (.aload_n 0, 1) := by decide +kernel
theorem dX11_courseTo_28 : decode cX11_courseTo 28 = .ok (.getfield 66, 3) := by decide +kernel
theorem dX11_courseTo_31 : decode cX11_courseTo 31 = .ok (.iconst 2, 1) := by decide +kernel
theorem dX11_courseTo_32 : decode cX11_courseTo 32 = .ok (.iload_n 1, 1) := by decide +kernel
theorem dX11_courseTo_33 : decode cX11_courseTo 33 = .ok (.imul, 1) := by decide +kernel
theorem dX11_courseTo_34 : decode cX11_courseTo 34 = .ok (.iconst 1, 1) := by decide +kernel
theorem dX11_courseTo_35 : decode cX11_courseTo 35 = .ok (.iadd, 1) := by decide +kernel
theorem dX11_courseTo_36 : decode cX11_courseTo 36 = .ok (.iaload, 1) := by decide +kernel
theorem dX11_courseTo_37 : decode cX11_courseTo 37 = .ok (.aload_n 0, 1) := by decide +kernel
theorem dX11_courseTo_38 : decode cX11_courseTo 38 = .ok (.getfield 66, 3) := by decide +kernel
theorem dX11_courseTo_41 : decode cX11_courseTo 41 = .ok (.iconst 2, 1) := by decide +kernel
theorem dX11_courseTo_42 : decode cX11_courseTo 42 = .ok (.iload_n 1, 1) := by decide +kernel
theorem dX11_courseTo_43 : decode cX11_courseTo 43 = .ok (.imul, 1) := by decide +kernel
theorem dX11_courseTo_44 : decode cX11_courseTo 44 = .ok (.iaload, 1) := by decide +kernel
theorem dX11_courseTo_45 : decode cX11_courseTo 45 = .ok (.if_icmp .ge 7, 3) := by decide +kernel
theorem dX11_courseTo_48 : decode cX11_courseTo 48 = .ok (.iconst 1, 1) := by decide +kernel
theorem dX11_courseTo_49 : decode cX11_courseTo 49 = .ok (.goto 4, 3) := by decide +kernel
theorem dX11_courseTo_52 : decode cX11_courseTo 52 = .ok (.iconst 0, 1) := by decide +kernel
theorem dX11_courseTo_53 : decode cX11_courseTo 53 = .ok (.iadd, 1) := by decide +kernel
theorem dX11_courseTo_54 : decode cX11_courseTo 54 = .ok (.istore_n 2, 1) := by decide +kernel
theorem dX11_courseTo_55 : decode cX11_courseTo 55 = .ok (.aload_n 0, 1) := by decide +kernel
theorem dX11_courseTo_56 : decode cX11_courseTo 56 = .ok (.iconst 0, 1) := by decide +kernel
theorem dX11_courseTo_57 : decode cX11_courseTo 57 = .ok (.putfield 250, 3) := by decide +kernel
theorem dX11_courseTo_60 : decode cX11_courseTo 60 = .ok (.aload_n 0, 1) := by decide +kernel
theorem dX11_courseTo_61 : decode cX11_courseTo 61 = .ok (.iload_n 2, 1) := by decide +kernel
theorem dX11_courseTo_62 : decode cX11_courseTo 62 = .ok (.invokevirtual 247, 3) := by decide +kernel
theorem dX11_courseTo_65 : decode cX11_courseTo 65 = .ok (.istore_n 3, 1) := by decide +kernel
theorem dX11_courseTo_66 : decode cX11_courseTo 66 = .ok (.iload_n 3, 1) := by decide +kernel
theorem dX11_courseTo_67 : decode cX11_courseTo 67 = .ok (.bipush (-5), 2) := by decide +kernel
theorem dX11_courseTo_69 : decode cX11_courseTo 69 = .ok (.if_icmp .eq 48, 3) := by decide +kernel
theorem dX11_courseTo_72 : decode cX11_courseTo 72 = .ok (.aload_n 0, 1) := by decide +kernel
theorem dX11_courseTo_73 : decode cX11_courseTo 73 = .ok (.getfield 69, 3) := by decide +kernel
theorem dX11_courseTo_76 : decode cX11_courseTo 76 = .ok (.aload_n 0, 1) := by decide +kernel
theorem dX11_courseTo_77 : decode cX11_courseTo 77 = .ok (.getfield 250, 3) := by decide +kernel
theorem dX11_courseTo_80 : decode cX11_courseTo 80 = .ok (.iload_n 3, 1) := by decide +kernel
theorem dX11_courseTo_81 : decode cX11_courseTo 81 = .ok (.bipush 10, 2) := by decide +kernel
theorem dX11_courseTo_83 : decode cX11_courseTo 83 = .ok (.irem, 1) := by decide +kernel
theorem dX11_courseTo_84 : decode cX11_courseTo 84 = .ok (.iastore, 1) := by decide +kernel
theorem dX11_courseTo_85 : decode cX11_courseTo 85 = .ok (.aload_n 0, 1) := by decide +kernel
theorem dX11_courseTo_86 : decode cX11_courseTo 86 = .ok (.dup, 1) := by decide +kernel
theorem dX11_courseTo_87 : decode cX11_courseTo 87 = .ok (.getfield 250, 3) := by decide +kernel
theorem dX11_courseTo_90 : decode cX11_courseTo 90 = .ok (.iconst 1, 1) := by decide +kernel
theorem dX11_courseTo_91 : decode cX11_courseTo 91 = .ok (.iadd, 1) := by decide +kernel
theorem dX11_courseTo_92 : decode cX11_courseTo 92 = .ok (.putfield 250, 3) := by decide +kernel
theorem dX11_courseTo_95 : decode cX11_courseTo 95 = .ok (.aload_n 0, 1) := by decide +kernel
theorem dX11_courseTo_96 : decode cX11_courseTo 96 = .ok (.iconst 2, 1) := by decide +kernel
theorem dX11_courseTo_97 : decode cX11_courseTo 97 = .ok (.iload_n 3, 1) := by decide +kernel
theorem dX11_courseTo_98 : decode cX11_courseTo 98 = .ok (.bipush 100, 2) := by decide +kernel
theorem dX11_courseTo_100 : decode cX11_courseTo 100 = .ok (.idiv, 1) := by decide +kernel
theorem dX11_courseTo_101 : decode cX11_courseTo 101 = .ok (.imul, 1) := by decide +kernel
theorem dX11_courseTo_102 : decode cX11_courseTo 102 = .ok (.iload_n 3, 1) := by decide +kernel
theorem dX11_courseTo_103 : decode cX11_courseTo 103 = .ok (.bipush 10, 2) := by decide +kernel
theorem dX11_courseTo_105 : decode cX11_courseTo 105 = .ok (.idiv, 1) := by decide +kernel
theorem dX11_courseTo_106 : decode cX11_courseTo 106 = .ok (.bipush 10, 2) := by decide +kernel
theorem dX11_courseTo_108 : decode cX11_courseTo 108 = .ok (.irem, 1) := by decide +kernel
theorem dX11_courseTo_109 : decode cX11_courseTo 109 = .ok (.iadd, 1) := by decide +kernel
theorem dX11_courseTo_110 : decode cX11_courseTo 110 = .ok (.invokevirtual 247, 3) := by decide +kernel
theorem dX11_courseTo_113 : decode cX11_courseTo 113 = .ok (.istore_n 3, 1) := by decide +kernel
theorem dX11_courseTo_114 : decode cX11_courseTo 114 = .ok (.goto (-48), 3) := by decide +kernel
theorem dX11_courseTo_117 : decode cX11_courseTo 117 = .ok (.return_, 1) := by decide +kernel
theorem dX11_course_0 : decode cX11_course 0 = .ok (.iload_n 1, 1) := by decide +kernel
theorem dX11_course_1 : decode cX11_course 1 = .ok (.invokestatic 112, 3) := by decide +kernel
theorem dX11_course_4 : decode cX11_course 4 = .ok (.ifCond .eq 8, 3) := by decide +kernel
theorem dX11_course_7 : decode cX11_course 7 = .ok (.iload_n 2, 1) := by decide +kernel
theorem dX11_course_8 : decode cX11_course 8 = .ok (.iconst (-1), 1) := by decide +kernel
theorem dX11_course_9 : decode cX11_course 9 = .ok (.if_icmp .ge 5, 3) := by decide +kernel
theorem dX11_course_12 : decode cX11_course 12 = .ok (.iconst (-1), 1) := by decide +kernel
theorem dX11_course_13 : decode cX11_course 13 = .ok (.ireturn, 1) := by decide +kernel
theorem dX11_course_14 : decode cX11_course 14 = .ok (.aload_n 0, 1) := by decide +kernel
theorem dX11_course_15 : decode cX11_course 15 = .ok (.invokevirtual 136, 3) := by decide +kernel
theorem dX11_course_18 : decode cX11_course 18 = .ok (.aload_n 0, 1) := by decide +kernel
theorem dX11_course_19 : decode cX11_course 19 = .ok (.iload_n 1, 1) := by decide +kernel
theorem dX11_course_20 : decode cX11_course 20 = .ok (.invokevirtual 244, 3) := by decide +kernel
theorem dX11_course_23 : decode cX11_course 23 = .ok (.ifCond .ge 6, 3) := by decide +kernel
theorem dX11_course_26 : decode cX11_course 26 = .ok (.bipush (-5), 2) := by decide +kernel
theorem dX11_course_28 : decode cX11_course 28 = .ok (.ireturn, 1) := by decide +kernel
theorem dX11_course_29 : decode cX11_course 29 = .ok (.aload_n 0, 1) := by decide +kernel
theorem dX11_course_30 : decode cX11_course 30 = .ok (.iload_n 1, 1) := by decide +kernel
theorem dX11_course_31 : decode cX11_course 31 = .ok (.invokevirtual 253, 3) := by decide +kernel
theorem dX11_course_34 : decode cX11_course 34 = .ok (.iload_n 2, 1) := by decide +kernel
theorem dX11_course_35 : decode cX11_course 35 = .ok (.ifCond .ge 8, 3) := by decide +kernel
theorem dX11_course_38 : decode cX11_course 38 = .ok (.aload_n 0, 1) := by decide +kernel
theorem dX11_course_39 : decode cX11_course 39 = .ok (.getfield 250, 3) := by decide +kernel
theorem dX11_course_42 : decode cX11_course 42 = .ok (.ireturn, 1) := by decide +kernel
theorem dX11_course_43 : decode cX11_course 43 = .ok (.iload_n 2, 1) := by decide +kernel
theorem dX11_course_44 : decode cX11_course 44 = .ok (.aload_n 0, 1) := by decide +kernel
theorem dX11_course_45 : decode cX11_course 45 = .ok (.getfield 250, 3) := by decide +kernel
theorem dX11_course_48 : decode cX11_course 48 = .ok (.if_icmp .ge 19, 3) := by decide +kernel
theorem dX11_course_51 : decode cX11_course 51 = .ok (.aload_n 0, 1) := by decide +kernel
theorem dX11_course_52 : decode cX11_course 52 = .ok (.getfield 69, 3) := by decide +kernel
theorem dX11_course_55 : decode cX11_course 55 = .ok (.aload_n 0, 1) := by decide +kernel
theorem dX11_course_56 : decode cX11_course 56 = .ok (.getfield 250, 3) := by decide +kernel
theorem dX11_course_59 : decode cX11_course 59 = .ok (.iconst 1, 1) := by decide +kernel
theorem dX11_course_60 : decode cX11_course 60 = .ok (.isub, 1) := by decide +kernel
theorem dX11_course_61 : decode cX11_course 61 = .ok (.iload_n 2, 1) := by decide +kernel
theorem dX11_course_62 : decode cX11_course 62 = .ok (.isub, 1) := by decide +kernel
theorem dX11_course_63 : decode cX11_course 63 = .ok (.iaload, 1) := by decide +kernel
theorem dX11_course_64 : decode cX11_course 64 = .ok (.goto 5, 3) := by decide +kernel
theorem dX11_course_67 : decode cX11_course 67 = .ok (.bipush (-5), 2) := by decide +kernel
theorem dX11_course_69 : decode cX11_course 69 = .ok (.ireturn, 1) := by decide +kernel
theorem dX11_told_0 : decode cX11_told 0 = .ok (.aload_n 0, 1) := by decide +kernel
theorem dX11_told_1 : decode cX11_told 1 = .ok (.invokevirtual 136, 3) := by decide +kernel
theorem dX11_told_4 : decode cX11_told 4 = .ok (.iload_n 1, 1) := by decide +kernel
theorem dX11_told_5 : decode cX11_told 5 = .ok (.tableswitch 97 0 8 #[51, 51, 58, 63, 68, 73, 78, 83, 92], 51) := by decide +kernel
theorem dX11_told_56 : decode cX11_told 56 = .ok (.aload_n 0, 1) := by decide +kernel
theorem dX11_told_57 : decode cX11_told 57 = .ok (.getfield 30, 3) := by decide +kernel
theorem dX11_told_60 : decode cX11_told 60 = .ok (.iload_n 1, 1) := by decide +kernel
theorem dX11_told_61 : decode cX11_told 61 = .ok (.iaload, 1) := by decide +kernel
theorem dX11_told_62 : decode cX11_told 62 = .ok (.ireturn, 1) := by decide +kernel
theorem dX11_told_63 : decode cX11_told 63 = .ok (.aload_n 0, 1) := by decide +kernel
theorem dX11_told_64 : decode cX11_told 64 = .ok (.getfield 115, 3) := by decide +kernel
theorem dX11_told_67 : decode cX11_told 67 = .ok (.ireturn, 1) := by decide +kernel
theorem dX11_told_68 : decode cX11_told 68 = .ok (.aload_n 0, 1) := by decide +kernel
theorem dX11_told_69 : decode cX11_told 69 = .ok (.getfield 122, 3) := by decide +kernel
theorem dX11_told_72 : decode cX11_told 72 = .ok (.ireturn, 1) := by decide +kernel
theorem dX11_told_73 : decode cX11_told 73 = .ok (.aload_n 0, 1) := by decide +kernel
theorem dX11_told_74 : decode cX11_told 74 = .ok (.getfield 125, 3) := by decide +kernel
theorem dX11_told_77 : decode cX11_told 77 = .ok (.ireturn, 1) := by decide +kernel
theorem dX11_told_78 : decode cX11_told 78 = .ok (.aload_n 0, 1) := by decide +kernel
theorem dX11_told_79 : decode cX11_told 79 = .ok (.invokevirtual 257, 3) := by decide +kernel
theorem dX11_told_82 : decode cX11_told 82 = .ok (.ireturn, 1) := by decide +kernel
theorem dX11_told_83 : decode cX11_told 83 = .ok (.aload_n 0, 1) := by decide +kernel
theorem dX11_told_84 : decode cX11_told 84 = .ok (.invokevirtual 139, 3) := by decide +kernel
theorem dX11_told_87 : decode cX11_told 87 = .ok (.ireturn, 1) := by decide +kernel
theorem dX11_told_88 : decode cX11_told 88 = .ok (.aload_n 0, 1) := by decide +kernel
theorem dX11_told_89 : decode cX11_told 89 = .ok (.aload_n 0, 1) := by decide +kernel
theorem dX11_told_90 : decode cX11_told 90 = .ok (.invokevirtual 260, 3) := by decide +kernel
theorem dX11_told_93 : decode cX11_told 93 = .ok (.invokevirtual 244, 3) := by decide +kernel
theorem dX11_told_96 : decode cX11_told 96 = .ok (.ireturn, 1) := by decide +kernel
theorem dX11_told_97 : decode cX11_told 97 = .ok (.aload_n 0, 1) := by decide +kernel
theorem dX11_told_98 : decode cX11_told 98 = .ok (.invokevirtual 260, 3) := by decide +kernel
theorem dX11_told_101 : decode cX11_told 101 = .ok (.ireturn, 1) := by decide +kernel
theorem dX11_told_102 : decode cX11_told 102 = .ok (.iconst (-1), 1) := by decide +kernel
theorem dX11_told_103 : decode cX11_told 103 = .ok (.ireturn, 1) := by decide +kernel
theorem dX11_sine_0 : decode cX11_sine 0 = .ok (.iload_n 0, 1) := by decide +kernel
theorem dX11_sine_1 : decode cX11_sine 1 = .ok (.tableswitch 51 0 6 #[43, 51, 45, 51, 43, 51, 47], 43) := by decide +kernel
theorem dX11_sine_44 : decode cX11_sine 44 = .ok (.dconst 0, 1) := by decide +kernel
theorem dX11_sine_45 : decode cX11_sine 45 = .ok (.dreturn, 1) := by decide +kernel
theorem dX11_sine_46 : decode cX11_sine 46 = .ok (.dconst 1, 1) := by decide +kernel
theorem dX11_sine_47 : decode cX11_sine 47 = .ok (.dreturn, 1) := by decide +kernel
theorem dX11_sine_48 : decode cX11_sine 48 = .ok (.ldc2_w 263, 3) := by decide +kernel
theorem dX11_sine_51 : decode cX11_sine 51 = .ok (.dreturn, 1) := by decide +kernel
theorem dX11_sine_52 : decode cX11_sine 52 = .ok (.iload_n 0, 1) := by decide +kernel
theorem dX11_sine_53 : decode cX11_sine 53 = .ok (.iconst 4, 1) := by decide +kernel
theorem dX11_sine_54 : decode cX11_sine 54 = .ok (.if_icmp .ge 9, 3) := by decide +kernel
theorem dX11_sine_57 : decode cX11_sine 57 = .ok (.ldc2_w 265, 3) := by decide +kernel
theorem dX11_sine_60 : decode cX11_sine 60 = .ok (.goto 6, 3) := by decide +kernel
theorem dX11_sine_63 : decode cX11_sine 63 = .ok (.ldc2_w 267, 3) := by decide +kernel
theorem dX11_sine_66 : decode cX11_sine 66 = .ok (.dreturn, 1) := by decide +kernel
theorem dX11_cosine_0 : decode cX11_cosine 0 = .ok (.iload_n 0, 1) := by decide +kernel
theorem dX11_cosine_1 : decode cX11_cosine 1 = .ok (.iconst 2, 1) := by decide +kernel
theorem dX11_cosine_2 : decode cX11_cosine 2 = .ok (.iadd, 1) := by decide +kernel
theorem dX11_cosine_3 : decode cX11_cosine 3 = .ok (.bipush 8, 2) := by decide +kernel
theorem dX11_cosine_5 : decode cX11_cosine 5 = .ok (.irem, 1) := by decide +kernel
theorem dX11_cosine_6 : decode cX11_cosine 6 = .ok (.invokestatic 269, 3) := by decide +kernel
theorem dX11_cosine_9 : decode cX11_cosine 9 = .ok (.dreturn, 1) := by decide +kernel
theorem dX11_reckon_0 : decode cX11_reckon 0 = .ok (.iload_n 1, 1) := by decide +kernel
theorem dX11_reckon_1 : decode cX11_reckon 1 = .ok (.iconst 0, 1) := by decide +kernel
theorem dX11_reckon_2 : decode cX11_reckon 2 = .ok (.iconst 1, 1) := by decide +kernel
theorem dX11_reckon_3 : decode cX11_reckon 3 = .ok (.invokestatic 85, 3) := by decide +kernel
theorem dX11_reckon_6 : decode cX11_reckon 6 = .ok (.ifCond .eq 10, 3) := by decide +kernel
theorem dX11_reckon_9 : decode cX11_reckon 9 = .ok (.iload_n 2, 1) := by decide +kernel
theorem dX11_reckon_10 : decode cX11_reckon 10 = .ok (.invokestatic 273, 3) := by decide +kernel
theorem dX11_reckon_13 : decode cX11_reckon 13 = .ok (.ifCond .ne 7, 3) := by decide +kernel
theorem dX11_reckon_16 : decode cX11_reckon 16 = .ok (.ldc2_w 276, 3) := by decide +kernel
theorem dX11_reckon_19 : decode cX11_reckon 19 = .ok (.lreturn, 1) := by decide +kernel
theorem dX11_reckon_20 : decode cX11_reckon 20 = .ok (.dconst 0, 1) := by decide +kernel
theorem dX11_reckon_21 : decode cX11_reckon 21 = .ok (.dstore_n 3, 1) := by decide +kernel
theorem dX11_reckon_22 : decode cX11_reckon 22 = .ok (.dconst 0, 1) := by decide +kernel
theorem dX11_reckon_23 : decode cX11_reckon 23 = .ok (.dstore 5, 2) := by decide +kernel
theorem dX11_reckon_25 : decode cX11_reckon 25 = .ok (.aload_n 0, 1) := by decide +kernel
theorem dX11_reckon_26 : decode cX11_reckon 26 = .ok (.getfield 125, 3) := by decide +kernel
theorem dX11_reckon_29 : decode cX11_reckon 29 = .ok (.istore 7, 2) := by decide +kernel
theorem dX11_reckon_31 : decode cX11_reckon 31 = .ok (.iconst 0, 1) := by decide +kernel
theorem dX11_reckon_32 : decode cX11_reckon 32 = .ok (.istore 8, 2) := by decide +kernel
theorem dX11_reckon_34 : decode cX11_reckon 34 = .ok (.iload 8, 2) := by decide +kernel
theorem dX11_reckon_36 : decode cX11_reckon 36 = .ok (.aload_n 0, 1) := by decide +kernel
theorem dX11_reckon_37 : decode cX11_reckon 37 = .ok (.getfield 143, 3) := by decide +kernel
theorem dX11_reckon_40 : decode cX11_reckon 40 = .ok (.if_icmp .ge 72, 3) := by decide +kernel
theorem dX11_reckon_43 : decode cX11_reckon 43 = .ok (.aload_n 0, 1) := by decide +kernel
theorem dX11_reckon_44 : decode cX11_reckon 44 = .ok (.aload_n 0, 1) := by decide +kernel
theorem dX11_reckon_45 : decode cX11_reckon 45 = .ok (.getfield 115, 3) := by decide +kernel
theorem dX11_reckon_48 : decode cX11_reckon 48 = .ok (.aload_n 0, 1) := by decide +kernel
theorem dX11_reckon_49 : decode cX11_reckon 49 = .ok (.getfield 33, 3) := by decide +kernel
theorem dX11_reckon_52 : decode cX11_reckon 52 = .ok (.iload 8, 2) := by decide +kernel
theorem dX11_reckon_54 : decode cX11_reckon 54 = .ok (.iaload, 1) := by decide +kernel
theorem dX11_reckon_55 : decode cX11_reckon 55 = .ok (.iload 7, 2) := by decide +kernel
theorem dX11_reckon_57 : decode cX11_reckon 57 = .ok (.invokevirtual 213, 3) := by decide +kernel
theorem dX11_reckon_60 : decode cX11_reckon 60 = .ok (.i2f, 1) := by decide +kernel
theorem dX11_reckon_61 : decode cX11_reckon 61 = .ok (.ldc_w 278, 3) := by decide +kernel
theorem dX11_reckon_64 : decode cX11_reckon 64 = .ok (.fdiv, 1) := by decide +kernel
theorem dX11_reckon_65 : decode cX11_reckon 65 = .ok (.fstore 9, 2) := by decide +kernel
theorem dX11_reckon_67 : decode cX11_reckon 67 = .ok (.dload_n 3, 1) := by decide +kernel
theorem dX11_reckon_68 : decode cX11_reckon 68 = .ok (.fload 9, 2) := by decide +kernel
theorem dX11_reckon_70 : decode cX11_reckon 70 = .ok (.f2d, 1) := by decide +kernel
theorem dX11_reckon_71 : decode cX11_reckon 71 = .ok (.aload_n 0, 1) := by decide +kernel
theorem dX11_reckon_72 : decode cX11_reckon 72 = .ok (.getfield 33, 3) := by decide +kernel
theorem dX11_reckon_75 : decode cX11_reckon 75 = .ok (.iload 8, 2) := by decide +kernel
theorem dX11_reckon_77 : decode cX11_reckon 77 = .ok (.iaload, 1) := by decide +kernel
theorem dX11_reckon_78 : decode cX11_reckon 78 = .ok (.invokestatic 269, 3) := by decide +kernel
theorem dX11_reckon_81 : decode cX11_reckon 81 = .ok (.dmul, 1) := by decide +kernel
theorem dX11_reckon_82 : decode cX11_reckon 82 = .ok (.dadd, 1) := by decide +kernel
theorem dX11_reckon_83 : decode cX11_reckon 83 = .ok (.dstore_n 3, 1) := by decide +kernel
theorem dX11_reckon_84 : decode cX11_reckon 84 = .ok (.dload 5, 2) := by decide +kernel
theorem dX11_reckon_86 : decode cX11_reckon 86 = .ok (.fload 9, 2) := by decide +kernel
theorem dX11_reckon_88 : decode cX11_reckon 88 = .ok (.f2d, 1) := by decide +kernel
theorem dX11_reckon_89 : decode cX11_reckon 89 = .ok (.aload_n 0, 1) := by decide +kernel
theorem dX11_reckon_90 : decode cX11_reckon 90 = .ok (.getfield 33, 3) := by decide +kernel
theorem dX11_reckon_93 : decode cX11_reckon 93 = .ok (.iload 8, 2) := by decide +kernel
theorem dX11_reckon_95 : decode cX11_reckon 95 = .ok (.iaload, 1) := by decide +kernel
theorem dX11_reckon_96 : decode cX11_reckon 96 = .ok (.invokestatic 279, 3) := by decide +kernel
theorem dX11_reckon_99 : decode cX11_reckon 99 = .ok (.dmul, 1) := by decide +kernel
theorem dX11_reckon_100 : decode cX11_reckon 100 = .ok (.dadd, 1) := by decide +kernel
theorem dX11_reckon_101 : decode cX11_reckon 101 = .ok (.dstore 5, 2) := by decide +kernel
theorem dX11_reckon_103 : decode cX11_reckon 103 = .ok (.iinc 7 10, 3) := by decide +kernel
theorem dX11_reckon_106 : decode cX11_reckon 106 = .ok (.iinc 8 1, 3) := by decide +kernel
theorem dX11_reckon_109 : decode cX11_reckon 109 = .ok (.goto (-75), 3) := by decide +kernel
theorem dX11_reckon_112 : decode cX11_reckon 112 = .ok (.iload_n 1, 1) := by decide +kernel
theorem dX11_reckon_113 : decode cX11_reckon 113 = .ok (.ifCond .ne 7, 3) := by decide +kernel
theorem dX11_reckon_116 : decode cX11_reckon 116 = .ok (.dload_n 3, 1) := by decide +kernel
theorem dX11_reckon_117 : decode cX11_reckon 117 = .ok (.goto 5, 3) := by decide +kernel
theorem dX11_reckon_120 : decode cX11_reckon 120 = .ok (.dload 5, 2) := by decide +kernel
theorem dX11_reckon_122 : decode cX11_reckon 122 = .ok (.invokestatic 282, 3) := by decide +kernel
theorem dX11_reckon_125 : decode cX11_reckon 125 = .ok (.lstore 8, 2) := by decide +kernel
theorem dX11_reckon_127 : decode cX11_reckon 127 = .ok (.iload_n 2, 1) := by decide +kernel
theorem dX11_reckon_128 : decode cX11_reckon 128 = .ok (.ifCond .ne 11, 3) := by decide +kernel
theorem dX11_reckon_131 : decode cX11_reckon 131 = .ok (.lload 8, 2) := by decide +kernel
theorem dX11_reckon_133 : decode cX11_reckon 133 = .ok (.bipush 32, 2) := by decide +kernel
theorem dX11_reckon_135 : decode cX11_reckon 135 = .ok (.lushr, 1) := by decide +kernel
theorem dX11_reckon_136 : decode cX11_reckon 136 = .ok (.goto 9, 3) := by decide +kernel
theorem dX11_reckon_139 : decode cX11_reckon 139 = .ok (.lload 8, 2) := by decide +kernel
theorem dX11_reckon_141 : decode cX11_reckon 141 = .ok (.ldc2_w 288, 3) := by decide +kernel
theorem dX11_reckon_144 : decode cX11_reckon 144 = .ok (.land, 1) := by decide +kernel
theorem dX11_reckon_145 : decode cX11_reckon 145 = .ok (.lreturn, 1) := by decide +kernel
theorem dX11_meanPace_0 : decode cX11_meanPace 0 = .ok (.iload_n 1, 1) := by decide +kernel
theorem dX11_meanPace_1 : decode cX11_meanPace 1 = .ok (.invokestatic 112, 3) := by decide +kernel
theorem dX11_meanPace_4 : decode cX11_meanPace 4 = .ok (.ifCond .ne 7, 3) := by decide +kernel
theorem dX11_meanPace_7 : decode cX11_meanPace 7 = .ok (.ldc2_w 276, 3) := by decide +kernel
theorem dX11_meanPace_10 : decode cX11_meanPace 10 = .ok (.lreturn, 1) := by decide +kernel
theorem dX11_meanPace_11 : decode cX11_meanPace 11 = .ok (.aload_n 0, 1) := by decide +kernel
theorem dX11_meanPace_12 : decode cX11_meanPace 12 = .ok (.invokevirtual 136, 3) := by decide +kernel
theorem dX11_meanPace_15 : decode cX11_meanPace 15 = .ok (.aload_n 0, 1) := by decide +kernel
theorem dX11_meanPace_16 : decode cX11_meanPace 16 = .ok (.iload_n 1, 1) := by decide +kernel
theorem dX11_meanPace_17 : decode cX11_meanPace 17 = .ok (.invokevirtual 244, 3) := by decide +kernel
theorem dX11_meanPace_20 : decode cX11_meanPace 20 = .ok (.ifCond .ge 7, 3) := by decide +kernel
theorem dX11_meanPace_23 : decode cX11_meanPace 23 = .ok (.ldc2_w 276, 3) := by decide +kernel
theorem dX11_meanPace_26 : decode cX11_meanPace 26 = .ok (.lreturn, 1) := by decide +kernel
theorem dX11_meanPace_27 : decode cX11_meanPace 27 = .ok (.aload_n 0, 1) := by decide +kernel
theorem dX11_meanPace_28 : decode cX11_meanPace 28 = .ok (.iload_n 1, 1) := by decide +kernel
theorem dX11_meanPace_29 : decode cX11_meanPace 29 = .ok (.invokevirtual 253, 3) := by decide +kernel
theorem dX11_meanPace_32 : decode cX11_meanPace 32 = .ok (.iconst 0, 1) := by decide +kernel
theorem dX11_meanPace_33 : decode cX11_meanPace 33 = .ok (.istore_n 2, 1) := by decide +kernel
theorem dX11_meanPace_34 : decode cX11_meanPace 34 = .ok (.iconst 0, 1) := by decide +kernel
theorem dX11_meanPace_35 : decode cX11_meanPace 35 = .ok (.istore_n 3, 1) := by decide +kernel
theorem dX11_meanPace_36 : decode cX11_meanPace 36 = .ok (.iload_n 3, 1) := by decide +kernel
theorem dX11_meanPace_37 : decode cX11_meanPace 37 = .ok (.aload_n 0, 1) := by decide +kernel
theorem dX11_meanPace_38 : decode cX11_meanPace 38 = .ok (.getfield 250, 3) := by decide +kernel
theorem dX11_meanPace_41 : decode cX11_meanPace 41 = .ok (.if_icmp .ge 21, 3) := by decide +kernel
theorem dX11_meanPace_44 : decode cX11_meanPace 44 = .ok (.iload_n 2, 1) := by decide +kernel
theorem dX11_meanPace_45 : decode cX11_meanPace 45 = .ok (.aload_n 0, 1) := by decide +kernel
theorem dX11_meanPace_46 : decode cX11_meanPace 46 = .ok (.getfield 69, 3) := by decide +kernel
theorem dX11_meanPace_49 : decode cX11_meanPace 49 = .ok (.iload_n 3, 1) := by decide +kernel
theorem dX11_meanPace_50 : decode cX11_meanPace 50 = .ok (.iaload, 1) := by decide +kernel
theorem dX11_meanPace_51 : decode cX11_meanPace 51 = .ok (.invokestatic 225, 3) := by decide +kernel
theorem dX11_meanPace_54 : decode cX11_meanPace 54 = .ok (.iadd, 1) := by decide +kernel
theorem dX11_meanPace_55 : decode cX11_meanPace 55 = .ok (.istore_n 2, 1) := by decide +kernel
theorem dX11_meanPace_56 : decode cX11_meanPace 56 = .ok (.iinc 3 1, 3) := by decide +kernel
theorem dX11_meanPace_59 : decode cX11_meanPace 59 = .ok (.goto (-23), 3) := by decide +kernel
theorem dX11_meanPace_62 : decode cX11_meanPace 62 = .ok (.aload_n 0, 1) := by decide +kernel
theorem dX11_meanPace_63 : decode cX11_meanPace 63 = .ok (.iload_n 1, 1) := by decide +kernel
theorem dX11_meanPace_64 : decode cX11_meanPace 64 = .ok (.invokevirtual 244, 3) := by decide +kernel
theorem dX11_meanPace_67 : decode cX11_meanPace 67 = .ok (.aload_n 0, 1) := by decide +kernel
theorem dX11_meanPace_68 : decode cX11_meanPace 68 = .ok (.getfield 125, 3) := by decide +kernel
theorem dX11_meanPace_71 : decode cX11_meanPace 71 = .ok (.isub, 1) := by decide +kernel
theorem dX11_meanPace_72 : decode cX11_meanPace 72 = .ok (.istore_n 3, 1) := by decide +kernel
theorem dX11_meanPace_73 : decode cX11_meanPace 73 = .ok (.iload_n 3, 1) := by decide +kernel
theorem dX11_meanPace_74 : decode cX11_meanPace 74 = .ok (.ifCond .ne 7, 3) := by decide +kernel
theorem dX11_meanPace_77 : decode cX11_meanPace 77 = .ok (.fconst 0, 1) := by decide +kernel
theorem dX11_meanPace_78 : decode cX11_meanPace 78 = .ok (.goto 8, 3) := by decide +kernel
theorem dX11_meanPace_81 : decode cX11_meanPace 81 = .ok (.iload_n 2, 1) := by decide +kernel
theorem dX11_meanPace_82 : decode cX11_meanPace 82 = .ok (.i2f, 1) := by decide +kernel
theorem dX11_meanPace_83 : decode cX11_meanPace 83 = .ok (.iload_n 3, 1) := by decide +kernel
theorem dX11_meanPace_84 : decode cX11_meanPace 84 = .ok (.i2f, 1) := by decide +kernel
theorem dX11_meanPace_85 : decode cX11_meanPace 85 = .ok (.fdiv, 1) := by decide +kernel
theorem dX11_meanPace_86 : decode cX11_meanPace 86 = .ok (.fstore 4, 2) := by decide +kernel
theorem dX11_meanPace_88 : decode cX11_meanPace 88 = .ok (.fload 4, 2) := by decide +kernel
theorem dX11_meanPace_90 : decode cX11_meanPace 90 = .ok (.invokestatic 290, 3) := by decide +kernel
theorem dX11_meanPace_93 : decode cX11_meanPace 93 = .ok (.i2l, 1) := by decide +kernel
theorem dX11_meanPace_94 : decode cX11_meanPace 94 = .ok (.lreturn, 1) := by decide +kernel
theorem dX11_see_0 : decode cX11_see 0 = .ok (.iload_n 1, 1) := by decide +kernel
theorem dX11_see_1 : decode cX11_see 1 = .ok (.iconst (-1), 1) := by decide +kernel
theorem dX11_see_2 : decode cX11_see 2 = .ok (.if_icmp .ne 10, 3) := by decide +kernel
theorem dX11_see_5 : decode cX11_see 5 = .ok (.aload_n 0, 1) := by decide +kernel
theorem dX11_see_6 : decode cX11_see 6 = .ok (.iconst 0, 1) := by decide +kernel
theorem dX11_see_7 : decode cX11_see 7 = .ok (.putfield 296, 3) := by decide +kernel
theorem dX11_see_10 : decode cX11_see 10 = .ok (.iconst 0, 1) := by decide +kernel
theorem dX11_see_11 : decode cX11_see 11 = .ok (.ireturn, 1) := by decide +kernel
theorem dX11_see_12 : decode cX11_see 12 = .ok (.iload_n 1, 1) := by decide +kernel
theorem dX11_see_13 : decode cX11_see 13 = .ok (.invokestatic 112, 3) := by decide +kernel
theorem dX11_see_16 : decode cX11_see 16 = .ok (.ifCond .ne 5, 3) := by decide +kernel
theorem dX11_see_19 : decode cX11_see 19 = .ok (.iconst (-1), 1) := by decide +kernel
theorem dX11_see_20 : decode cX11_see 20 = .ok (.ireturn, 1) := by decide +kernel
theorem dX11_see_21 : decode cX11_see 21 = .ok (.iload_n 2, 1) := by decide +kernel
theorem dX11_see_22 : decode cX11_see 22 = .ok (.iconst 0, 1) := by decide +kernel
theorem dX11_see_23 : decode cX11_see 23 = .ok (.ldc_w 299, 3) := by decide +kernel
theorem dX11_see_26 : decode cX11_see 26 = .ok (.invokestatic 85, 3) := by decide +kernel
theorem dX11_see_29 : decode cX11_see 29 = .ok (.ifCond .ne 6, 3) := by decide +kernel
theorem dX11_see_32 : decode cX11_see 32 = .ok (.bipush (-2), 2) := by decide +kernel
theorem dX11_see_34 : decode cX11_see 34 = .ok (.ireturn, 1) := by decide +kernel
theorem dX11_see_35 : decode cX11_see 35 = .ok (.aload_n 0, 1) := by decide +kernel
theorem dX11_see_36 : decode cX11_see 36 = .ok (.getfield 296, 3) := by decide +kernel
theorem dX11_see_39 : decode cX11_see 39 = .ok (.iconst 5, 1) := by decide +kernel
theorem dX11_see_40 : decode cX11_see 40 = .ok (.if_icmp .ne 6, 3) := by decide +kernel
theorem dX11_see_43 : decode cX11_see 43 = .ok (.bipush (-4), 2) := by decide +kernel
theorem dX11_see_45 : decode cX11_see 45 = .ok (.ireturn, 1) := by decide +kernel
theorem dX11_see_46 : decode cX11_see 46 = .ok (.aload_n 0, 1) := by decide +kernel
theorem dX11_see_47 : decode cX11_see 47 = .ok (.getfield 36, 3) := by decide +kernel
theorem dX11_see_50 : decode cX11_see 50 = .ok (.aload_n 0, 1) := by decide +kernel
theorem dX11_see_51 : decode cX11_see 51 = .ok (.getfield 296, 3) := by decide +kernel
theorem dX11_see_54 : decode cX11_see 54 = .ok (.iload_n 1, 1) := by decide +kernel
theorem dX11_see_55 : decode cX11_see 55 = .ok (.iastore, 1) := by decide +kernel
theorem dX11_see_56 : decode cX11_see 56 = .ok (.aload_n 0, 1) := by decide +kernel
theorem dX11_see_57 : decode cX11_see 57 = .ok (.getfield 39, 3) := by decide +kernel
theorem dX11_see_60 : decode cX11_see 60 = .ok (.aload_n 0, 1) := by decide +kernel
theorem dX11_see_61 : decode cX11_see 61 = .ok (.getfield 296, 3) := by decide +kernel
theorem dX11_see_64 : decode cX11_see 64 = .ok (.iload_n 2, 1) := by decide +kernel
theorem dX11_see_65 : decode cX11_see 65 = .ok (.iastore, 1) := by decide +kernel
theorem dX11_see_66 : decode cX11_see 66 = .ok (.aload_n 0, 1) := by decide +kernel
theorem dX11_see_67 : decode cX11_see 67 = .ok (.dup, 1) := by decide +kernel
theorem dX11_see_68 : decode cX11_see 68 = .ok (.getfield 296, 3) := by decide +kernel
theorem dX11_see_71 : decode cX11_see 71 = .ok (.iconst 1, 1) := by decide +kernel
theorem dX11_see_72 : decode cX11_see 72 = .ok (.iadd, 1) := by decide +kernel
theorem dX11_see_73 : decode cX11_see 73 = .ok (.putfield 296, 3) := by decide +kernel
theorem dX11_see_76 : decode cX11_see 76 = .ok (.aload_n 0, 1) := by decide +kernel
theorem dX11_see_77 : decode cX11_see 77 = .ok (.getfield 296, 3) := by decide +kernel
theorem dX11_see_80 : decode cX11_see 80 = .ok (.ireturn, 1) := by decide +kernel
theorem dX11_isBy_0 : decode cX11_isBy 0 = .ok (.aload_n 0, 1) := by decide +kernel
theorem dX11_isBy_1 : decode cX11_isBy 1 = .ok (.iload_n 1, 1) := by decide +kernel
theorem dX11_isBy_2 : decode cX11_isBy 2 = .ok (.invokevirtual 244, 3) := by decide +kernel
theorem dX11_isBy_5 : decode cX11_isBy 5 = .ok (.ifCond .lt 16, 3) := by decide +kernel
theorem dX11_isBy_8 : decode cX11_isBy 8 = .ok (.aload_n 0, 1) := by decide +kernel
theorem dX11_isBy_9 : decode cX11_isBy 9 = .ok (.iload_n 1, 1) := by decide +kernel
theorem dX11_isBy_10 : decode cX11_isBy 10 = .ok (.invokevirtual 244, 3) := by decide +kernel
theorem dX11_isBy_13 : decode cX11_isBy 13 = .ok (.iload_n 2, 1) := by decide +kernel
theorem dX11_isBy_14 : decode cX11_isBy 14 = .ok (.if_icmp .gt 7, 3) := by decide +kernel
theorem dX11_isBy_17 : decode cX11_isBy 17 = .ok (.iconst 1, 1) := by decide +kernel
theorem dX11_isBy_18 : decode cX11_isBy 18 = .ok (.goto 4, 3) := by decide +kernel
theorem dX11_isBy_21 : decode cX11_isBy 21 = .ok (.iconst 0, 1) := by decide +kernel
theorem dX11_isBy_22 : decode cX11_isBy 22 = .ok (.ireturn, 1) := by decide +kernel
theorem dX11_allSeen_0 : decode cX11_allSeen 0 = .ok (.iconst 0, 1) := by decide +kernel
theorem dX11_allSeen_1 : decode cX11_allSeen 1 = .ok (.istore_n 1, 1) := by decide +kernel
theorem dX11_allSeen_2 : decode cX11_allSeen 2 = .ok (.iload_n 1, 1) := by decide +kernel
theorem dX11_allSeen_3 : decode cX11_allSeen 3 = .ok (.aload_n 0, 1) := by decide +kernel
theorem dX11_allSeen_4 : decode cX11_allSeen 4 = .ok (.getfield 296, 3) := by decide +kernel
theorem dX11_allSeen_7 : decode cX11_allSeen 7 = .ok (.if_icmp .ge 30, 3) := by decide +kernel
theorem dX11_allSeen_10 : decode cX11_allSeen 10 = .ok (.aload_n 0, 1) := by decide +kernel
theorem dX11_allSeen_11 : decode cX11_allSeen 11 = .ok (.aload_n 0, 1) := by decide +kernel
theorem dX11_allSeen_12 : decode cX11_allSeen 12 = .ok (.getfield 36, 3) := by decide +kernel
theorem dX11_allSeen_15 : decode cX11_allSeen 15 = .ok (.iload_n 1, 1) := by decide +kernel
theorem dX11_allSeen_16 : decode cX11_allSeen 16 = .ok (.iaload, 1) := by decide +kernel
theorem dX11_allSeen_17 : decode cX11_allSeen 17 = .ok (.aload_n 0, 1) := by decide +kernel
theorem dX11_allSeen_18 : decode cX11_allSeen 18 = .ok (.getfield 39, 3) := by decide +kernel
theorem dX11_allSeen_21 : decode cX11_allSeen 21 = .ok (.iload_n 1, 1) := by decide +kernel
theorem dX11_allSeen_22 : decode cX11_allSeen 22 = .ok (.iaload, 1) := by decide +kernel
theorem dX11_allSeen_23 : decode cX11_allSeen 23 = .ok (.invokevirtual 300, 3) := by decide +kernel
theorem dX11_allSeen_26 : decode cX11_allSeen 26 = .ok (.ifCond .ne 5, 3) := by decide +kernel
theorem dX11_allSeen_29 : decode cX11_allSeen 29 = .ok (.iconst 0, 1) := by decide +kernel
theorem dX11_allSeen_30 : decode cX11_allSeen 30 = .ok (.ireturn, 1) := by decide +kernel
theorem dX11_allSeen_31 : decode cX11_allSeen 31 = .ok (.iinc 1 1, 3) := by decide +kernel
theorem dX11_allSeen_34 : decode cX11_allSeen 34 = .ok (.goto (-32), 3) := by decide +kernel
theorem dX11_allSeen_37 : decode cX11_allSeen 37 = .ok (.iconst 1, 1) := by decide +kernel
theorem dX11_allSeen_38 : decode cX11_allSeen 38 = .ok (.ireturn, 1) := by decide +kernel
theorem dX11_fits_0 : decode cX11_fits 0 = .ok (.iload_n 1, 1) := by decide +kernel
theorem dX11_fits_1 : decode cX11_fits 1 = .ok (.invokestatic 95, 3) := by decide +kernel
theorem dX11_fits_4 : decode cX11_fits 4 = .ok (.ifCond .eq 19, 3) := by decide +kernel
theorem dX11_fits_7 : decode cX11_fits 7 = .ok (.iload_n 2, 1) := by decide +kernel
theorem dX11_fits_8 : decode cX11_fits 8 = .ok (.invokestatic 99, 3) := by decide +kernel
theorem dX11_fits_11 : decode cX11_fits 11 = .ok (.ifCond .eq 12, 3) := by decide +kernel
theorem dX11_fits_14 : decode cX11_fits 14 = .ok (.iload_n 3, 1) := by decide +kernel
theorem dX11_fits_15 : decode cX11_fits 15 = .ok (.iconst 0, 1) := by decide +kernel
theorem dX11_fits_16 : decode cX11_fits 16 = .ok (.iconst 1, 1) := by decide +kernel
theorem dX11_fits_17 : decode cX11_fits 17 = .ok (.invokestatic 85, 3) := by decide +kernel
theorem dX11_fits_20 : decode cX11_fits 20 = .ok (.ifCond .ne 5, 3) := by decide +kernel
theorem dX11_fits_23 : decode cX11_fits 23 = .ok (.iconst (-1), 1) := by decide +kernel
theorem dX11_fits_24 : decode cX11_fits 24 = .ok (.ireturn, 1) := by decide +kernel
theorem dX11_fits_25 : decode cX11_fits 25 = .ok (.aload_n 0, 1) := by decide +kernel
theorem dX11_fits_26 : decode cX11_fits 26 = .ok (.getfield 15, 3) := by decide +kernel
theorem dX11_fits_29 : decode cX11_fits 29 = .ok (.iconst 4, 1) := by decide +kernel
theorem dX11_fits_30 : decode cX11_fits 30 = .ok (.iload_n 1, 1) := by decide +kernel
theorem dX11_fits_31 : decode cX11_fits 31 = .ok (.imul, 1) := by decide +kernel
theorem dX11_fits_32 : decode cX11_fits 32 = .ok (.iload_n 2, 1) := by decide +kernel
theorem dX11_fits_33 : decode cX11_fits 33 = .ok (.iadd, 1) := by decide +kernel
theorem dX11_fits_34 : decode cX11_fits 34 = .ok (.iaload, 1) := by decide +kernel
theorem dX11_fits_35 : decode cX11_fits 35 = .ok (.istore 4, 2) := by decide +kernel
theorem dX11_fits_37 : decode cX11_fits 37 = .ok (.iconst 0, 1) := by decide +kernel
theorem dX11_fits_38 : decode cX11_fits 38 = .ok (.istore 5, 2) := by decide +kernel
theorem dX11_fits_40 : decode cX11_fits 40 = .ok (.bipush (-5), 2) := by decide +kernel
theorem dX11_fits_42 : decode cX11_fits 42 = .ok (.istore 6, 2) := by decide +kernel
theorem dX11_fits_44 : decode cX11_fits 44 = .ok (.bipush 7, 2) := by decide +kernel
theorem dX11_fits_46 : decode cX11_fits 46 = .ok (.istore 7, 2) := by decide +kernel
theorem dX11_fits_48 : decode cX11_fits 48 = .ok (.iload 7, 2) := by decide +kernel
theorem dX11_fits_50 : decode cX11_fits 50 = .ok (.ifCond .lt 39, 3) := by decide +kernel
theorem dX11_fits_53 : decode cX11_fits 53 = .ok (.aload_n 0, 1) := by decide +kernel
theorem dX11_fits_54 : decode cX11_fits 54 = .ok (.getfield 15, 3) := by decide +kernel
theorem dX11_fits_57 : decode cX11_fits 57 = .ok (.iconst 4, 1) := by decide +kernel
theorem dX11_fits_58 : decode cX11_fits 58 = .ok (.iload_n 1, 1) := by decide +kernel
theorem dX11_fits_59 : decode cX11_fits 59 = .ok (.imul, 1) := by decide +kernel
theorem dX11_fits_60 : decode cX11_fits 60 = .ok (.iload_n 2, 1) := by decide +kernel
theorem dX11_fits_61 : decode cX11_fits 61 = .ok (.iadd, 1) := by decide +kernel
theorem dX11_fits_62 : decode cX11_fits 62 = .ok (.iload 7, 2) := by decide +kernel
theorem dX11_fits_64 : decode cX11_fits 64 = .ok (.iastore, 1) := by decide +kernel
theorem dX11_fits_65 : decode cX11_fits 65 = .ok (.aload_n 0, 1) := by decide +kernel
theorem dX11_fits_66 : decode cX11_fits 66 = .ok (.invokevirtual 136, 3) := by decide +kernel
theorem dX11_fits_69 : decode cX11_fits 69 = .ok (.aload_n 0, 1) := by decide +kernel
theorem dX11_fits_70 : decode cX11_fits 70 = .ok (.invokevirtual 303, 3) := by decide +kernel
theorem dX11_fits_73 : decode cX11_fits 73 = .ok (.ifCond .eq 10, 3) := by decide +kernel
theorem dX11_fits_76 : decode cX11_fits 76 = .ok (.iinc 5 1, 3) := by decide +kernel
theorem dX11_fits_79 : decode cX11_fits 79 = .ok (.iload 7, 2) := by decide +kernel
theorem dX11_fits_81 : decode cX11_fits 81 = .ok (.istore 6, 2) := by decide +kernel
theorem dX11_fits_83 : decode cX11_fits 83 = .ok (.iinc 7 (-1), 3) := by decide +kernel
theorem dX11_fits_86 : decode cX11_fits 86 = .ok (.goto (-38), 3) := by decide +kernel
theorem dX11_fits_89 : decode cX11_fits 89 = .ok (.aload_n 0, 1) := by decide +kernel
theorem dX11_fits_90 : decode cX11_fits 90 = .ok (.getfield 15, 3) := by decide +kernel
theorem dX11_fits_93 : decode cX11_fits 93 = .ok (.iconst 4, 1) := by decide +kernel
theorem dX11_fits_94 : decode cX11_fits 94 = .ok (.iload_n 1, 1) := by decide +kernel
theorem dX11_fits_95 : decode cX11_fits 95 = .ok (.imul, 1) := by decide +kernel
theorem dX11_fits_96 : decode cX11_fits 96 = .ok (.iload_n 2, 1) := by decide +kernel
theorem dX11_fits_97 : decode cX11_fits 97 = .ok (.iadd, 1) := by decide +kernel
theorem dX11_fits_98 : decode cX11_fits 98 = .ok (.iload 4, 2) := by decide +kernel
theorem dX11_fits_100 : decode cX11_fits 100 = .ok (.iastore, 1) := by decide +kernel
theorem dX11_fits_101 : decode cX11_fits 101 = .ok (.iload_n 3, 1) := by decide +kernel
theorem dX11_fits_102 : decode cX11_fits 102 = .ok (.ifCond .ne 8, 3) := by decide +kernel
theorem dX11_fits_105 : decode cX11_fits 105 = .ok (.iload 5, 2) := by decide +kernel
theorem dX11_fits_107 : decode cX11_fits 107 = .ok (.goto 5, 3) := by decide +kernel
theorem dX11_fits_110 : decode cX11_fits 110 = .ok (.iload 6, 2) := by decide +kernel
theorem dX11_fits_112 : decode cX11_fits 112 = .ok (.ireturn, 1) := by decide +kernel
theorem dX11_divisor_0 : decode cX11_divisor 0 = .ok (.lload_n 0, 1) := by decide +kernel
theorem dX11_divisor_1 : decode cX11_divisor 1 = .ok (.lstore 4, 2) := by decide +kernel
theorem dX11_divisor_3 : decode cX11_divisor 3 = .ok (.lload_n 2, 1) := by decide +kernel
theorem dX11_divisor_4 : decode cX11_divisor 4 = .ok (.lstore 6, 2) := by decide +kernel
theorem dX11_divisor_6 : decode cX11_divisor 6 = .ok (.lload 6, 2) := by decide +kernel
theorem dX11_divisor_8 : decode cX11_divisor 8 = .ok (.lconst 0, 1) := by decide +kernel
theorem dX11_divisor_9 : decode cX11_divisor 9 = .ok (.lcmp, 1) := by decide +kernel
theorem dX11_divisor_10 : decode cX11_divisor 10 = .ok (.ifCond .eq 21, 3) := by decide +kernel
theorem dX11_divisor_13 : decode cX11_divisor 13 = .ok (.lload 4, 2) := by decide +kernel
theorem dX11_divisor_15 : decode cX11_divisor 15 = .ok (.lload 6, 2) := by decide +kernel
theorem dX11_divisor_17 : decode cX11_divisor 17 = .ok (.lrem, 1) := by decide +kernel
theorem dX11_divisor_18 : decode cX11_divisor 18 = .ok (.lstore 8, 2) := by decide +kernel
theorem dX11_divisor_20 : decode cX11_divisor 20 = .ok (.lload 6, 2) := by decide +kernel
theorem dX11_divisor_22 : decode cX11_divisor 22 = .ok (.lstore 4, 2) := by decide +kernel
theorem dX11_divisor_24 : decode cX11_divisor 24 = .ok (.lload 8, 2) := by decide +kernel
theorem dX11_divisor_26 : decode cX11_divisor 26 = .ok (.lstore 6, 2) := by decide +kernel
theorem dX11_divisor_28 : decode cX11_divisor 28 = .ok (.goto (-22), 3) := by decide +kernel
theorem dX11_divisor_31 : decode cX11_divisor 31 = .ok (.lload 4, 2) := by decide +kernel
theorem dX11_divisor_33 : decode cX11_divisor 33 = .ok (.lreturn, 1) := by decide +kernel
theorem dX11_part_0 : decode cX11_part 0 = .ok (.iload 4, 2) := by decide +kernel
theorem dX11_part_2 : decode cX11_part 2 = .ok (.ifCond .ne 7, 3) := by decide +kernel
theorem dX11_part_5 : decode cX11_part 5 = .ok (.lload_n 0, 1) := by decide +kernel
theorem dX11_part_6 : decode cX11_part 6 = .ok (.goto 4, 3) := by decide +kernel
theorem dX11_part_9 : decode cX11_part 9 = .ok (.lload_n 2, 1) := by decide +kernel
theorem dX11_part_10 : decode cX11_part 10 = .ok (.lload_n 0, 1) := by decide +kernel
theorem dX11_part_11 : decode cX11_part 11 = .ok (.lload_n 2, 1) := by decide +kernel
theorem dX11_part_12 : decode cX11_part 12 = .ok (.invokestatic 306, 3) := by decide +kernel
theorem dX11_part_15 : decode cX11_part 15 = .ok (.ldiv, 1) := by decide +kernel
theorem dX11_part_16 : decode cX11_part 16 = .ok (.lreturn, 1) := by decide +kernel
theorem dX11_odds_0 : decode cX11_odds 0 = .ok (.iload_n 1, 1) := by decide +kernel
theorem dX11_odds_1 : decode cX11_odds 1 = .ok (.invokestatic 95, 3) := by decide +kernel
theorem dX11_odds_4 : decode cX11_odds 4 = .ok (.ifCond .eq 37, 3) := by decide +kernel
theorem dX11_odds_7 : decode cX11_odds 7 = .ok (.iload_n 2, 1) := by decide +kernel
theorem dX11_odds_8 : decode cX11_odds 8 = .ok (.invokestatic 99, 3) := by decide +kernel
theorem dX11_odds_11 : decode cX11_odds 11 = .ok (.ifCond .eq 30, 3) := by decide +kernel
theorem dX11_odds_14 : decode cX11_odds 14 = .ok (.iload_n 3, 1) := by decide +kernel
theorem dX11_odds_15 : decode cX11_odds 15 = .ok (.invokestatic 112, 3) := by decide +kernel
theorem dX11_odds_18 : decode cX11_odds 18 = .ok (.ifCond .eq 23, 3) := by decide +kernel
theorem dX11_odds_21 : decode cX11_odds 21 = .ok (.iload 4, 2) := by decide +kernel
theorem dX11_odds_23 : decode cX11_odds 23 = .ok (.iconst 0, 1) := by decide +kernel
theorem dX11_odds_24 : decode cX11_odds 24 = .ok (.ldc_w 299, 3) := by decide +kernel
theorem dX11_odds_27 : decode cX11_odds 27 = .ok (.invokestatic 85, 3) := by decide +kernel
theorem dX11_odds_30 : decode cX11_odds 30 = .ok (.ifCond .eq 11, 3) := by decide +kernel
theorem dX11_odds_33 : decode cX11_odds 33 = .ok (.iload 5, 2) := by decide +kernel
theorem dX11_odds_35 : decode cX11_odds 35 = .ok (.invokestatic 273, 3) := by decide +kernel
theorem dX11_odds_38 : decode cX11_odds 38 = .ok (.ifCond .ne 7, 3) := by decide +kernel
theorem dX11_odds_41 : decode cX11_odds 41 = .ok (.ldc2_w 276, 3) := by decide +kernel
theorem dX11_odds_44 : decode cX11_odds 44 = .ok (.lreturn, 1) := by decide +kernel
theorem dX11_odds_45 : decode cX11_odds 45 = .ok (.aload_n 0, 1) := by decide +kernel
theorem dX11_odds_46 : decode cX11_odds 46 = .ok (.getfield 15, 3) := by decide +kernel
theorem dX11_odds_49 : decode cX11_odds 49 = .ok (.iconst 4, 1) := by decide +kernel
theorem dX11_odds_50 : decode cX11_odds 50 = .ok (.iload_n 1, 1) := by decide +kernel
theorem dX11_odds_51 : decode cX11_odds 51 = .ok (.imul, 1) := by decide +kernel
theorem dX11_odds_52 : decode cX11_odds 52 = .ok (.iload_n 2, 1) := by decide +kernel
theorem dX11_odds_53 : decode cX11_odds 53 = .ok (.iadd, 1) := by decide +kernel
theorem dX11_odds_54 : decode cX11_odds 54 = .ok (.iaload, 1) := by decide +kernel
theorem dX11_odds_55 : decode cX11_odds 55 = .ok (.istore 6, 2) := by decide +kernel
theorem dX11_odds_57 : decode cX11_odds 57 = .ok (.iconst 0, 1) := by decide +kernel
theorem dX11_odds_58 : decode cX11_odds 58 = .ok (.istore 7, 2) := by decide +kernel
theorem dX11_odds_60 : decode cX11_odds 60 = .ok (.iconst 0, 1) := by decide +kernel
theorem dX11_odds_61 : decode cX11_odds 61 = .ok (.istore 8, 2) := by decide +kernel
theorem dX11_odds_63 : decode cX11_odds 63 = .ok (.iload 8, 2) := by decide +kernel
theorem dX11_odds_65 : decode cX11_odds 65 = .ok (.bipush 8, 2) := by decide +kernel
theorem dX11_odds_67 : decode cX11_odds 67 = .ok (.if_icmp .ge 45, 3) := by decide +kernel
theorem dX11_odds_70 : decode cX11_odds 70 = .ok (.aload_n 0, 1) := by decide +kernel
theorem dX11_odds_71 : decode cX11_odds 71 = .ok (.getfield 15, 3) := by decide +kernel
theorem dX11_odds_74 : decode cX11_odds 74 = .ok (.iconst 4, 1) := by decide +kernel
theorem dX11_odds_75 : decode cX11_odds 75 = .ok (.iload_n 1, 1) := by decide +kernel
theorem dX11_odds_76 : decode cX11_odds 76 = .ok (.imul, 1) := by decide +kernel
theorem dX11_odds_77 : decode cX11_odds 77 = .ok (.iload_n 2, 1) := by decide +kernel
theorem dX11_odds_78 : decode cX11_odds 78 = .ok (.iadd, 1) := by decide +kernel
theorem dX11_odds_79 : decode cX11_odds 79 = .ok (.iload 8, 2) := by decide +kernel
theorem dX11_odds_81 : decode cX11_odds 81 = .ok (.iastore, 1) := by decide +kernel
theorem dX11_odds_82 : decode cX11_odds 82 = .ok (.aload_n 0, 1) := by decide +kernel
theorem dX11_odds_83 : decode cX11_odds 83 = .ok (.invokevirtual 136, 3) := by decide +kernel
theorem dX11_odds_86 : decode cX11_odds 86 = .ok (.iload 7, 2) := by decide +kernel
theorem dX11_odds_88 : decode cX11_odds 88 = .ok (.aload_n 0, 1) := by decide +kernel
theorem dX11_odds_89 : decode cX11_odds 89 = .ok (.iload_n 3, 1) := by decide +kernel
theorem dX11_odds_90 : decode cX11_odds 90 = .ok (.iload 4, 2) := by decide +kernel
theorem dX11_odds_92 : decode cX11_odds 92 = .ok (.invokevirtual 300, 3) := by decide +kernel
theorem dX11_odds_95 : decode cX11_odds 95 = .ok (.ifCond .eq 7, 3) := by decide +kernel
theorem dX11_odds_98 : decode cX11_odds 98 = .ok (.iconst 1, 1) := by decide +kernel
theorem dX11_odds_99 : decode cX11_odds 99 = .ok (.goto 4, 3) := by decide +kernel
theorem dX11_odds_102 : decode cX11_odds 102 = .ok (.iconst 0, 1) := by decide +kernel
theorem dX11_odds_103 : decode cX11_odds 103 = .ok (.iadd, 1) := by decide +kernel
theorem dX11_odds_104 : decode cX11_odds 104 = .ok (.istore 7, 2) := by decide +kernel
theorem dX11_odds_106 : decode cX11_odds 106 = .ok (.iinc 8 1, 3) := by decide +kernel
theorem dX11_odds_109 : decode cX11_odds 109 = .ok (.goto (-46), 3) := by decide +kernel
theorem dX11_odds_112 : decode cX11_odds 112 = .ok (.aload_n 0, 1) := by decide +kernel
theorem dX11_odds_113 : decode cX11_odds 113 = .ok (.getfield 15, 3) := by decide +kernel
theorem dX11_odds_116 : decode cX11_odds 116 = .ok (.iconst 4, 1) := by decide +kernel
theorem dX11_odds_117 : decode cX11_odds 117 = .ok (.iload_n 1, 1) := by decide +kernel
theorem dX11_odds_118 : decode cX11_odds 118 = .ok (.imul, 1) := by decide +kernel
theorem dX11_odds_119 : decode cX11_odds 119 = .ok (.iload_n 2, 1) := by decide +kernel
theorem dX11_odds_120 : decode cX11_odds 120 = .ok (.iadd, 1) := by decide +kernel
theorem dX11_odds_121 : decode cX11_odds 121 = .ok (.iload 6, 2) := by decide +kernel
theorem dX11_odds_123 : decode cX11_odds 123 = .ok (.iastore, 1) := by decide +kernel
theorem dX11_odds_124 : decode cX11_odds 124 = .ok (.iload 7, 2) := by decide +kernel
theorem dX11_odds_126 : decode cX11_odds 126 = .ok (.i2l, 1) := by decide +kernel
theorem dX11_odds_127 : decode cX11_odds 127 = .ok (.ldc2_w 310, 3) := by decide +kernel
theorem dX11_odds_130 : decode cX11_odds 130 = .ok (.iload 5, 2) := by decide +kernel
theorem dX11_odds_132 : decode cX11_odds 132 = .ok (.invokestatic 312, 3) := by decide +kernel
theorem dX11_odds_135 : decode cX11_odds 135 = .ok (.lreturn, 1) := by decide +kernel
theorem dX11_allLeast_0 : decode cX11_allLeast 0 = .ok (.iconst 0, 1) := by decide +kernel
theorem dX11_allLeast_1 : decode cX11_allLeast 1 = .ok (.istore_n 1, 1) := by decide +kernel
theorem dX11_allLeast_2 : decode cX11_allLeast 2 = .ok (.iconst 0, 1) := by decide +kernel
theorem dX11_allLeast_3 : decode cX11_allLeast 3 = .ok (.istore_n 2, 1) := by decide +kernel
theorem dX11_allLeast_4 : decode cX11_allLeast 4 = .ok (.iload_n 2, 1) := by decide +kernel
theorem dX11_allLeast_5 : decode cX11_allLeast 5 = .ok (.bipush 36, 2) := by decide +kernel
theorem dX11_allLeast_7 : decode cX11_allLeast 7 = .ok (.if_icmp .ge 21, 3) := by decide +kernel
theorem dX11_allLeast_10 : decode cX11_allLeast 10 = .ok (.iload_n 1, 1) := by decide +kernel
theorem dX11_allLeast_11 : decode cX11_allLeast 11 = .ok (.iconst 0, 1) := by decide +kernel
theorem dX11_allLeast_12 : decode cX11_allLeast 12 = .ok (.aload_n 0, 1) := by decide +kernel
theorem dX11_allLeast_13 : decode cX11_allLeast 13 = .ok (.iload_n 2, 1) := by decide +kernel
theorem dX11_allLeast_14 : decode cX11_allLeast 14 = .ok (.invokevirtual 244, 3) := by decide +kernel
theorem dX11_allLeast_17 : decode cX11_allLeast 17 = .ok (.invokestatic 210, 3) := by decide +kernel
theorem dX11_allLeast_20 : decode cX11_allLeast 20 = .ok (.iadd, 1) := by decide +kernel
theorem dX11_allLeast_21 : decode cX11_allLeast 21 = .ok (.istore_n 1, 1) := by decide +kernel
theorem dX11_allLeast_22 : decode cX11_allLeast 22 = .ok (.iinc 2 1, 3) := by decide +kernel
theorem dX11_allLeast_25 : decode cX11_allLeast 25 = .ok (.goto (-21), 3) := by decide +kernel
theorem dX11_allLeast_28 : decode cX11_allLeast 28 = .ok (.iload_n 1, 1) := by decide +kernel
theorem dX11_allLeast_29 : decode cX11_allLeast 29 = .ok (.ireturn, 1) := by decide +kernel
theorem dX11_mean_0 : decode cX11_mean 0 = .ok (.iload_n 1, 1) := by decide +kernel
theorem dX11_mean_1 : decode cX11_mean 1 = .ok (.invokestatic 273, 3) := by decide +kernel
theorem dX11_mean_4 : decode cX11_mean 4 = .ok (.ifCond .ne 7, 3) := by decide +kernel
theorem dX11_mean_7 : decode cX11_mean 7 = .ok (.ldc2_w 276, 3) := by decide +kernel
theorem dX11_mean_10 : decode cX11_mean 10 = .ok (.lreturn, 1) := by decide +kernel
theorem dX11_mean_11 : decode cX11_mean 11 = .ok (.aload_n 0, 1) := by decide +kernel
theorem dX11_mean_12 : decode cX11_mean 12 = .ok (.invokevirtual 136, 3) := by decide +kernel
theorem dX11_mean_15 : decode cX11_mean 15 = .ok (.aload_n 0, 1) := by decide +kernel
theorem dX11_mean_16 : decode cX11_mean 16 = .ok (.invokevirtual 316, 3) := by decide +kernel
theorem dX11_mean_19 : decode cX11_mean 19 = .ok (.i2l, 1) := by decide +kernel
theorem dX11_mean_20 : decode cX11_mean 20 = .ok (.aload_n 0, 1) := by decide +kernel
theorem dX11_mean_21 : decode cX11_mean 21 = .ok (.invokevirtual 139, 3) := by decide +kernel
theorem dX11_mean_24 : decode cX11_mean 24 = .ok (.i2l, 1) := by decide +kernel
theorem dX11_mean_25 : decode cX11_mean 25 = .ok (.aload_n 0, 1) := by decide +kernel
theorem dX11_mean_26 : decode cX11_mean 26 = .ok (.getfield 125, 3) := by decide +kernel
theorem dX11_mean_29 : decode cX11_mean 29 = .ok (.i2l, 1) := by decide +kernel
theorem dX11_mean_30 : decode cX11_mean 30 = .ok (.lmul, 1) := by decide +kernel
theorem dX11_mean_31 : decode cX11_mean 31 = .ok (.lsub, 1) := by decide +kernel
theorem dX11_mean_32 : decode cX11_mean 32 = .ok (.aload_n 0, 1) := by decide +kernel
theorem dX11_mean_33 : decode cX11_mean 33 = .ok (.invokevirtual 139, 3) := by decide +kernel
theorem dX11_mean_36 : decode cX11_mean 36 = .ok (.i2l, 1) := by decide +kernel
theorem dX11_mean_37 : decode cX11_mean 37 = .ok (.iload_n 1, 1) := by decide +kernel
theorem dX11_mean_38 : decode cX11_mean 38 = .ok (.invokestatic 312, 3) := by decide +kernel
theorem dX11_mean_41 : decode cX11_mean 41 = .ok (.lreturn, 1) := by decide +kernel
theorem dX11_event_0 : decode cX11_event 0 = .ok (.iload_n 1, 1) := by decide +kernel
theorem dX11_event_1 : decode cX11_event 1 = .ok (.iconst (-1), 1) := by decide +kernel
theorem dX11_event_2 : decode cX11_event 2 = .ok (.if_icmp .ne 10, 3) := by decide +kernel
theorem dX11_event_5 : decode cX11_event 5 = .ok (.aload_n 0, 1) := by decide +kernel
theorem dX11_event_6 : decode cX11_event 6 = .ok (.iconst 0, 1) := by decide +kernel
theorem dX11_event_7 : decode cX11_event 7 = .ok (.putfield 319, 3) := by decide +kernel
theorem dX11_event_10 : decode cX11_event 10 = .ok (.iconst 0, 1) := by decide +kernel
theorem dX11_event_11 : decode cX11_event 11 = .ok (.ireturn, 1) := by decide +kernel
theorem dX11_event_12 : decode cX11_event 12 = .ok (.iload_n 1, 1) := by decide +kernel
theorem dX11_event_13 : decode cX11_event 13 = .ok (.iconst 0, 1) := by decide +kernel
theorem dX11_event_14 : decode cX11_event 14 = .ok (.iconst 3, 1) := by decide +kernel
theorem dX11_event_15 : decode cX11_event 15 = .ok (.invokestatic 85, 3) := by decide +kernel
theorem dX11_event_18 : decode cX11_event 18 = .ok (.ifCond .eq 15, 3) := by decide +kernel
theorem dX11_event_21 : decode cX11_event 21 = .ok (.iload_n 1, 1) := by decide +kernel
theorem dX11_event_22 : decode cX11_event 22 = .ok (.iconst 2, 1) := by decide +kernel
theorem dX11_event_23 : decode cX11_event 23 = .ok (.if_icmp .eq 12, 3) := by decide +kernel
theorem dX11_event_26 : decode cX11_event 26 = .ok (.iload_n 2, 1) := by decide +kernel
theorem dX11_event_27 : decode cX11_event 27 = .ok (.invokestatic 95, 3) := by decide +kernel
theorem dX11_event_30 : decode cX11_event 30 = .ok (.ifCond .ne 5, 3) := by decide +kernel
theorem dX11_event_33 : decode cX11_event 33 = .ok (.iconst (-1), 1) := by decide +kernel
theorem dX11_event_34 : decode cX11_event 34 = .ok (.ireturn, 1) := by decide +kernel
theorem dX11_event_35 : decode cX11_event 35 = .ok (.iload_n 1, 1) := by decide +kernel
theorem dX11_event_36 : decode cX11_event 36 = .ok (.iconst 2, 1) := by decide +kernel
theorem dX11_event_37 : decode cX11_event 37 = .ok (.if_icmp .ne 13, 3) := by decide +kernel
theorem dX11_event_40 : decode cX11_event 40 = .ok (.iload_n 2, 1) := by decide +kernel
theorem dX11_event_41 : decode cX11_event 41 = .ok (.invokestatic 102, 3) := by decide +kernel
theorem dX11_event_44 : decode cX11_event 44 = .ok (.ifCond .ne 6, 3) := by decide +kernel
theorem dX11_event_47 : decode cX11_event 47 = .ok (.bipush (-2), 2) := by decide +kernel
theorem dX11_event_49 : decode cX11_event 49 = .ok (.ireturn, 1) := by decide +kernel
theorem dX11_event_50 : decode cX11_event 50 = .ok (.aload_n 0, 1) := by decide +kernel
theorem dX11_event_51 : decode cX11_event 51 = .ok (.getfield 319, 3) := by decide +kernel
theorem dX11_event_54 : decode cX11_event 54 = .ok (.bipush 8, 2) := by decide +kernel
theorem dX11_event_56 : decode cX11_event 56 = .ok (.if_icmp .ne 6, 3) := by decide +kernel
theorem dX11_event_59 : decode cX11_event 59 = .ok (.bipush (-4), 2) := by decide +kernel
theorem dX11_event_61 : decode cX11_event 61 = .ok (.ireturn, 1) := by decide +kernel
theorem dX11_event_62 : decode cX11_event 62 = .ok (.aload_n 0, 1) := by decide +kernel
theorem dX11_event_63 : decode cX11_event 63 = .ok (.getfield 42, 3) := by decide +kernel
theorem dX11_event_66 : decode cX11_event 66 = .ok (.aload_n 0, 1) := by decide +kernel
theorem dX11_event_67 : decode cX11_event 67 = .ok (.getfield 319, 3) := by decide +kernel
theorem dX11_event_70 : decode cX11_event 70 = .ok (.iload_n 1, 1) := by decide +kernel
theorem dX11_event_71 : decode cX11_event 71 = .ok (.iastore, 1) := by decide +kernel
theorem dX11_event_72 : decode cX11_event 72 = .ok (.aload_n 0, 1) := by decide +kernel
theorem dX11_event_73 : decode cX11_event 73 = .ok (.getfield 45, 3) := by decide +kernel
theorem dX11_event_76 : decode cX11_event 76 = .ok (.aload_n 0, 1) := by decide +kernel
theorem dX11_event_77 : decode cX11_event 77 = .ok (.getfield 319, 3) := by decide +kernel
theorem dX11_event_80 : decode cX11_event 80 = .ok (.iload_n 2, 1) := by decide +kernel
theorem dX11_event_81 : decode cX11_event 81 = .ok (.iastore, 1) := by decide +kernel
theorem dX11_event_82 : decode cX11_event 82 = .ok (.aload_n 0, 1) := by decide +kernel
theorem dX11_event_83 : decode cX11_event 83 = .ok (.dup, 1) := by decide +kernel
theorem dX11_event_84 : decode cX11_event 84 = .ok (.getfield 319, 3) := by decide +kernel
theorem dX11_event_87 : decode cX11_event 87 = .ok (.iconst 1, 1) := by decide +kernel
theorem dX11_event_88 : decode cX11_event 88 = .ok (.iadd, 1) := by decide +kernel
theorem dX11_event_89 : decode cX11_event 89 = .ok (.putfield 319, 3) := by decide +kernel
theorem dX11_event_92 : decode cX11_event 92 = .ok (.aload_n 0, 1) := by decide +kernel
theorem dX11_event_93 : decode cX11_event 93 = .ok (.getfield 319, 3) := by decide +kernel
theorem dX11_event_96 : decode cX11_event 96 = .ok (.ireturn, 1) := by decide +kernel
theorem dX11_happens_0 : decode cX11_happens 0 = .ok (.iconst 0, 1) := by decide +kernel
theorem dX11_happens_1 : decode cX11_happens 1 = .ok (.istore_n 3, 1) := by decide +kernel
theorem dX11_happens_2 : decode cX11_happens 2 = .ok (.iload_n 3, 1) := by decide +kernel
theorem dX11_happens_3 : decode cX11_happens 3 = .ok (.bipush 16, 2) := by decide +kernel
theorem dX11_happens_5 : decode cX11_happens 5 = .ok (.if_icmp .ge 84, 3) := by decide +kernel
theorem dX11_happens_8 : decode cX11_happens 8 = .ok (.iload_n 3, 1) := by decide +kernel
theorem dX11_happens_9 : decode cX11_happens 9 = .ok (.iconst 4, 1) := by decide +kernel
theorem dX11_happens_10 : decode cX11_happens 10 = .ok (.idiv, 1) := by decide +kernel
theorem dX11_happens_11 : decode cX11_happens 11 = .ok (.iload_n 2, 1) := by decide +kernel
theorem dX11_happens_12 : decode cX11_happens 12 = .ok (.if_icmp .ne 7, 3) := by decide +kernel
theorem dX11_happens_15 : decode cX11_happens 15 = .ok (.iconst 1, 1) := by decide +kernel
theorem dX11_happens_16 : decode cX11_happens 16 = .ok (.goto 4, 3) := by decide +kernel
theorem dX11_happens_19 : decode cX11_happens 19 = .ok (.iconst 0, 1) := by decide +kernel
theorem dX11_happens_20 : decode cX11_happens 20 = .ok (.istore 4, 2) := by decide +kernel
theorem dX11_happens_22 : decode cX11_happens 22 = .ok (.iload_n 1, 1) := by decide +kernel
theorem dX11_happens_23 : decode cX11_happens 23 = .ok (.iconst 2, 1) := by decide +kernel
theorem dX11_happens_24 : decode cX11_happens 24 = .ok (.if_icmp .ne 23, 3) := by decide +kernel
theorem dX11_happens_27 : decode cX11_happens 27 = .ok (.aload_n 0, 1) := by decide +kernel
theorem dX11_happens_28 : decode cX11_happens 28 = .ok (.getfield 15, 3) := by decide +kernel
theorem dX11_happens_31 : decode cX11_happens 31 = .ok (.iload_n 3, 1) := by decide +kernel
theorem dX11_happens_32 : decode cX11_happens 32 = .ok (.aload_n 0, 1) := by decide +kernel
theorem dX11_happens_33 : decode cX11_happens 33 = .ok (.getfield 15, 3) := by decide +kernel
theorem dX11_happens_36 : decode cX11_happens 36 = .ok (.iload_n 3, 1) := by decide +kernel
theorem dX11_happens_37 : decode cX11_happens 37 = .ok (.iaload, 1) := by decide +kernel
theorem dX11_happens_38 : decode cX11_happens 38 = .ok (.iload_n 2, 1) := by decide +kernel
theorem dX11_happens_39 : decode cX11_happens 39 = .ok (.iadd, 1) := by decide +kernel
theorem dX11_happens_40 : decode cX11_happens 40 = .ok (.bipush 8, 2) := by decide +kernel
theorem dX11_happens_42 : decode cX11_happens 42 = .ok (.irem, 1) := by decide +kernel
theorem dX11_happens_43 : decode cX11_happens 43 = .ok (.iastore, 1) := by decide +kernel
theorem dX11_happens_44 : decode cX11_happens 44 = .ok (.goto 39, 3) := by decide +kernel
theorem dX11_happens_47 : decode cX11_happens 47 = .ok (.iload 4, 2) := by decide +kernel
theorem dX11_happens_49 : decode cX11_happens 49 = .ok (.ifCond .eq 34, 3) := by decide +kernel
theorem dX11_happens_52 : decode cX11_happens 52 = .ok (.iload_n 1, 1) := by decide +kernel
theorem dX11_happens_53 : decode cX11_happens 53 = .ok (.iconst 2, 1) := by decide +kernel
theorem dX11_happens_54 : decode cX11_happens 54 = .ok (.if_icmp .ge 29, 3) := by decide +kernel
theorem dX11_happens_57 : decode cX11_happens 57 = .ok (.aload_n 0, 1) := by decide +kernel
theorem dX11_happens_58 : decode cX11_happens 58 = .ok (.getfield 18, 3) := by decide +kernel
theorem dX11_happens_61 : decode cX11_happens 61 = .ok (.iload_n 3, 1) := by decide +kernel
theorem dX11_happens_62 : decode cX11_happens 62 = .ok (.iload_n 1, 1) := by decide +kernel
theorem dX11_happens_63 : decode cX11_happens 63 = .ok (.ifCond .ne 7, 3) := by decide +kernel
theorem dX11_happens_66 : decode cX11_happens 66 = .ok (.iconst 0, 1) := by decide +kernel
theorem dX11_happens_67 : decode cX11_happens 67 = .ok (.goto 15, 3) := by decide +kernel
theorem dX11_happens_70 : decode cX11_happens 70 = .ok (.iconst 3, 1) := by decide +kernel
theorem dX11_happens_71 : decode cX11_happens 71 = .ok (.aload_n 0, 1) := by decide +kernel
theorem dX11_happens_72 : decode cX11_happens 72 = .ok (.getfield 18, 3) := by decide +kernel
theorem dX11_happens_75 : decode cX11_happens 75 = .ok (.iload_n 3, 1) := by decide +kernel
theorem dX11_happens_76 : decode cX11_happens 76 = .ok (.iaload, 1) := by decide +kernel
theorem dX11_happens_77 : decode cX11_happens 77 = .ok (.iconst 1, 1) := by decide +kernel
theorem dX11_happens_78 : decode cX11_happens 78 = .ok (.iadd, 1) := by decide +kernel
theorem dX11_happens_79 : decode cX11_happens 79 = .ok (.invokestatic 89, 3) := by decide +kernel
theorem dX11_happens_82 : decode cX11_happens 82 = .ok (.iastore, 1) := by decide +kernel
theorem dX11_happens_83 : decode cX11_happens 83 = .ok (.iinc 3 1, 3) := by decide +kernel
theorem dX11_happens_86 : decode cX11_happens 86 = .ok (.goto (-84), 3) := by decide +kernel
theorem dX11_happens_89 : decode cX11_happens 89 = .ok (.iload_n 1, 1) := by decide +kernel
theorem dX11_happens_90 : decode cX11_happens 90 = .ok (.iconst 3, 1) := by decide +kernel
theorem dX11_happens_91 : decode cX11_happens 91 = .ok (.if_icmp .ne 10, 3) := by decide +kernel
theorem dX11_happens_94 : decode cX11_happens 94 = .ok (.aload_n 0, 1) := by decide +kernel
theorem dX11_happens_95 : decode cX11_happens 95 = .ok (.getfield 27, 3) := by decide +kernel
theorem dX11_happens_98 : decode cX11_happens 98 = .ok (.iload_n 2, 1) := by decide +kernel
theorem dX11_happens_99 : decode cX11_happens 99 = .ok (.iconst 0, 1) := by decide +kernel
theorem dX11_happens_100 : decode cX11_happens 100 = .ok (.iastore, 1) := by decide +kernel
theorem dX11_happens_101 : decode cX11_happens 101 = .ok (.return_, 1) := by decide +kernel
theorem dX11_after_0 : decode cX11_after 0 = .ok (.iload_n 1, 1) := by decide +kernel
theorem dX11_after_1 : decode cX11_after 1 = .ok (.iconst 0, 1) := by decide +kernel
theorem dX11_after_2 : decode cX11_after 2 = .ok (.iconst 2, 1) := by decide +kernel
theorem dX11_after_3 : decode cX11_after 3 = .ok (.invokestatic 85, 3) := by decide +kernel
theorem dX11_after_6 : decode cX11_after 6 = .ok (.ifCond .ne 5, 3) := by decide +kernel
theorem dX11_after_9 : decode cX11_after 9 = .ok (.iconst (-1), 1) := by decide +kernel
theorem dX11_after_10 : decode cX11_after 10 = .ok (.ireturn, 1) := by decide +kernel
theorem dX11_after_11 : decode cX11_after 11 = .ok (.aload_n 0, 1) := by decide +kernel
theorem dX11_after_12 : decode cX11_after 12 = .ok (.aload_n 0, 1) := by decide +kernel
theorem dX11_after_13 : decode cX11_after 13 = .ok (.getfield 57, 3) := by decide +kernel
theorem dX11_after_16 : decode cX11_after 16 = .ok (.invokevirtual 322, 3) := by decide +kernel
theorem dX11_after_19 : decode cX11_after 19 = .ok (.iconst 0, 1) := by decide +kernel
theorem dX11_after_20 : decode cX11_after 20 = .ok (.istore_n 2, 1) := by decide +kernel
theorem dX11_after_21 : decode cX11_after 21 = .ok (.iload_n 2, 1) := by decide +kernel
theorem dX11_after_22 : decode cX11_after 22 = .ok (.aload_n 0, 1) := by decide +kernel
theorem dX11_after_23 : decode cX11_after 23 = .ok (.getfield 319, 3) := by decide +kernel
theorem dX11_after_26 : decode cX11_after 26 = .ok (.if_icmp .ge 25, 3) := by decide +kernel
theorem dX11_after_29 : decode cX11_after 29 = .ok (.aload_n 0, 1) := by decide +kernel
theorem dX11_after_30 : decode cX11_after 30 = .ok (.aload_n 0, 1) := by decide +kernel
theorem dX11_after_31 : decode cX11_after 31 = .ok (.getfield 42, 3) := by decide +kernel
theorem dX11_after_34 : decode cX11_after 34 = .ok (.iload_n 2, 1) := by decide +kernel
theorem dX11_after_35 : decode cX11_after 35 = .ok (.iaload, 1) := by decide +kernel
theorem dX11_after_36 : decode cX11_after 36 = .ok (.aload_n 0, 1) := by decide +kernel
theorem dX11_after_37 : decode cX11_after 37 = .ok (.getfield 45, 3) := by decide +kernel
theorem dX11_after_40 : decode cX11_after 40 = .ok (.iload_n 2, 1) := by decide +kernel
theorem dX11_after_41 : decode cX11_after 41 = .ok (.iaload, 1) := by decide +kernel
theorem dX11_after_42 : decode cX11_after 42 = .ok (.invokevirtual 326, 3) := by decide +kernel
theorem dX11_after_45 : decode cX11_after 45 = .ok (.iinc 2 1, 3) := by decide +kernel
theorem dX11_after_48 : decode cX11_after 48 = .ok (.goto (-27), 3) := by decide +kernel
theorem dX11_after_51 : decode cX11_after 51 = .ok (.aload_n 0, 1) := by decide +kernel
theorem dX11_after_52 : decode cX11_after 52 = .ok (.invokevirtual 136, 3) := by decide +kernel
theorem dX11_after_55 : decode cX11_after 55 = .ok (.iload_n 1, 1) := by decide +kernel
theorem dX11_after_56 : decode cX11_after 56 = .ok (.ifCond .ne 12, 3) := by decide +kernel
theorem dX11_after_59 : decode cX11_after 59 = .ok (.aload_n 0, 1) := by decide +kernel
theorem dX11_after_60 : decode cX11_after 60 = .ok (.bipush 35, 2) := by decide +kernel
theorem dX11_after_62 : decode cX11_after 62 = .ok (.invokevirtual 244, 3) := by decide +kernel
theorem dX11_after_65 : decode cX11_after 65 = .ok (.goto 19, 3) := by decide +kernel
theorem dX11_after_68 : decode cX11_after 68 = .ok (.iload_n 1, 1) := by decide +kernel
theorem dX11_after_69 : decode cX11_after 69 = .ok (.iconst 1, 1) := by decide +kernel
theorem dX11_after_70 : decode cX11_after 70 = .ok (.if_icmp .ne 10, 3) := by decide +kernel
theorem dX11_after_73 : decode cX11_after 73 = .ok (.aload_n 0, 1) := by decide +kernel
theorem dX11_after_74 : decode cX11_after 74 = .ok (.invokevirtual 139, 3) := by decide +kernel
theorem dX11_after_77 : decode cX11_after 77 = .ok (.goto 7, 3) := by decide +kernel
theorem dX11_after_80 : decode cX11_after 80 = .ok (.aload_n 0, 1) := by decide +kernel
theorem dX11_after_81 : decode cX11_after 81 = .ok (.invokevirtual 316, 3) := by decide +kernel
theorem dX11_after_84 : decode cX11_after 84 = .ok (.istore_n 2, 1) := by decide +kernel
theorem dX11_after_85 : decode cX11_after 85 = .ok (.aload_n 0, 1) := by decide +kernel
theorem dX11_after_86 : decode cX11_after 86 = .ok (.aload_n 0, 1) := by decide +kernel
theorem dX11_after_87 : decode cX11_after 87 = .ok (.getfield 57, 3) := by decide +kernel
theorem dX11_after_90 : decode cX11_after 90 = .ok (.invokevirtual 330, 3) := by decide +kernel
theorem dX11_after_93 : decode cX11_after 93 = .ok (.iload_n 1, 1) := by decide +kernel
theorem dX11_after_94 : decode cX11_after 94 = .ok (.ifCond .ne 12, 3) := by decide +kernel
theorem dX11_after_97 : decode cX11_after 97 = .ok (.iload_n 2, 1) := by decide +kernel
theorem dX11_after_98 : decode cX11_after 98 = .ok (.ifCond .ge 8, 3) := by decide +kernel
theorem dX11_after_101 : decode cX11_after 101 = .ok (.bipush (-5), 2) := by decide +kernel
theorem dX11_after_103 : decode cX11_after 103 = .ok (.goto 4, 3) := by decide +kernel
theorem dX11_after_106 : decode cX11_after 106 = .ok (.iload_n 2, 1) := by decide +kernel
theorem dX11_after_107 : decode cX11_after 107 = .ok (.ireturn, 1) := by decide +kernel
theorem dX11_book_0 : decode cX11_book 0 = .ok (.iload_n 1, 1) := by decide +kernel
theorem dX11_book_1 : decode cX11_book 1 = .ok (.iconst (-1), 1) := by decide +kernel
theorem dX11_book_2 : decode cX11_book 2 = .ok (.if_icmp .ne 10, 3) := by decide +kernel
theorem dX11_book_5 : decode cX11_book 5 = .ok (.aload_n 0, 1) := by decide +kernel
theorem dX11_book_6 : decode cX11_book 6 = .ok (.iconst 0, 1) := by decide +kernel
theorem dX11_book_7 : decode cX11_book 7 = .ok (.putfield 333, 3) := by decide +kernel
theorem dX11_book_10 : decode cX11_book 10 = .ok (.iconst 0, 1) := by decide +kernel
theorem dX11_book_11 : decode cX11_book 11 = .ok (.ireturn, 1) := by decide +kernel
theorem dX11_book_12 : decode cX11_book 12 = .ok (.iload_n 1, 1) := by decide +kernel
theorem dX11_book_13 : decode cX11_book 13 = .ok (.invokestatic 112, 3) := by decide +kernel
theorem dX11_book_16 : decode cX11_book 16 = .ok (.ifCond .ne 5, 3) := by decide +kernel
theorem dX11_book_19 : decode cX11_book 19 = .ok (.iconst (-1), 1) := by decide +kernel
theorem dX11_book_20 : decode cX11_book 20 = .ok (.ireturn, 1) := by decide +kernel
theorem dX11_book_21 : decode cX11_book 21 = .ok (.iload_n 2, 1) := by decide +kernel
theorem dX11_book_22 : decode cX11_book 22 = .ok (.iconst 0, 1) := by decide +kernel
theorem dX11_book_23 : decode cX11_book 23 = .ok (.ldc_w 299, 3) := by decide +kernel
theorem dX11_book_26 : decode cX11_book 26 = .ok (.invokestatic 85, 3) := by decide +kernel
theorem dX11_book_29 : decode cX11_book 29 = .ok (.ifCond .ne 6, 3) := by decide +kernel
theorem dX11_book_32 : decode cX11_book 32 = .ok (.bipush (-2), 2) := by decide +kernel
theorem dX11_book_34 : decode cX11_book 34 = .ok (.ireturn, 1) := by decide +kernel
theorem dX11_book_35 : decode cX11_book 35 = .ok (.aload_n 0, 1) := by decide +kernel
theorem dX11_book_36 : decode cX11_book 36 = .ok (.getfield 333, 3) := by decide +kernel
theorem dX11_book_39 : decode cX11_book 39 = .ok (.bipush 8, 2) := by decide +kernel
theorem dX11_book_41 : decode cX11_book 41 = .ok (.if_icmp .ne 6, 3) := by decide +kernel
theorem dX11_book_44 : decode cX11_book 44 = .ok (.bipush (-4), 2) := by decide +kernel
theorem dX11_book_46 : decode cX11_book 46 = .ok (.ireturn, 1) := by decide +kernel
theorem dX11_book_47 : decode cX11_book 47 = .ok (.aload_n 0, 1) := by decide +kernel
theorem dX11_book_48 : decode cX11_book 48 = .ok (.getfield 48, 3) := by decide +kernel
theorem dX11_book_51 : decode cX11_book 51 = .ok (.aload_n 0, 1) := by decide +kernel
theorem dX11_book_52 : decode cX11_book 52 = .ok (.getfield 333, 3) := by decide +kernel
theorem dX11_book_55 : decode cX11_book 55 = .ok (.iload_n 1, 1) := by decide +kernel
theorem dX11_book_56 : decode cX11_book 56 = .ok (.iastore, 1) := by decide +kernel
theorem dX11_book_57 : decode cX11_book 57 = .ok (.aload_n 0, 1) := by decide +kernel
theorem dX11_book_58 : decode cX11_book 58 = .ok (.getfield 51, 3) := by decide +kernel
theorem dX11_book_61 : decode cX11_book 61 = .ok (.aload_n 0, 1) := by decide +kernel
theorem dX11_book_62 : decode cX11_book 62 = .ok (.getfield 333, 3) := by decide +kernel
theorem dX11_book_65 : decode cX11_book 65 = .ok (.iload_n 2, 1) := by decide +kernel
theorem dX11_book_66 : decode cX11_book 66 = .ok (.iastore, 1) := by decide +kernel
theorem dX11_book_67 : decode cX11_book 67 = .ok (.aload_n 0, 1) := by decide +kernel
theorem dX11_book_68 : decode cX11_book 68 = .ok (.dup, 1) := by decide +kernel
theorem dX11_book_69 : decode cX11_book 69 = .ok (.getfield 333, 3) := by decide +kernel
theorem dX11_book_72 : decode cX11_book 72 = .ok (.iconst 1, 1) := by decide +kernel
theorem dX11_book_73 : decode cX11_book 73 = .ok (.iadd, 1) := by decide +kernel
theorem dX11_book_74 : decode cX11_book 74 = .ok (.putfield 333, 3) := by decide +kernel
theorem dX11_book_77 : decode cX11_book 77 = .ok (.aload_n 0, 1) := by decide +kernel
theorem dX11_book_78 : decode cX11_book 78 = .ok (.getfield 333, 3) := by decide +kernel
theorem dX11_book_81 : decode cX11_book 81 = .ok (.ireturn, 1) := by decide +kernel
theorem dX11_looked_0 : decode cX11_looked 0 = .ok (.aload_n 0, 1) := by decide +kernel
theorem dX11_looked_1 : decode cX11_looked 1 = .ok (.invokevirtual 136, 3) := by decide +kernel
theorem dX11_looked_4 : decode cX11_looked 4 = .ok (.iconst 0, 1) := by decide +kernel
theorem dX11_looked_5 : decode cX11_looked 5 = .ok (.istore_n 1, 1) := by decide +kernel
theorem dX11_looked_6 : decode cX11_looked 6 = .ok (.iload_n 1, 1) := by decide +kernel
theorem dX11_looked_7 : decode cX11_looked 7 = .ok (.aload_n 0, 1) := by decide +kernel
theorem dX11_looked_8 : decode cX11_looked 8 = .ok (.getfield 333, 3) := by decide +kernel
theorem dX11_looked_11 : decode cX11_looked 11 = .ok (.if_icmp .ge 30, 3) := by decide +kernel
theorem dX11_looked_14 : decode cX11_looked 14 = .ok (.aload_n 0, 1) := by decide +kernel
theorem dX11_looked_15 : decode cX11_looked 15 = .ok (.aload_n 0, 1) := by decide +kernel
theorem dX11_looked_16 : decode cX11_looked 16 = .ok (.getfield 48, 3) := by decide +kernel
theorem dX11_looked_19 : decode cX11_looked 19 = .ok (.iload_n 1, 1) := by decide +kernel
theorem dX11_looked_20 : decode cX11_looked 20 = .ok (.iaload, 1) := by decide +kernel
theorem dX11_looked_21 : decode cX11_looked 21 = .ok (.invokevirtual 244, 3) := by decide +kernel
theorem dX11_looked_24 : decode cX11_looked 24 = .ok (.aload_n 0, 1) := by decide +kernel
theorem dX11_looked_25 : decode cX11_looked 25 = .ok (.getfield 51, 3) := by decide +kernel
theorem dX11_looked_28 : decode cX11_looked 28 = .ok (.iload_n 1, 1) := by decide +kernel
theorem dX11_looked_29 : decode cX11_looked 29 = .ok (.iaload, 1) := by decide +kernel
theorem dX11_looked_30 : decode cX11_looked 30 = .ok (.if_icmp .eq 5, 3) := by decide +kernel
theorem dX11_looked_33 : decode cX11_looked 33 = .ok (.iload_n 1, 1) := by decide +kernel
theorem dX11_looked_34 : decode cX11_looked 34 = .ok (.ireturn, 1) := by decide +kernel
theorem dX11_looked_35 : decode cX11_looked 35 = .ok (.iinc 1 1, 3) := by decide +kernel
theorem dX11_looked_38 : decode cX11_looked 38 = .ok (.goto (-32), 3) := by decide +kernel
theorem dX11_looked_41 : decode cX11_looked 41 = .ok (.bipush (-5), 2) := by decide +kernel
theorem dX11_looked_43 : decode cX11_looked 43 = .ok (.ireturn, 1) := by decide +kernel
theorem dX11_keeps_0 : decode cX11_keeps 0 = .ok (.iconst 0, 1) := by decide +kernel
theorem dX11_keeps_1 : decode cX11_keeps 1 = .ok (.istore_n 2, 1) := by decide +kernel
theorem dX11_keeps_2 : decode cX11_keeps 2 = .ok (.iload_n 2, 1) := by decide +kernel
theorem dX11_keeps_3 : decode cX11_keeps 3 = .ok (.bipush 36, 2) := by decide +kernel
theorem dX11_keeps_5 : decode cX11_keeps 5 = .ok (.if_icmp .ge 18, 3) := by decide +kernel
theorem dX11_keeps_8 : decode cX11_keeps 8 = .ok (.aload_n 1, 1) := by decide +kernel
theorem dX11_keeps_9 : decode cX11_keeps 9 = .ok (.iload_n 2, 1) := by decide +kernel
theorem dX11_keeps_10 : decode cX11_keeps 10 = .ok (.aload_n 0, 1) := by decide +kernel
theorem dX11_keeps_11 : decode cX11_keeps 11 = .ok (.getfield 9, 3) := by decide +kernel
theorem dX11_keeps_14 : decode cX11_keeps 14 = .ok (.iload_n 2, 1) := by decide +kernel
theorem dX11_keeps_15 : decode cX11_keeps 15 = .ok (.iaload, 1) := by decide +kernel
theorem dX11_keeps_16 : decode cX11_keeps 16 = .ok (.iastore, 1) := by decide +kernel
theorem dX11_keeps_17 : decode cX11_keeps 17 = .ok (.iinc 2 1, 3) := by decide +kernel
theorem dX11_keeps_20 : decode cX11_keeps 20 = .ok (.goto (-18), 3) := by decide +kernel
theorem dX11_keeps_23 : decode cX11_keeps 23 = .ok (.iconst 0, 1) := by decide +kernel
theorem dX11_keeps_24 : decode cX11_keeps 24 = .ok (.istore_n 2, 1) := by decide +kernel
theorem dX11_keeps_25 : decode cX11_keeps 25 = .ok (.iload_n 2, 1) := by decide +kernel
theorem dX11_keeps_26 : decode cX11_keeps 26 = .ok (.bipush 16, 2) := by decide +kernel
theorem dX11_keeps_28 : decode cX11_keeps 28 = .ok (.if_icmp .ge 33, 3) := by decide +kernel
theorem dX11_keeps_31 : decode cX11_keeps 31 = .ok (.aload_n 1, 1) := by decide +kernel
theorem dX11_keeps_32 : decode cX11_keeps 32 = .ok (.bipush 36, 2) := by decide +kernel
theorem dX11_keeps_34 : decode cX11_keeps 34 = .ok (.iload_n 2, 1) := by decide +kernel
theorem dX11_keeps_35 : decode cX11_keeps 35 = .ok (.iadd, 1) := by decide +kernel
theorem dX11_keeps_36 : decode cX11_keeps 36 = .ok (.aload_n 0, 1) := by decide +kernel
theorem dX11_keeps_37 : decode cX11_keeps 37 = .ok (.getfield 15, 3) := by decide +kernel
theorem dX11_keeps_40 : decode cX11_keeps 40 = .ok (.iload_n 2, 1) := by decide +kernel
theorem dX11_keeps_41 : decode cX11_keeps 41 = .ok (.iaload, 1) := by decide +kernel
theorem dX11_keeps_42 : decode cX11_keeps 42 = .ok (.iastore, 1) := by decide +kernel
theorem dX11_keeps_43 : decode cX11_keeps 43 = .ok (.aload_n 1, 1) := by decide +kernel
theorem dX11_keeps_44 : decode cX11_keeps 44 = .ok (.bipush 52, 2) := by decide +kernel
theorem dX11_keeps_46 : decode cX11_keeps 46 = .ok (.iload_n 2, 1) := by decide +kernel
theorem dX11_keeps_47 : decode cX11_keeps 47 = .ok (.iadd, 1) := by decide +kernel
theorem dX11_keeps_48 : decode cX11_keeps 48 = .ok (.aload_n 0, 1) := by decide +kernel
theorem dX11_keeps_49 : decode cX11_keeps 49 = .ok (.getfield 18, 3) := by decide +kernel
theorem dX11_keeps_52 : decode cX11_keeps 52 = .ok (.iload_n 2, 1) := by decide +kernel
theorem dX11_keeps_53 : decode cX11_keeps 53 = .ok (.iaload, 1) := by decide +kernel
theorem dX11_keeps_54 : decode cX11_keeps 54 = .ok (.iastore, 1) := by decide +kernel
theorem dX11_keeps_55 : decode cX11_keeps 55 = .ok (.iinc 2 1, 3) := by decide +kernel
theorem dX11_keeps_58 : decode cX11_keeps 58 = .ok (.goto (-33), 3) := by decide +kernel
theorem dX11_keeps_61 : decode cX11_keeps 61 = .ok (.iconst 0, 1) := by decide +kernel
theorem dX11_keeps_62 : decode cX11_keeps 62 = .ok (.istore_n 2, 1) := by decide +kernel
theorem dX11_keeps_63 : decode cX11_keeps 63 = .ok (.iload_n 2, 1) := by decide +kernel
theorem dX11_keeps_64 : decode cX11_keeps 64 = .ok (.bipush 20, 2) := by decide +kernel
theorem dX11_keeps_66 : decode cX11_keeps 66 = .ok (.if_icmp .ge 21, 3) := by decide +kernel
theorem dX11_keeps_69 : decode cX11_keeps 69 = .ok (.aload_n 1, 1) := by decide +kernel
theorem dX11_keeps_70 : decode cX11_keeps 70 = .ok (.bipush 68, 2) := by decide +kernel
theorem dX11_keeps_72 : decode cX11_keeps 72 = .ok (.iload_n 2, 1) := by decide +kernel
theorem dX11_keeps_73 : decode cX11_keeps 73 = .ok (.iadd, 1) := by decide +kernel
theorem dX11_keeps_74 : decode cX11_keeps 74 = .ok (.aload_n 0, 1) := by decide +kernel
theorem dX11_keeps_75 : decode cX11_keeps 75 = .ok (.getfield 21, 3) := by decide +kernel
theorem dX11_keeps_78 : decode cX11_keeps 78 = .ok (.iload_n 2, 1) := by decide +kernel
theorem dX11_keeps_79 : decode cX11_keeps 79 = .ok (.iaload, 1) := by decide +kernel
theorem dX11_keeps_80 : decode cX11_keeps 80 = .ok (.iastore, 1) := by decide +kernel
theorem dX11_keeps_81 : decode cX11_keeps 81 = .ok (.iinc 2 1, 3) := by decide +kernel
theorem dX11_keeps_84 : decode cX11_keeps 84 = .ok (.goto (-21), 3) := by decide +kernel
theorem dX11_keeps_87 : decode cX11_keeps 87 = .ok (.iconst 0, 1) := by decide +kernel
theorem dX11_keeps_88 : decode cX11_keeps 88 = .ok (.istore_n 2, 1) := by decide +kernel
theorem dX11_keeps_89 : decode cX11_keeps 89 = .ok (.iload_n 2, 1) := by decide +kernel
theorem dX11_keeps_90 : decode cX11_keeps 90 = .ok (.iconst 4, 1) := by decide +kernel
theorem dX11_keeps_91 : decode cX11_keeps 91 = .ok (.if_icmp .ge 33, 3) := by decide +kernel
theorem dX11_keeps_94 : decode cX11_keeps 94 = .ok (.aload_n 1, 1) := by decide +kernel
theorem dX11_keeps_95 : decode cX11_keeps 95 = .ok (.bipush 88, 2) := by decide +kernel
theorem dX11_keeps_97 : decode cX11_keeps 97 = .ok (.iload_n 2, 1) := by decide +kernel
theorem dX11_keeps_98 : decode cX11_keeps 98 = .ok (.iadd, 1) := by decide +kernel
theorem dX11_keeps_99 : decode cX11_keeps 99 = .ok (.aload_n 0, 1) := by decide +kernel
theorem dX11_keeps_100 : decode cX11_keeps 100 = .ok (.getfield 24, 3) := by decide +kernel
theorem dX11_keeps_103 : decode cX11_keeps 103 = .ok (.iload_n 2, 1) := by decide +kernel
theorem dX11_keeps_104 : decode cX11_keeps 104 = .ok (.iaload, 1) := by decide +kernel
theorem dX11_keeps_105 : decode cX11_keeps 105 = .ok (.iastore, 1) := by decide +kernel
theorem dX11_keeps_106 : decode cX11_keeps 106 = .ok (.aload_n 1, 1) := by decide +kernel
theorem dX11_keeps_107 : decode cX11_keeps 107 = .ok (.bipush 92, 2) := by decide +kernel
theorem dX11_keeps_109 : decode cX11_keeps 109 = .ok (.iload_n 2, 1) := by decide +kernel
theorem dX11_keeps_110 : decode cX11_keeps 110 = .ok (.iadd, 1) := by decide +kernel
theorem dX11_keeps_111 : decode cX11_keeps 111 = .ok (.aload_n 0, 1) := by decide +kernel
theorem dX11_keeps_112 : decode cX11_keeps 112 = .ok (.getfield 27, 3) := by decide +kernel
theorem dX11_keeps_115 : decode cX11_keeps 115 = .ok (.iload_n 2, 1) := by decide +kernel
theorem dX11_keeps_116 : decode cX11_keeps 116 = .ok (.iaload, 1) := by decide +kernel
theorem dX11_keeps_117 : decode cX11_keeps 117 = .ok (.iastore, 1) := by decide +kernel
theorem dX11_keeps_118 : decode cX11_keeps 118 = .ok (.iinc 2 1, 3) := by decide +kernel
theorem dX11_keeps_121 : decode cX11_keeps 121 = .ok (.goto (-32), 3) := by decide +kernel
theorem dX11_keeps_124 : decode cX11_keeps 124 = .ok (.iconst 0, 1) := by decide +kernel
theorem dX11_keeps_125 : decode cX11_keeps 125 = .ok (.istore_n 2, 1) := by decide +kernel
theorem dX11_keeps_126 : decode cX11_keeps 126 = .ok (.iload_n 2, 1) := by decide +kernel
theorem dX11_keeps_127 : decode cX11_keeps 127 = .ok (.bipush 8, 2) := by decide +kernel
theorem dX11_keeps_129 : decode cX11_keeps 129 = .ok (.if_icmp .ge 70, 3) := by decide +kernel
theorem dX11_keeps_132 : decode cX11_keeps 132 = .ok (.aload_n 1, 1) := by decide +kernel
theorem dX11_keeps_133 : decode cX11_keeps 133 = .ok (.bipush 96, 2) := by decide +kernel
theorem dX11_keeps_135 : decode cX11_keeps 135 = .ok (.iload_n 2, 1) := by decide +kernel
theorem dX11_keeps_136 : decode cX11_keeps 136 = .ok (.iadd, 1) := by decide +kernel
theorem dX11_keeps_137 : decode cX11_keeps 137 = .ok (.aload_n 0, 1) := by decide +kernel
theorem dX11_keeps_138 : decode cX11_keeps 138 = .ok (.getfield 33, 3) := by decide +kernel
theorem dX11_keeps_141 : decode cX11_keeps 141 = .ok (.iload_n 2, 1) := by decide +kernel
theorem dX11_keeps_142 : decode cX11_keeps 142 = .ok (.iaload, 1) := by decide +kernel
theorem dX11_keeps_143 : decode cX11_keeps 143 = .ok (.iastore, 1) := by decide +kernel
theorem dX11_keeps_144 : decode cX11_keeps 144 = .ok (.aload_n 1, 1) := by decide +kernel
theorem dX11_keeps_145 : decode cX11_keeps 145 = .ok (.bipush 104, 2) := by decide +kernel
theorem dX11_keeps_147 : decode cX11_keeps 147 = .ok (.iload_n 2, 1) := by decide +kernel
theorem dX11_keeps_148 : decode cX11_keeps 148 = .ok (.iadd, 1) := by decide +kernel
theorem dX11_keeps_149 : decode cX11_keeps 149 = .ok (.aload_n 0, 1) := by decide +kernel
theorem dX11_keeps_150 : decode cX11_keeps 150 = .ok (.getfield 42, 3) := by decide +kernel
theorem dX11_keeps_153 : decode cX11_keeps 153 = .ok (.iload_n 2, 1) := by decide +kernel
theorem dX11_keeps_154 : decode cX11_keeps 154 = .ok (.iaload, 1) := by decide +kernel
theorem dX11_keeps_155 : decode cX11_keeps 155 = .ok (.iastore, 1) := by decide +kernel
theorem dX11_keeps_156 : decode cX11_keeps 156 = .ok (.aload_n 1, 1) := by decide +kernel
theorem dX11_keeps_157 : decode cX11_keeps 157 = .ok (.bipush 112, 2) := by decide +kernel
theorem dX11_keeps_159 : decode cX11_keeps 159 = .ok (.iload_n 2, 1) := by decide +kernel
theorem dX11_keeps_160 : decode cX11_keeps 160 = .ok (.iadd, 1) := by decide +kernel
theorem dX11_keeps_161 : decode cX11_keeps 161 = .ok (.aload_n 0, 1) := by decide +kernel
theorem dX11_keeps_162 : decode cX11_keeps 162 = .ok (.getfield 45, 3) := by decide +kernel
theorem dX11_keeps_165 : decode cX11_keeps 165 = .ok (.iload_n 2, 1) := by decide +kernel
theorem dX11_keeps_166 : decode cX11_keeps 166 = .ok (.iaload, 1) := by decide +kernel
theorem dX11_keeps_167 : decode cX11_keeps 167 = .ok (.iastore, 1) := by decide +kernel
theorem dX11_keeps_168 : decode cX11_keeps 168 = .ok (.aload_n 1, 1) := by decide +kernel
theorem dX11_keeps_169 : decode cX11_keeps 169 = .ok (.bipush 120, 2) := by decide +kernel
theorem dX11_keeps_171 : decode cX11_keeps 171 = .ok (.iload_n 2, 1) := by decide +kernel
theorem dX11_keeps_172 : decode cX11_keeps 172 = .ok (.iadd, 1) := by decide +kernel
theorem dX11_keeps_173 : decode cX11_keeps 173 = .ok (.aload_n 0, 1) := by decide +kernel
theorem dX11_keeps_174 : decode cX11_keeps 174 = .ok (.getfield 48, 3) := by decide +kernel
theorem dX11_keeps_177 : decode cX11_keeps 177 = .ok (.iload_n 2, 1) := by decide +kernel
theorem dX11_keeps_178 : decode cX11_keeps 178 = .ok (.iaload, 1) := by decide +kernel
theorem dX11_keeps_179 : decode cX11_keeps 179 = .ok (.iastore, 1) := by decide +kernel
theorem dX11_keeps_180 : decode cX11_keeps 180 = .ok (.aload_n 1, 1) := by decide +kernel
theorem dX11_keeps_181 : decode cX11_keeps 181 = .ok (.sipush 128, 3) := by decide +kernel
theorem dX11_keeps_184 : decode cX11_keeps 184 = .ok (.iload_n 2, 1) := by decide +kernel
theorem dX11_keeps_185 : decode cX11_keeps 185 = .ok (.iadd, 1) := by decide +kernel
theorem dX11_keeps_186 : decode cX11_keeps 186 = .ok (.aload_n 0, 1) := by decide +kernel
theorem dX11_keeps_187 : decode cX11_keeps 187 = .ok (.getfield 51, 3) := by decide +kernel
theorem dX11_keeps_190 : decode cX11_keeps 190 = .ok (.iload_n 2, 1) := by decide +kernel
theorem dX11_keeps_191 : decode cX11_keeps 191 = .ok (.iaload, 1) := by decide +kernel
theorem dX11_keeps_192 : decode cX11_keeps 192 = .ok (.iastore, 1) := by decide +kernel
theorem dX11_keeps_193 : decode cX11_keeps 193 = .ok (.iinc 2 1, 3) := by decide +kernel
theorem dX11_keeps_196 : decode cX11_keeps 196 = .ok (.goto (-70), 3) := by decide +kernel
theorem dX11_keeps_199 : decode cX11_keeps 199 = .ok (.iconst 0, 1) := by decide +kernel
theorem dX11_keeps_200 : decode cX11_keeps 200 = .ok (.istore_n 2, 1) := by decide +kernel
theorem dX11_keeps_201 : decode cX11_keeps 201 = .ok (.iload_n 2, 1) := by decide +kernel
theorem dX11_keeps_202 : decode cX11_keeps 202 = .ok (.iconst 5, 1) := by decide +kernel
theorem dX11_keeps_203 : decode cX11_keeps 203 = .ok (.if_icmp .ge 35, 3) := by decide +kernel
theorem dX11_keeps_206 : decode cX11_keeps 206 = .ok (.aload_n 1, 1) := by decide +kernel
theorem dX11_keeps_207 : decode cX11_keeps 207 = .ok (.sipush 136, 3) := by decide +kernel
theorem dX11_keeps_210 : decode cX11_keeps 210 = .ok (.iload_n 2, 1) := by decide +kernel
theorem dX11_keeps_211 : decode cX11_keeps 211 = .ok (.iadd, 1) := by decide +kernel
theorem dX11_keeps_212 : decode cX11_keeps 212 = .ok (.aload_n 0, 1) := by decide +kernel
theorem dX11_keeps_213 : decode cX11_keeps 213 = .ok (.getfield 36, 3) := by decide +kernel
theorem dX11_keeps_216 : decode cX11_keeps 216 = .ok (.iload_n 2, 1) := by decide +kernel
theorem dX11_keeps_217 : decode cX11_keeps 217 = .ok (.iaload, 1) := by decide +kernel
theorem dX11_keeps_218 : decode cX11_keeps 218 = .ok (.iastore, 1) := by decide +kernel
theorem dX11_keeps_219 : decode cX11_keeps 219 = .ok (.aload_n 1, 1) := by decide +kernel
theorem dX11_keeps_220 : decode cX11_keeps 220 = .ok (.sipush 141, 3) := by decide +kernel
theorem dX11_keeps_223 : decode cX11_keeps 223 = .ok (.iload_n 2, 1) := by decide +kernel
theorem dX11_keeps_224 : decode cX11_keeps 224 = .ok (.iadd, 1) := by decide +kernel
theorem dX11_keeps_225 : decode cX11_keeps 225 = .ok (.aload_n 0, 1) := by decide +kernel
theorem dX11_keeps_226 : decode cX11_keeps 226 = .ok (.getfield 39, 3) := by decide +kernel
theorem dX11_keeps_229 : decode cX11_keeps 229 = .ok (.iload_n 2, 1) := by decide +kernel
theorem dX11_keeps_230 : decode cX11_keeps 230 = .ok (.iaload, 1) := by decide +kernel
theorem dX11_keeps_231 : decode cX11_keeps 231 = .ok (.iastore, 1) := by decide +kernel
theorem dX11_keeps_232 : decode cX11_keeps 232 = .ok (.iinc 2 1, 3) := by decide +kernel
theorem dX11_keeps_235 : decode cX11_keeps 235 = .ok (.goto (-34), 3) := by decide +kernel
theorem dX11_keeps_238 : decode cX11_keeps 238 = .ok (.aload_n 1, 1) := by decide +kernel
theorem dX11_keeps_239 : decode cX11_keeps 239 = .ok (.sipush 146, 3) := by decide +kernel
theorem dX11_keeps_242 : decode cX11_keeps 242 = .ok (.aload_n 0, 1) := by decide +kernel
theorem dX11_keeps_243 : decode cX11_keeps 243 = .ok (.getfield 30, 3) := by decide +kernel
theorem dX11_keeps_246 : decode cX11_keeps 246 = .ok (.iconst 0, 1) := by decide +kernel
theorem dX11_keeps_247 : decode cX11_keeps 247 = .ok (.iaload, 1) := by decide +kernel
theorem dX11_keeps_248 : decode cX11_keeps 248 = .ok (.iastore, 1) := by decide +kernel
theorem dX11_keeps_249 : decode cX11_keeps 249 = .ok (.aload_n 1, 1) := by decide +kernel
theorem dX11_keeps_250 : decode cX11_keeps 250 = .ok (.sipush 147, 3) := by decide +kernel
theorem dX11_keeps_253 : decode cX11_keeps 253 = .ok (.aload_n 0, 1) := by decide +kernel
theorem dX11_keeps_254 : decode cX11_keeps 254 = .ok (.getfield 30, 3) := by decide +kernel
theorem dX11_keeps_257 : decode cX11_keeps 257 = .ok (.iconst 1, 1) := by decide +kernel
theorem dX11_keeps_258 : decode cX11_keeps 258 = .ok (.iaload, 1) := by decide +kernel
theorem dX11_keeps_259 : decode cX11_keeps 259 = .ok (.iastore, 1) := by decide +kernel
theorem dX11_keeps_260 : decode cX11_keeps 260 = .ok (.aload_n 1, 1) := by decide +kernel
theorem dX11_keeps_261 : decode cX11_keeps 261 = .ok (.sipush 148, 3) := by decide +kernel
theorem dX11_keeps_264 : decode cX11_keeps 264 = .ok (.aload_n 0, 1) := by decide +kernel
theorem dX11_keeps_265 : decode cX11_keeps 265 = .ok (.getfield 115, 3) := by decide +kernel
theorem dX11_keeps_268 : decode cX11_keeps 268 = .ok (.iastore, 1) := by decide +kernel
theorem dX11_keeps_269 : decode cX11_keeps 269 = .ok (.aload_n 1, 1) := by decide +kernel
theorem dX11_keeps_270 : decode cX11_keeps 270 = .ok (.sipush 149, 3) := by decide +kernel
theorem dX11_keeps_273 : decode cX11_keeps 273 = .ok (.aload_n 0, 1) := by decide +kernel
theorem dX11_keeps_274 : decode cX11_keeps 274 = .ok (.getfield 122, 3) := by decide +kernel
theorem dX11_keeps_277 : decode cX11_keeps 277 = .ok (.iastore, 1) := by decide +kernel
theorem dX11_keeps_278 : decode cX11_keeps 278 = .ok (.aload_n 1, 1) := by decide +kernel
theorem dX11_keeps_279 : decode cX11_keeps 279 = .ok (.sipush 150, 3) := by decide +kernel
theorem dX11_keeps_282 : decode cX11_keeps 282 = .ok (.aload_n 0, 1) := by decide +kernel
theorem dX11_keeps_283 : decode cX11_keeps 283 = .ok (.getfield 125, 3) := by decide +kernel
theorem dX11_keeps_286 : decode cX11_keeps 286 = .ok (.iastore, 1) := by decide +kernel
theorem dX11_keeps_287 : decode cX11_keeps 287 = .ok (.aload_n 1, 1) := by decide +kernel
theorem dX11_keeps_288 : decode cX11_keeps 288 = .ok (.sipush 151, 3) := by decide +kernel
theorem dX11_keeps_291 : decode cX11_keeps 291 = .ok (.aload_n 0, 1) := by decide +kernel
theorem dX11_keeps_292 : decode cX11_keeps 292 = .ok (.getfield 143, 3) := by decide +kernel
theorem dX11_keeps_295 : decode cX11_keeps 295 = .ok (.iastore, 1) := by decide +kernel
theorem dX11_keeps_296 : decode cX11_keeps 296 = .ok (.aload_n 1, 1) := by decide +kernel
theorem dX11_keeps_297 : decode cX11_keeps 297 = .ok (.sipush 152, 3) := by decide +kernel
theorem dX11_keeps_300 : decode cX11_keeps 300 = .ok (.aload_n 0, 1) := by decide +kernel
theorem dX11_keeps_301 : decode cX11_keeps 301 = .ok (.getfield 296, 3) := by decide +kernel
theorem dX11_keeps_304 : decode cX11_keeps 304 = .ok (.iastore, 1) := by decide +kernel
theorem dX11_keeps_305 : decode cX11_keeps 305 = .ok (.aload_n 1, 1) := by decide +kernel
theorem dX11_keeps_306 : decode cX11_keeps 306 = .ok (.sipush 153, 3) := by decide +kernel
theorem dX11_keeps_309 : decode cX11_keeps 309 = .ok (.aload_n 0, 1) := by decide +kernel
theorem dX11_keeps_310 : decode cX11_keeps 310 = .ok (.getfield 319, 3) := by decide +kernel
theorem dX11_keeps_313 : decode cX11_keeps 313 = .ok (.iastore, 1) := by decide +kernel
theorem dX11_keeps_314 : decode cX11_keeps 314 = .ok (.aload_n 1, 1) := by decide +kernel
theorem dX11_keeps_315 : decode cX11_keeps 315 = .ok (.sipush 154, 3) := by decide +kernel
theorem dX11_keeps_318 : decode cX11_keeps 318 = .ok (.aload_n 0, 1) := by decide +kernel
theorem dX11_keeps_319 : decode cX11_keeps 319 = .ok (.getfield 333, 3) := by decide +kernel
theorem dX11_keeps_322 : decode cX11_keeps 322 = .ok (.iastore, 1) := by decide +kernel
theorem dX11_keeps_323 : decode cX11_keeps 323 = .ok (.return_, 1) := by decide +kernel
theorem dX11_again_0 : decode cX11_again 0 = .ok (.iconst 0, 1) := by decide +kernel
theorem dX11_again_1 : decode cX11_again 1 = .ok (.istore_n 2, 1) := by decide +kernel
theorem dX11_again_2 : decode cX11_again 2 = .ok (.iload_n 2, 1) := by decide +kernel
theorem dX11_again_3 : decode cX11_again 3 = .ok (.bipush 36, 2) := by decide +kernel
theorem dX11_again_5 : decode cX11_again 5 = .ok (.if_icmp .ge 18, 3) := by decide +kernel
theorem dX11_again_8 : decode cX11_again 8 = .ok (.aload_n 0, 1) := by decide +kernel
theorem dX11_again_9 : decode cX11_again 9 = .ok (.getfield 9, 3) := by decide +kernel
theorem dX11_again_12 : decode cX11_again 12 = .ok (.iload_n 2, 1) := by decide +kernel
theorem dX11_again_13 : decode cX11_again 13 = .ok (.aload_n 1, 1) := by decide +kernel
theorem dX11_again_14 : decode cX11_again 14 = .ok (.iload_n 2, 1) := by decide +kernel
theorem dX11_again_15 : decode cX11_again 15 = .ok (.iaload, 1) := by decide +kernel
theorem dX11_again_16 : decode cX11_again 16 = .ok (.iastore, 1) := by decide +kernel
theorem dX11_again_17 : decode cX11_again 17 = .ok (.iinc 2 1, 3) := by decide +kernel
theorem dX11_again_20 : decode cX11_again 20 = .ok (.goto (-18), 3) := by decide +kernel
theorem dX11_again_23 : decode cX11_again 23 = .ok (.iconst 0, 1) := by decide +kernel
theorem dX11_again_24 : decode cX11_again 24 = .ok (.istore_n 2, 1) := by decide +kernel
theorem dX11_again_25 : decode cX11_again 25 = .ok (.iload_n 2, 1) := by decide +kernel
theorem dX11_again_26 : decode cX11_again 26 = .ok (.bipush 16, 2) := by decide +kernel
theorem dX11_again_28 : decode cX11_again 28 = .ok (.if_icmp .ge 33, 3) := by decide +kernel
theorem dX11_again_31 : decode cX11_again 31 = .ok (.aload_n 0, 1) := by decide +kernel
theorem dX11_again_32 : decode cX11_again 32 = .ok (.getfield 15, 3) := by decide +kernel
theorem dX11_again_35 : decode cX11_again 35 = .ok (.iload_n 2, 1) := by decide +kernel
theorem dX11_again_36 : decode cX11_again 36 = .ok (.aload_n 1, 1) := by decide +kernel
theorem dX11_again_37 : decode cX11_again 37 = .ok (.bipush 36, 2) := by decide +kernel
theorem dX11_again_39 : decode cX11_again 39 = .ok (.iload_n 2, 1) := by decide +kernel
theorem dX11_again_40 : decode cX11_again 40 = .ok (.iadd, 1) := by decide +kernel
theorem dX11_again_41 : decode cX11_again 41 = .ok (.iaload, 1) := by decide +kernel
theorem dX11_again_42 : decode cX11_again 42 = .ok (.iastore, 1) := by decide +kernel
theorem dX11_again_43 : decode cX11_again 43 = .ok (.aload_n 0, 1) := by decide +kernel
theorem dX11_again_44 : decode cX11_again 44 = .ok (.getfield 18, 3) := by decide +kernel
theorem dX11_again_47 : decode cX11_again 47 = .ok (.iload_n 2, 1) := by decide +kernel
theorem dX11_again_48 : decode cX11_again 48 = .ok (.aload_n 1, 1) := by decide +kernel
theorem dX11_again_49 : decode cX11_again 49 = .ok (.bipush 52, 2) := by decide +kernel
theorem dX11_again_51 : decode cX11_again 51 = .ok (.iload_n 2, 1) := by decide +kernel
theorem dX11_again_52 : decode cX11_again 52 = .ok (.iadd, 1) := by decide +kernel
theorem dX11_again_53 : decode cX11_again 53 = .ok (.iaload, 1) := by decide +kernel
theorem dX11_again_54 : decode cX11_again 54 = .ok (.iastore, 1) := by decide +kernel
theorem dX11_again_55 : decode cX11_again 55 = .ok (.iinc 2 1, 3) := by decide +kernel
theorem dX11_again_58 : decode cX11_again 58 = .ok (.goto (-33), 3) := by decide +kernel
theorem dX11_again_61 : decode cX11_again 61 = .ok (.iconst 0, 1) := by decide +kernel
theorem dX11_again_62 : decode cX11_again 62 = .ok (.istore_n 2, 1) := by decide +kernel
theorem dX11_again_63 : decode cX11_again 63 = .ok (.iload_n 2, 1) := by decide +kernel
theorem dX11_again_64 : decode cX11_again 64 = .ok (.bipush 20, 2) := by decide +kernel
theorem dX11_again_66 : decode cX11_again 66 = .ok (.if_icmp .ge 21, 3) := by decide +kernel
theorem dX11_again_69 : decode cX11_again 69 = .ok (.aload_n 0, 1) := by decide +kernel
theorem dX11_again_70 : decode cX11_again 70 = .ok (.getfield 21, 3) := by decide +kernel
theorem dX11_again_73 : decode cX11_again 73 = .ok (.iload_n 2, 1) := by decide +kernel
theorem dX11_again_74 : decode cX11_again 74 = .ok (.aload_n 1, 1) := by decide +kernel
theorem dX11_again_75 : decode cX11_again 75 = .ok (.bipush 68, 2) := by decide +kernel
theorem dX11_again_77 : decode cX11_again 77 = .ok (.iload_n 2, 1) := by decide +kernel
theorem dX11_again_78 : decode cX11_again 78 = .ok (.iadd, 1) := by decide +kernel
theorem dX11_again_79 : decode cX11_again 79 = .ok (.iaload, 1) := by decide +kernel
theorem dX11_again_80 : decode cX11_again 80 = .ok (.iastore, 1) := by decide +kernel
theorem dX11_again_81 : decode cX11_again 81 = .ok (.iinc 2 1, 3) := by decide +kernel
theorem dX11_again_84 : decode cX11_again 84 = .ok (.goto (-21), 3) := by decide +kernel
theorem dX11_again_87 : decode cX11_again 87 = .ok (.iconst 0, 1) := by decide +kernel
theorem dX11_again_88 : decode cX11_again 88 = .ok (.istore_n 2, 1) := by decide +kernel
theorem dX11_again_89 : decode cX11_again 89 = .ok (.iload_n 2, 1) := by decide +kernel
theorem dX11_again_90 : decode cX11_again 90 = .ok (.iconst 4, 1) := by decide +kernel
theorem dX11_again_91 : decode cX11_again 91 = .ok (.if_icmp .ge 33, 3) := by decide +kernel
theorem dX11_again_94 : decode cX11_again 94 = .ok (.aload_n 0, 1) := by decide +kernel
theorem dX11_again_95 : decode cX11_again 95 = .ok (.getfield 24, 3) := by decide +kernel
theorem dX11_again_98 : decode cX11_again 98 = .ok (.iload_n 2, 1) := by decide +kernel
theorem dX11_again_99 : decode cX11_again 99 = .ok (.aload_n 1, 1) := by decide +kernel
theorem dX11_again_100 : decode cX11_again 100 = .ok (.bipush 88, 2) := by decide +kernel
theorem dX11_again_102 : decode cX11_again 102 = .ok (.iload_n 2, 1) := by decide +kernel
theorem dX11_again_103 : decode cX11_again 103 = .ok (.iadd, 1) := by decide +kernel
theorem dX11_again_104 : decode cX11_again 104 = .ok (.iaload, 1) := by decide +kernel
theorem dX11_again_105 : decode cX11_again 105 = .ok (.iastore, 1) := by decide +kernel
theorem dX11_again_106 : decode cX11_again 106 = .ok (.aload_n 0, 1) := by decide +kernel
theorem dX11_again_107 : decode cX11_again 107 = .ok (.getfield 27, 3) := by decide +kernel
theorem dX11_again_110 : decode cX11_again 110 = .ok (.iload_n 2, 1) := by decide +kernel
theorem dX11_again_111 : decode cX11_again 111 = .ok (.aload_n 1, 1) := by decide +kernel
theorem dX11_again_112 : decode cX11_again 112 = .ok (.bipush 92, 2) := by decide +kernel
theorem dX11_again_114 : decode cX11_again 114 = .ok (.iload_n 2, 1) := by decide +kernel
theorem dX11_again_115 : decode cX11_again 115 = .ok (.iadd, 1) := by decide +kernel
theorem dX11_again_116 : decode cX11_again 116 = .ok (.iaload, 1) := by decide +kernel
theorem dX11_again_117 : decode cX11_again 117 = .ok (.iastore, 1) := by decide +kernel
theorem dX11_again_118 : decode cX11_again 118 = .ok (.iinc 2 1, 3) := by decide +kernel
theorem dX11_again_121 : decode cX11_again 121 = .ok (.goto (-32), 3) := by decide +kernel
theorem dX11_again_124 : decode cX11_again 124 = .ok (.iconst 0, 1) := by decide +kernel
theorem dX11_again_125 : decode cX11_again 125 = .ok (.istore_n 2, 1) := by decide +kernel
theorem dX11_again_126 : decode cX11_again 126 = .ok (.iload_n 2, 1) := by decide +kernel
theorem dX11_again_127 : decode cX11_again 127 = .ok (.bipush 8, 2) := by decide +kernel
theorem dX11_again_129 : decode cX11_again 129 = .ok (.if_icmp .ge 70, 3) := by decide +kernel
theorem dX11_again_132 : decode cX11_again 132 = .ok (.aload_n 0, 1) := by decide +kernel
theorem dX11_again_133 : decode cX11_again 133 = .ok (.getfield 33, 3) := by decide +kernel
theorem dX11_again_136 : decode cX11_again 136 = .ok (.iload_n 2, 1) := by decide +kernel
theorem dX11_again_137 : decode cX11_again 137 = .ok (.aload_n 1, 1) := by decide +kernel
theorem dX11_again_138 : decode cX11_again 138 = .ok (.bipush 96, 2) := by decide +kernel
theorem dX11_again_140 : decode cX11_again 140 = .ok (.iload_n 2, 1) := by decide +kernel
theorem dX11_again_141 : decode cX11_again 141 = .ok (.iadd, 1) := by decide +kernel
theorem dX11_again_142 : decode cX11_again 142 = .ok (.iaload, 1) := by decide +kernel
theorem dX11_again_143 : decode cX11_again 143 = .ok (.iastore, 1) := by decide +kernel
theorem dX11_again_144 : decode cX11_again 144 = .ok (.aload_n 0, 1) := by decide +kernel
theorem dX11_again_145 : decode cX11_again 145 = .ok (.getfield 42, 3) := by decide +kernel
theorem dX11_again_148 : decode cX11_again 148 = .ok (.iload_n 2, 1) := by decide +kernel
theorem dX11_again_149 : decode cX11_again 149 = .ok (.aload_n 1, 1) := by decide +kernel
theorem dX11_again_150 : decode cX11_again 150 = .ok (.bipush 104, 2) := by decide +kernel
theorem dX11_again_152 : decode cX11_again 152 = .ok (.iload_n 2, 1) := by decide +kernel
theorem dX11_again_153 : decode cX11_again 153 = .ok (.iadd, 1) := by decide +kernel
theorem dX11_again_154 : decode cX11_again 154 = .ok (.iaload, 1) := by decide +kernel
theorem dX11_again_155 : decode cX11_again 155 = .ok (.iastore, 1) := by decide +kernel
theorem dX11_again_156 : decode cX11_again 156 = .ok (.aload_n 0, 1) := by decide +kernel
theorem dX11_again_157 : decode cX11_again 157 = .ok (.getfield 45, 3) := by decide +kernel
theorem dX11_again_160 : decode cX11_again 160 = .ok (.iload_n 2, 1) := by decide +kernel
theorem dX11_again_161 : decode cX11_again 161 = .ok (.aload_n 1, 1) := by decide +kernel
theorem dX11_again_162 : decode cX11_again 162 = .ok (.bipush 112, 2) := by decide +kernel
theorem dX11_again_164 : decode cX11_again 164 = .ok (.iload_n 2, 1) := by decide +kernel
theorem dX11_again_165 : decode cX11_again 165 = .ok (.iadd, 1) := by decide +kernel
theorem dX11_again_166 : decode cX11_again 166 = .ok (.iaload, 1) := by decide +kernel
theorem dX11_again_167 : decode cX11_again 167 = .ok (.iastore, 1) := by decide +kernel
theorem dX11_again_168 : decode cX11_again 168 = .ok (.aload_n 0, 1) := by decide +kernel
theorem dX11_again_169 : decode cX11_again 169 = .ok (.getfield 48, 3) := by decide +kernel
theorem dX11_again_172 : decode cX11_again 172 = .ok (.iload_n 2, 1) := by decide +kernel
theorem dX11_again_173 : decode cX11_again 173 = .ok (.aload_n 1, 1) := by decide +kernel
theorem dX11_again_174 : decode cX11_again 174 = .ok (.bipush 120, 2) := by decide +kernel
theorem dX11_again_176 : decode cX11_again 176 = .ok (.iload_n 2, 1) := by decide +kernel
theorem dX11_again_177 : decode cX11_again 177 = .ok (.iadd, 1) := by decide +kernel
theorem dX11_again_178 : decode cX11_again 178 = .ok (.iaload, 1) := by decide +kernel
theorem dX11_again_179 : decode cX11_again 179 = .ok (.iastore, 1) := by decide +kernel
theorem dX11_again_180 : decode cX11_again 180 = .ok (.aload_n 0, 1) := by decide +kernel
theorem dX11_again_181 : decode cX11_again 181 = .ok (.getfield 51, 3) := by decide +kernel
theorem dX11_again_184 : decode cX11_again 184 = .ok (.iload_n 2, 1) := by decide +kernel
theorem dX11_again_185 : decode cX11_again 185 = .ok (.aload_n 1, 1) := by decide +kernel
theorem dX11_again_186 : decode cX11_again 186 = .ok (.sipush 128, 3) := by decide +kernel
theorem dX11_again_189 : decode cX11_again 189 = .ok (.iload_n 2, 1) := by decide +kernel
theorem dX11_again_190 : decode cX11_again 190 = .ok (.iadd, 1) := by decide +kernel
theorem dX11_again_191 : decode cX11_again 191 = .ok (.iaload, 1) := by decide +kernel
theorem dX11_again_192 : decode cX11_again 192 = .ok (.iastore, 1) := by decide +kernel
theorem dX11_again_193 : decode cX11_again 193 = .ok (.iinc 2 1, 3) := by decide +kernel
theorem dX11_again_196 : decode cX11_again 196 = .ok (.goto (-70), 3) := by decide +kernel
theorem dX11_again_199 : decode cX11_again 199 = .ok (.iconst 0, 1) := by decide +kernel
theorem dX11_again_200 : decode cX11_again 200 = .ok (.istore_n 2, 1) := by decide +kernel
theorem dX11_again_201 : decode cX11_again 201 = .ok (.iload_n 2, 1) := by decide +kernel
theorem dX11_again_202 : decode cX11_again 202 = .ok (.iconst 5, 1) := by decide +kernel
theorem dX11_again_203 : decode cX11_again 203 = .ok (.if_icmp .ge 35, 3) := by decide +kernel
theorem dX11_again_206 : decode cX11_again 206 = .ok (.aload_n 0, 1) := by decide +kernel
theorem dX11_again_207 : decode cX11_again 207 = .ok (.getfield 36, 3) := by decide +kernel
theorem dX11_again_210 : decode cX11_again 210 = .ok (.iload_n 2, 1) := by decide +kernel
theorem dX11_again_211 : decode cX11_again 211 = .ok (.aload_n 1, 1) := by decide +kernel
theorem dX11_again_212 : decode cX11_again 212 = .ok (.sipush 136, 3) := by decide +kernel
theorem dX11_again_215 : decode cX11_again 215 = .ok (.iload_n 2, 1) := by decide +kernel
theorem dX11_again_216 : decode cX11_again 216 = .ok (.iadd, 1) := by decide +kernel
theorem dX11_again_217 : decode cX11_again 217 = .ok (.iaload, 1) := by decide +kernel
theorem dX11_again_218 : decode cX11_again 218 = .ok (.iastore, 1) := by decide +kernel
theorem dX11_again_219 : decode cX11_again 219 = .ok (.aload_n 0, 1) := by decide +kernel
theorem dX11_again_220 : decode cX11_again 220 = .ok (.getfield 39, 3) := by decide +kernel
theorem dX11_again_223 : decode cX11_again 223 = .ok (.iload_n 2, 1) := by decide +kernel
theorem dX11_again_224 : decode cX11_again 224 = .ok (.aload_n 1, 1) := by decide +kernel
theorem dX11_again_225 : decode cX11_again 225 = .ok (.sipush 141, 3) := by decide +kernel
theorem dX11_again_228 : decode cX11_again 228 = .ok (.iload_n 2, 1) := by decide +kernel
theorem dX11_again_229 : decode cX11_again 229 = .ok (.iadd, 1) := by decide +kernel
theorem dX11_again_230 : decode cX11_again 230 = .ok (.iaload, 1) := by decide +kernel
theorem dX11_again_231 : decode cX11_again 231 = .ok (.iastore, 1) := by decide +kernel
theorem dX11_again_232 : decode cX11_again 232 = .ok (.iinc 2 1, 3) := by decide +kernel
theorem dX11_again_235 : decode cX11_again 235 = .ok (.goto (-34), 3) := by decide +kernel
theorem dX11_again_238 : decode cX11_again 238 = .ok (.aload_n 0, 1) := by decide +kernel
theorem dX11_again_239 : decode cX11_again 239 = .ok (.getfield 30, 3) := by decide +kernel
theorem dX11_again_242 : decode cX11_again 242 = .ok (.iconst 0, 1) := by decide +kernel
theorem dX11_again_243 : decode cX11_again 243 = .ok (.aload_n 1, 1) := by decide +kernel
theorem dX11_again_244 : decode cX11_again 244 = .ok (.sipush 146, 3) := by decide +kernel
theorem dX11_again_247 : decode cX11_again 247 = .ok (.iaload, 1) := by decide +kernel
theorem dX11_again_248 : decode cX11_again 248 = .ok (.iastore, 1) := by decide +kernel
theorem dX11_again_249 : decode cX11_again 249 = .ok (.aload_n 0, 1) := by decide +kernel
theorem dX11_again_250 : decode cX11_again 250 = .ok (.getfield 30, 3) := by decide +kernel
theorem dX11_again_253 : decode cX11_again 253 = .ok (.iconst 1, 1) := by decide +kernel
theorem dX11_again_254 : decode cX11_again 254 = .ok (.aload_n 1, 1) := by decide +kernel
theorem dX11_again_255 : decode cX11_again 255 = .ok (.sipush 147, 3) := by decide +kernel
theorem dX11_again_258 : decode cX11_again 258 = .ok (.iaload, 1) := by decide +kernel
theorem dX11_again_259 : decode cX11_again 259 = .ok (.iastore, 1) := by decide +kernel
theorem dX11_again_260 : decode cX11_again 260 = .ok (.aload_n 0, 1) := by decide +kernel
theorem dX11_again_261 : decode cX11_again 261 = .ok (.aload_n 1, 1) := by decide +kernel
theorem dX11_again_262 : decode cX11_again 262 = .ok (.sipush 148, 3) := by decide +kernel
theorem dX11_again_265 : decode cX11_again 265 = .ok (.iaload, 1) := by decide +kernel
theorem dX11_again_266 : decode cX11_again 266 = .ok (.aload_n 1, 1) := by decide +kernel
theorem dX11_again_267 : decode cX11_again 267 = .ok (.sipush 149, 3) := by decide +kernel
theorem dX11_again_270 : decode cX11_again 270 = .ok (.iaload, 1) := by decide +kernel
theorem dX11_again_271 : decode cX11_again 271 = .ok (.aload_n 1, 1) := by decide +kernel
theorem dX11_again_272 : decode cX11_again 272 = .ok (.sipush 150, 3) := by decide +kernel
theorem dX11_again_275 : decode cX11_again 275 = .ok (.iaload, 1) := by decide +kernel
theorem dX11_again_276 : decode cX11_again 276 = .ok (.invokevirtual 132, 3) := by decide +kernel
theorem dX11_again_279 : decode cX11_again 279 = .ok (.aload_n 0, 1) := by decide +kernel
theorem dX11_again_280 : decode cX11_again 280 = .ok (.aload_n 1, 1) := by decide +kernel
theorem dX11_again_281 : decode cX11_again 281 = .ok (.sipush 151, 3) := by decide +kernel
theorem dX11_again_284 : decode cX11_again 284 = .ok (.iaload, 1) := by decide +kernel
theorem dX11_again_285 : decode cX11_again 285 = .ok (.putfield 143, 3) := by decide +kernel
theorem dX11_again_288 : decode cX11_again 288 = .ok (.aload_n 0, 1) := by decide +kernel
theorem dX11_again_289 : decode cX11_again 289 = .ok (.aload_n 1, 1) := by decide +kernel
theorem dX11_again_290 : decode cX11_again 290 = .ok (.sipush 152, 3) := by decide +kernel
theorem dX11_again_293 : decode cX11_again 293 = .ok (.iaload, 1) := by decide +kernel
theorem dX11_again_294 : decode cX11_again 294 = .ok (.putfield 296, 3) := by decide +kernel
theorem dX11_again_297 : decode cX11_again 297 = .ok (.aload_n 0, 1) := by decide +kernel
theorem dX11_again_298 : decode cX11_again 298 = .ok (.aload_n 1, 1) := by decide +kernel
theorem dX11_again_299 : decode cX11_again 299 = .ok (.sipush 153, 3) := by decide +kernel
theorem dX11_again_302 : decode cX11_again 302 = .ok (.iaload, 1) := by decide +kernel
theorem dX11_again_303 : decode cX11_again 303 = .ok (.putfield 319, 3) := by decide +kernel
theorem dX11_again_306 : decode cX11_again 306 = .ok (.aload_n 0, 1) := by decide +kernel
theorem dX11_again_307 : decode cX11_again 307 = .ok (.aload_n 1, 1) := by decide +kernel
theorem dX11_again_308 : decode cX11_again 308 = .ok (.sipush 154, 3) := by decide +kernel
theorem dX11_again_311 : decode cX11_again 311 = .ok (.iaload, 1) := by decide +kernel
theorem dX11_again_312 : decode cX11_again 312 = .ok (.putfield 333, 3) := by decide +kernel
theorem dX11_again_315 : decode cX11_again 315 = .ok (.return_, 1) := by decide +kernel
theorem dX11_image_0 : decode cX11_image 0 = .ok (.aload_n 0, 1) := by decide +kernel
theorem dX11_image_1 : decode cX11_image 1 = .ok (.iconst 1, 1) := by decide +kernel
theorem dX11_image_2 : decode cX11_image 2 = .ok (.putfield 336, 3) := by decide +kernel
theorem dX11_image_5 : decode cX11_image 5 = .ok (.aload_n 0, 1) := by decide +kernel
theorem dX11_image_6 : decode cX11_image 6 = .ok (.aload_n 0, 1) := by decide +kernel
theorem dX11_image_7 : decode cX11_image 7 = .ok (.getfield 54, 3) := by decide +kernel
theorem dX11_image_10 : decode cX11_image 10 = .ok (.invokevirtual 322, 3) := by decide +kernel
theorem dX11_image_13 : decode cX11_image 13 = .ok (.aload_n 0, 1) := by decide +kernel
theorem dX11_image_14 : decode cX11_image 14 = .ok (.invokevirtual 257, 3) := by decide +kernel
theorem dX11_image_17 : decode cX11_image 17 = .ok (.ireturn, 1) := by decide +kernel
theorem dX11_undo_0 : decode cX11_undo 0 = .ok (.aload_n 0, 1) := by decide +kernel
theorem dX11_undo_1 : decode cX11_undo 1 = .ok (.getfield 336, 3) := by decide +kernel
theorem dX11_undo_4 : decode cX11_undo 4 = .ok (.ifCond .ne 6, 3) := by decide +kernel
theorem dX11_undo_7 : decode cX11_undo 7 = .ok (.bipush (-3), 2) := by decide +kernel
theorem dX11_undo_9 : decode cX11_undo 9 = .ok (.ireturn, 1) := by decide +kernel
theorem dX11_undo_10 : decode cX11_undo 10 = .ok (.aload_n 0, 1) := by decide +kernel
theorem dX11_undo_11 : decode cX11_undo 11 = .ok (.aload_n 0, 1) := by decide +kernel
theorem dX11_undo_12 : decode cX11_undo 12 = .ok (.getfield 54, 3) := by decide +kernel
theorem dX11_undo_15 : decode cX11_undo 15 = .ok (.invokevirtual 330, 3) := by decide +kernel
theorem dX11_undo_18 : decode cX11_undo 18 = .ok (.aload_n 0, 1) := by decide +kernel
theorem dX11_undo_19 : decode cX11_undo 19 = .ok (.invokevirtual 257, 3) := by decide +kernel
theorem dX11_undo_22 : decode cX11_undo 22 = .ok (.ireturn, 1) := by decide +kernel
theorem dX11_count_0 : decode cX11_count 0 = .ok (.iload_n 1, 1) := by decide +kernel
theorem dX11_count_1 : decode cX11_count 1 = .ok (.tableswitch 60 0 4 #[35, 40, 45, 50, 55], 35) := by decide +kernel
theorem dX11_count_36 : decode cX11_count 36 = .ok (.aload_n 0, 1) := by decide +kernel
theorem dX11_count_37 : decode cX11_count 37 = .ok (.getfield 296, 3) := by decide +kernel
theorem dX11_count_40 : decode cX11_count 40 = .ok (.ireturn, 1) := by decide +kernel
theorem dX11_count_41 : decode cX11_count 41 = .ok (.aload_n 0, 1) := by decide +kernel
theorem dX11_count_42 : decode cX11_count 42 = .ok (.getfield 319, 3) := by decide +kernel
theorem dX11_count_45 : decode cX11_count 45 = .ok (.ireturn, 1) := by decide +kernel
theorem dX11_count_46 : decode cX11_count 46 = .ok (.aload_n 0, 1) := by decide +kernel
theorem dX11_count_47 : decode cX11_count 47 = .ok (.getfield 333, 3) := by decide +kernel
theorem dX11_count_50 : decode cX11_count 50 = .ok (.ireturn, 1) := by decide +kernel
theorem dX11_count_51 : decode cX11_count 51 = .ok (.aload_n 0, 1) := by decide +kernel
theorem dX11_count_52 : decode cX11_count 52 = .ok (.getfield 146, 3) := by decide +kernel
theorem dX11_count_55 : decode cX11_count 55 = .ok (.ireturn, 1) := by decide +kernel
theorem dX11_count_56 : decode cX11_count 56 = .ok (.aload_n 0, 1) := by decide +kernel
theorem dX11_count_57 : decode cX11_count 57 = .ok (.getfield 143, 3) := by decide +kernel
theorem dX11_count_60 : decode cX11_count 60 = .ok (.ireturn, 1) := by decide +kernel
theorem dX11_count_61 : decode cX11_count 61 = .ok (.bipush (-2), 2) := by decide +kernel
theorem dX11_count_63 : decode cX11_count 63 = .ok (.ireturn, 1) := by decide +kernel
theorem dX11_isTape_0 : decode cX11_isTape 0 = .ok (.iload_n 0, 1) := by decide +kernel
theorem dX11_isTape_1 : decode cX11_isTape 1 = .ok (.iconst 0, 1) := by decide +kernel
theorem dX11_isTape_2 : decode cX11_isTape 2 = .ok (.iconst 5, 1) := by decide +kernel
theorem dX11_isTape_3 : decode cX11_isTape 3 = .ok (.invokestatic 85, 3) := by decide +kernel
theorem dX11_isTape_6 : decode cX11_isTape 6 = .ok (.ireturn, 1) := by decide +kernel
theorem dX11_judge_0 : decode cX11_judge 0 = .ok (.iload_n 1, 1) := by decide +kernel
theorem dX11_judge_1 : decode cX11_judge 1 = .ok (.invokestatic 340, 3) := by decide +kernel
theorem dX11_judge_4 : decode cX11_judge 4 = .ok (.ifCond .ne 5, 3) := by decide +kernel
theorem dX11_judge_7 : decode cX11_judge 7 = .ok (.iconst (-1), 1) := by decide +kernel
theorem dX11_judge_8 : decode cX11_judge 8 = .ok (.ireturn, 1) := by decide +kernel
theorem dX11_judge_9 : decode cX11_judge 9 = .ok (.aload_n 0, 1) := by decide +kernel
theorem dX11_judge_10 : decode cX11_judge 10 = .ok (.getfield 72, 3) := by decide +kernel
theorem dX11_judge_13 : decode cX11_judge 13 = .ok (.iload_n 1, 1) := by decide +kernel
theorem dX11_judge_14 : decode cX11_judge 14 = .ok (.iaload, 1) := by decide +kernel
theorem dX11_judge_15 : decode cX11_judge 15 = .ok (.ifCond .lt 16, 3) := by decide +kernel
theorem dX11_judge_18 : decode cX11_judge 18 = .ok (.aload_n 0, 1) := by decide +kernel
theorem dX11_judge_19 : decode cX11_judge 19 = .ok (.getfield 72, 3) := by decide +kernel
theorem dX11_judge_22 : decode cX11_judge 22 = .ok (.iload_n 1, 1) := by decide +kernel
theorem dX11_judge_23 : decode cX11_judge 23 = .ok (.iaload, 1) := by decide +kernel
theorem dX11_judge_24 : decode cX11_judge 24 = .ok (.iconst 2, 1) := by decide +kernel
theorem dX11_judge_25 : decode cX11_judge 25 = .ok (.if_icmp .eq 6, 3) := by decide +kernel
theorem dX11_judge_28 : decode cX11_judge 28 = .ok (.bipush (-12), 2) := by decide +kernel
theorem dX11_judge_30 : decode cX11_judge 30 = .ok (.ireturn, 1) := by decide +kernel
theorem dX11_judge_31 : decode cX11_judge 31 = .ok (.aload_n 0, 1) := by decide +kernel
theorem dX11_judge_32 : decode cX11_judge 32 = .ok (.invokevirtual 136, 3) := by decide +kernel
theorem dX11_judge_35 : decode cX11_judge 35 = .ok (.iconst 0, 1) := by decide +kernel
theorem dX11_judge_36 : decode cX11_judge 36 = .ok (.istore_n 3, 1) := by decide +kernel
theorem dX11_judge_37 : decode cX11_judge 37 = .ok (.iload_n 3, 1) := by decide +kernel
theorem dX11_judge_38 : decode cX11_judge 38 = .ok (.bipush 36, 2) := by decide +kernel
theorem dX11_judge_40 : decode cX11_judge 40 = .ok (.if_icmp .ge 68, 3) := by decide +kernel
theorem dX11_judge_43 : decode cX11_judge 43 = .ok (.aload_n 0, 1) := by decide +kernel
theorem dX11_judge_44 : decode cX11_judge 44 = .ok (.getfield 72, 3) := by decide +kernel
theorem dX11_judge_47 : decode cX11_judge 47 = .ok (.iload_n 1, 1) := by decide +kernel
theorem dX11_judge_48 : decode cX11_judge 48 = .ok (.iaload, 1) := by decide +kernel
theorem dX11_judge_49 : decode cX11_judge 49 = .ok (.ifCond .lt 23, 3) := by decide +kernel
theorem dX11_judge_52 : decode cX11_judge 52 = .ok (.iload_n 2, 1) := by decide +kernel
theorem dX11_judge_53 : decode cX11_judge 53 = .ok (.ifCond .lt 19, 3) := by decide +kernel
theorem dX11_judge_56 : decode cX11_judge 56 = .ok (.iload_n 2, 1) := by decide +kernel
theorem dX11_judge_57 : decode cX11_judge 57 = .ok (.i2l, 1) := by decide +kernel
theorem dX11_judge_58 : decode cX11_judge 58 = .ok (.iload_n 3, 1) := by decide +kernel
theorem dX11_judge_59 : decode cX11_judge 59 = .ok (.i2l, 1) := by decide +kernel
theorem dX11_judge_60 : decode cX11_judge 60 = .ok (.ladd, 1) := by decide +kernel
theorem dX11_judge_61 : decode cX11_judge 61 = .ok (.aload_n 0, 1) := by decide +kernel
theorem dX11_judge_62 : decode cX11_judge 62 = .ok (.getfield 75, 3) := by decide +kernel
theorem dX11_judge_65 : decode cX11_judge 65 = .ok (.iload_n 1, 1) := by decide +kernel
theorem dX11_judge_66 : decode cX11_judge 66 = .ok (.iaload, 1) := by decide +kernel
theorem dX11_judge_67 : decode cX11_judge 67 = .ok (.i2l, 1) := by decide +kernel
theorem dX11_judge_68 : decode cX11_judge 68 = .ok (.lcmp, 1) := by decide +kernel
theorem dX11_judge_69 : decode cX11_judge 69 = .ok (.ifCond .lt 8, 3) := by decide +kernel
theorem dX11_judge_72 : decode cX11_judge 72 = .ok (.bipush 100, 2) := by decide +kernel
theorem dX11_judge_74 : decode cX11_judge 74 = .ok (.iload_n 3, 1) := by decide +kernel
theorem dX11_judge_75 : decode cX11_judge 75 = .ok (.iadd, 1) := by decide +kernel
theorem dX11_judge_76 : decode cX11_judge 76 = .ok (.ireturn, 1) := by decide +kernel
theorem dX11_judge_77 : decode cX11_judge 77 = .ok (.aload_n 0, 1) := by decide +kernel
theorem dX11_judge_78 : decode cX11_judge 78 = .ok (.getfield 78, 3) := by decide +kernel
theorem dX11_judge_81 : decode cX11_judge 81 = .ok (.bipush 60, 2) := by decide +kernel
theorem dX11_judge_83 : decode cX11_judge 83 = .ok (.iload_n 1, 1) := by decide +kernel
theorem dX11_judge_84 : decode cX11_judge 84 = .ok (.imul, 1) := by decide +kernel
theorem dX11_judge_85 : decode cX11_judge 85 = .ok (.iload_n 2, 1) := by decide +kernel
theorem dX11_judge_86 : decode cX11_judge 86 = .ok (.iadd, 1) := by decide +kernel
theorem dX11_judge_87 : decode cX11_judge 87 = .ok (.iload_n 3, 1) := by decide +kernel
theorem dX11_judge_88 : decode cX11_judge 88 = .ok (.iadd, 1) := by decide +kernel
theorem dX11_judge_89 : decode cX11_judge 89 = .ok (.laload, 1) := by decide +kernel
theorem dX11_judge_90 : decode cX11_judge 90 = .ok (.aload_n 0, 1) := by decide +kernel
theorem dX11_judge_91 : decode cX11_judge 91 = .ok (.iload_n 3, 1) := by decide +kernel
theorem dX11_judge_92 : decode cX11_judge 92 = .ok (.invokevirtual 244, 3) := by decide +kernel
theorem dX11_judge_95 : decode cX11_judge 95 = .ok (.i2l, 1) := by decide +kernel
theorem dX11_judge_96 : decode cX11_judge 96 = .ok (.lcmp, 1) := by decide +kernel
theorem dX11_judge_97 : decode cX11_judge 97 = .ok (.ifCond .eq 5, 3) := by decide +kernel
theorem dX11_judge_100 : decode cX11_judge 100 = .ok (.iload_n 3, 1) := by decide +kernel
theorem dX11_judge_101 : decode cX11_judge 101 = .ok (.ireturn, 1) := by decide +kernel
theorem dX11_judge_102 : decode cX11_judge 102 = .ok (.iinc 3 1, 3) := by decide +kernel
theorem dX11_judge_105 : decode cX11_judge 105 = .ok (.goto (-68), 3) := by decide +kernel
theorem dX11_judge_108 : decode cX11_judge 108 = .ok (.bipush (-5), 2) := by decide +kernel
theorem dX11_judge_110 : decode cX11_judge 110 = .ok (.ireturn, 1) := by decide +kernel
theorem dX11_tape_0 : decode cX11_tape 0 = .ok (.iload_n 1, 1) := by decide +kernel
theorem dX11_tape_1 : decode cX11_tape 1 = .ok (.invokestatic 340, 3) := by decide +kernel
theorem dX11_tape_4 : decode cX11_tape 4 = .ok (.ifCond .ne 5, 3) := by decide +kernel
theorem dX11_tape_7 : decode cX11_tape 7 = .ok (.iconst (-1), 1) := by decide +kernel
theorem dX11_tape_8 : decode cX11_tape 8 = .ok (.ireturn, 1) := by decide +kernel
theorem dX11_tape_9 : decode cX11_tape 9 = .ok (.iload_n 2, 1) := by decide +kernel
theorem dX11_tape_10 : decode cX11_tape 10 = .ok (.iconst (-1), 1) := by decide +kernel
theorem dX11_tape_11 : decode cX11_tape 11 = .ok (.iconst 4, 1) := by decide +kernel
theorem dX11_tape_12 : decode cX11_tape 12 = .ok (.invokestatic 85, 3) := by decide +kernel
theorem dX11_tape_15 : decode cX11_tape 15 = .ok (.ifCond .eq 13, 3) := by decide +kernel
theorem dX11_tape_18 : decode cX11_tape 18 = .ok (.iload_n 2, 1) := by decide +kernel
theorem dX11_tape_19 : decode cX11_tape 19 = .ok (.ifCond .lt 12, 3) := by decide +kernel
theorem dX11_tape_22 : decode cX11_tape 22 = .ok (.iload_n 3, 1) := by decide +kernel
theorem dX11_tape_23 : decode cX11_tape 23 = .ok (.bipush 60, 2) := by decide +kernel
theorem dX11_tape_25 : decode cX11_tape 25 = .ok (.if_icmp .le 6, 3) := by decide +kernel
theorem dX11_tape_28 : decode cX11_tape 28 = .ok (.bipush (-2), 2) := by decide +kernel
theorem dX11_tape_30 : decode cX11_tape 30 = .ok (.ireturn, 1) := by decide +kernel
theorem dX11_tape_31 : decode cX11_tape 31 = .ok (.iload_n 2, 1) := by decide +kernel
theorem dX11_tape_32 : decode cX11_tape 32 = .ok (.ifCond .lt 10, 3) := by decide +kernel
theorem dX11_tape_35 : decode cX11_tape 35 = .ok (.iload_n 3, 1) := by decide +kernel
theorem dX11_tape_36 : decode cX11_tape 36 = .ok (.ifCond .ge 6, 3) := by decide +kernel
theorem dX11_tape_39 : decode cX11_tape 39 = .ok (.bipush (-14), 2) := by decide +kernel
theorem dX11_tape_41 : decode cX11_tape 41 = .ok (.ireturn, 1) := by decide +kernel
theorem dX11_tape_42 : decode cX11_tape 42 = .ok (.aload_n 0, 1) := by decide +kernel
theorem dX11_tape_43 : decode cX11_tape 43 = .ok (.getfield 72, 3) := by decide +kernel
theorem dX11_tape_46 : decode cX11_tape 46 = .ok (.iload_n 1, 1) := by decide +kernel
theorem dX11_tape_47 : decode cX11_tape 47 = .ok (.iload_n 2, 1) := by decide +kernel
theorem dX11_tape_48 : decode cX11_tape 48 = .ok (.iastore, 1) := by decide +kernel
theorem dX11_tape_49 : decode cX11_tape 49 = .ok (.aload_n 0, 1) := by decide +kernel
theorem dX11_tape_50 : decode cX11_tape 50 = .ok (.getfield 75, 3) := by decide +kernel
theorem dX11_tape_53 : decode cX11_tape 53 = .ok (.iload_n 1, 1) := by decide +kernel
theorem dX11_tape_54 : decode cX11_tape 54 = .ok (.iload_n 2, 1) := by decide +kernel
theorem dX11_tape_55 : decode cX11_tape 55 = .ok (.ifCond .ge 7, 3) := by decide +kernel
theorem dX11_tape_58 : decode cX11_tape 58 = .ok (.iconst 0, 1) := by decide +kernel
theorem dX11_tape_59 : decode cX11_tape 59 = .ok (.goto 4, 3) := by decide +kernel
theorem dX11_tape_62 : decode cX11_tape 62 = .ok (.iload_n 3, 1) := by decide +kernel
theorem dX11_tape_63 : decode cX11_tape 63 = .ok (.iastore, 1) := by decide +kernel
theorem dX11_tape_64 : decode cX11_tape 64 = .ok (.iconst 0, 1) := by decide +kernel
theorem dX11_tape_65 : decode cX11_tape 65 = .ok (.istore 4, 2) := by decide +kernel
theorem dX11_tape_67 : decode cX11_tape 67 = .ok (.iload 4, 2) := by decide +kernel
theorem dX11_tape_69 : decode cX11_tape 69 = .ok (.bipush 60, 2) := by decide +kernel
theorem dX11_tape_71 : decode cX11_tape 71 = .ok (.if_icmp .ge 22, 3) := by decide +kernel
theorem dX11_tape_74 : decode cX11_tape 74 = .ok (.aload_n 0, 1) := by decide +kernel
theorem dX11_tape_75 : decode cX11_tape 75 = .ok (.getfield 78, 3) := by decide +kernel
theorem dX11_tape_78 : decode cX11_tape 78 = .ok (.bipush 60, 2) := by decide +kernel
theorem dX11_tape_80 : decode cX11_tape 80 = .ok (.iload_n 1, 1) := by decide +kernel
theorem dX11_tape_81 : decode cX11_tape 81 = .ok (.imul, 1) := by decide +kernel
theorem dX11_tape_82 : decode cX11_tape 82 = .ok (.iload 4, 2) := by decide +kernel
theorem dX11_tape_84 : decode cX11_tape 84 = .ok (.iadd, 1) := by decide +kernel
theorem dX11_tape_85 : decode cX11_tape 85 = .ok (.lconst 0, 1) := by decide +kernel
theorem dX11_tape_86 : decode cX11_tape 86 = .ok (.lastore, 1) := by decide +kernel
theorem dX11_tape_87 : decode cX11_tape 87 = .ok (.iinc 4 1, 3) := by decide +kernel
theorem dX11_tape_90 : decode cX11_tape 90 = .ok (.goto (-23), 3) := by decide +kernel
theorem dX11_tape_93 : decode cX11_tape 93 = .ok (.iconst 1, 1) := by decide +kernel
theorem dX11_tape_94 : decode cX11_tape 94 = .ok (.ireturn, 1) := by decide +kernel
theorem dX11_narrowed_0 : decode cX11_narrowed 0 = .ok (.iload_n 0, 1) := by decide +kernel
theorem dX11_narrowed_1 : decode cX11_narrowed 1 = .ok (.tableswitch 47 0 3 #[31, 36, 41, 45], 31) := by decide +kernel
theorem dX11_narrowed_32 : decode cX11_narrowed 32 = .ok (.lload_n 1, 1) := by decide +kernel
theorem dX11_narrowed_33 : decode cX11_narrowed 33 = .ok (.l2i, 1) := by decide +kernel
theorem dX11_narrowed_34 : decode cX11_narrowed 34 = .ok (.i2b, 1) := by decide +kernel
theorem dX11_narrowed_35 : decode cX11_narrowed 35 = .ok (.i2l, 1) := by decide +kernel
theorem dX11_narrowed_36 : decode cX11_narrowed 36 = .ok (.lreturn, 1) := by decide +kernel
theorem dX11_narrowed_37 : decode cX11_narrowed 37 = .ok (.lload_n 1, 1) := by decide +kernel
theorem dX11_narrowed_38 : decode cX11_narrowed 38 = .ok (.l2i, 1) := by decide +kernel
theorem dX11_narrowed_39 : decode cX11_narrowed 39 = .ok (.i2s, 1) := by decide +kernel
theorem dX11_narrowed_40 : decode cX11_narrowed 40 = .ok (.i2l, 1) := by decide +kernel
theorem dX11_narrowed_41 : decode cX11_narrowed 41 = .ok (.lreturn, 1) := by decide +kernel
theorem dX11_narrowed_42 : decode cX11_narrowed 42 = .ok (.lload_n 1, 1) := by decide +kernel
theorem dX11_narrowed_43 : decode cX11_narrowed 43 = .ok (.l2i, 1) := by decide +kernel
theorem dX11_narrowed_44 : decode cX11_narrowed 44 = .ok (.i2l, 1) := by decide +kernel
theorem dX11_narrowed_45 : decode cX11_narrowed 45 = .ok (.lreturn, 1) := by decide +kernel
theorem dX11_narrowed_46 : decode cX11_narrowed 46 = .ok (.lload_n 1, 1) := by decide +kernel
theorem dX11_narrowed_47 : decode cX11_narrowed 47 = .ok (.lreturn, 1) := by decide +kernel
theorem dX11_narrowed_48 : decode cX11_narrowed 48 = .ok (.lload_n 1, 1) := by decide +kernel
theorem dX11_narrowed_49 : decode cX11_narrowed 49 = .ok (.lconst 0, 1) := by decide +kernel
theorem dX11_narrowed_50 : decode cX11_narrowed 50 = .ok (.lcmp, 1) := by decide +kernel
theorem dX11_narrowed_51 : decode cX11_narrowed 51 = .ok (.ifCond .eq 7, 3) := by decide +kernel
theorem dX11_narrowed_54 : decode cX11_narrowed 54 = .ok (.lconst 1, 1) := by decide +kernel
theorem dX11_narrowed_55 : decode cX11_narrowed 55 = .ok (.goto 4, 3) := by decide +kernel
theorem dX11_narrowed_58 : decode cX11_narrowed 58 = .ok (.lconst 0, 1) := by decide +kernel
theorem dX11_narrowed_59 : decode cX11_narrowed 59 = .ok (.lreturn, 1) := by decide +kernel
theorem dX11_item_0 : decode cX11_item 0 = .ok (.iload_n 1, 1) := by decide +kernel
theorem dX11_item_1 : decode cX11_item 1 = .ok (.invokestatic 340, 3) := by decide +kernel
theorem dX11_item_4 : decode cX11_item 4 = .ok (.ifCond .ne 5, 3) := by decide +kernel
theorem dX11_item_7 : decode cX11_item 7 = .ok (.iconst (-1), 1) := by decide +kernel
theorem dX11_item_8 : decode cX11_item 8 = .ok (.ireturn, 1) := by decide +kernel
theorem dX11_item_9 : decode cX11_item 9 = .ok (.aload_n 0, 1) := by decide +kernel
theorem dX11_item_10 : decode cX11_item 10 = .ok (.getfield 72, 3) := by decide +kernel
theorem dX11_item_13 : decode cX11_item 13 = .ok (.iload_n 1, 1) := by decide +kernel
theorem dX11_item_14 : decode cX11_item 14 = .ok (.iaload, 1) := by decide +kernel
theorem dX11_item_15 : decode cX11_item 15 = .ok (.ifCond .ge 6, 3) := by decide +kernel
theorem dX11_item_18 : decode cX11_item 18 = .ok (.bipush (-11), 2) := by decide +kernel
theorem dX11_item_20 : decode cX11_item 20 = .ok (.ireturn, 1) := by decide +kernel
theorem dX11_item_21 : decode cX11_item 21 = .ok (.iload_n 2, 1) := by decide +kernel
theorem dX11_item_22 : decode cX11_item 22 = .ok (.iconst 0, 1) := by decide +kernel
theorem dX11_item_23 : decode cX11_item 23 = .ok (.aload_n 0, 1) := by decide +kernel
theorem dX11_item_24 : decode cX11_item 24 = .ok (.getfield 75, 3) := by decide +kernel
theorem dX11_item_27 : decode cX11_item 27 = .ok (.iload_n 1, 1) := by decide +kernel
theorem dX11_item_28 : decode cX11_item 28 = .ok (.iaload, 1) := by decide +kernel
theorem dX11_item_29 : decode cX11_item 29 = .ok (.iconst 1, 1) := by decide +kernel
theorem dX11_item_30 : decode cX11_item 30 = .ok (.isub, 1) := by decide +kernel
theorem dX11_item_31 : decode cX11_item 31 = .ok (.invokestatic 85, 3) := by decide +kernel
theorem dX11_item_34 : decode cX11_item 34 = .ok (.ifCond .ne 6, 3) := by decide +kernel
theorem dX11_item_37 : decode cX11_item 37 = .ok (.bipush (-13), 2) := by decide +kernel
theorem dX11_item_39 : decode cX11_item 39 = .ok (.ireturn, 1) := by decide +kernel
theorem dX11_item_40 : decode cX11_item 40 = .ok (.aload_n 0, 1) := by decide +kernel
theorem dX11_item_41 : decode cX11_item 41 = .ok (.getfield 78, 3) := by decide +kernel
theorem dX11_item_44 : decode cX11_item 44 = .ok (.bipush 60, 2) := by decide +kernel
theorem dX11_item_46 : decode cX11_item 46 = .ok (.iload_n 1, 1) := by decide +kernel
theorem dX11_item_47 : decode cX11_item 47 = .ok (.imul, 1) := by decide +kernel
theorem dX11_item_48 : decode cX11_item 48 = .ok (.iload_n 2, 1) := by decide +kernel
theorem dX11_item_49 : decode cX11_item 49 = .ok (.iadd, 1) := by decide +kernel
theorem dX11_item_50 : decode cX11_item 50 = .ok (.aload_n 0, 1) := by decide +kernel
theorem dX11_item_51 : decode cX11_item 51 = .ok (.getfield 72, 3) := by decide +kernel
theorem dX11_item_54 : decode cX11_item 54 = .ok (.iload_n 1, 1) := by decide +kernel
theorem dX11_item_55 : decode cX11_item 55 = .ok (.iaload, 1) := by decide +kernel
theorem dX11_item_56 : decode cX11_item 56 = .ok (.lload_n 3, 1) := by decide +kernel
theorem dX11_item_57 : decode cX11_item 57 = .ok (.invokestatic 343, 3) := by decide +kernel
theorem dX11_item_60 : decode cX11_item 60 = .ok (.lastore, 1) := by decide +kernel
theorem dX11_item_61 : decode cX11_item 61 = .ok (.iconst 1, 1) := by decide +kernel
theorem dX11_item_62 : decode cX11_item 62 = .ok (.ireturn, 1) := by decide +kernel
theorem dX11_peek_0 : decode cX11_peek 0 = .ok (.iload_n 1, 1) := by decide +kernel
theorem dX11_peek_1 : decode cX11_peek 1 = .ok (.invokestatic 340, 3) := by decide +kernel
theorem dX11_peek_4 : decode cX11_peek 4 = .ok (.ifCond .eq 33, 3) := by decide +kernel
theorem dX11_peek_7 : decode cX11_peek 7 = .ok (.iload_n 2, 1) := by decide +kernel
theorem dX11_peek_8 : decode cX11_peek 8 = .ok (.iconst 0, 1) := by decide +kernel
theorem dX11_peek_9 : decode cX11_peek 9 = .ok (.aload_n 0, 1) := by decide +kernel
theorem dX11_peek_10 : decode cX11_peek 10 = .ok (.getfield 75, 3) := by decide +kernel
theorem dX11_peek_13 : decode cX11_peek 13 = .ok (.iload_n 1, 1) := by decide +kernel
theorem dX11_peek_14 : decode cX11_peek 14 = .ok (.iaload, 1) := by decide +kernel
theorem dX11_peek_15 : decode cX11_peek 15 = .ok (.iconst 1, 1) := by decide +kernel
theorem dX11_peek_16 : decode cX11_peek 16 = .ok (.isub, 1) := by decide +kernel
theorem dX11_peek_17 : decode cX11_peek 17 = .ok (.invokestatic 85, 3) := by decide +kernel
theorem dX11_peek_20 : decode cX11_peek 20 = .ok (.ifCond .eq 17, 3) := by decide +kernel
theorem dX11_peek_23 : decode cX11_peek 23 = .ok (.aload_n 0, 1) := by decide +kernel
theorem dX11_peek_24 : decode cX11_peek 24 = .ok (.getfield 78, 3) := by decide +kernel
theorem dX11_peek_27 : decode cX11_peek 27 = .ok (.bipush 60, 2) := by decide +kernel
theorem dX11_peek_29 : decode cX11_peek 29 = .ok (.iload_n 1, 1) := by decide +kernel
theorem dX11_peek_30 : decode cX11_peek 30 = .ok (.imul, 1) := by decide +kernel
theorem dX11_peek_31 : decode cX11_peek 31 = .ok (.iload_n 2, 1) := by decide +kernel
theorem dX11_peek_32 : decode cX11_peek 32 = .ok (.iadd, 1) := by decide +kernel
theorem dX11_peek_33 : decode cX11_peek 33 = .ok (.laload, 1) := by decide +kernel
theorem dX11_peek_34 : decode cX11_peek 34 = .ok (.goto 6, 3) := by decide +kernel
theorem dX11_peek_37 : decode cX11_peek 37 = .ok (.ldc2_w 276, 3) := by decide +kernel
theorem dX11_peek_40 : decode cX11_peek 40 = .ok (.lreturn, 1) := by decide +kernel
theorem dX11_shift_0 : decode cX11_shift 0 = .ok (.iload_n 1, 1) := by decide +kernel
theorem dX11_shift_1 : decode cX11_shift 1 = .ok (.invokestatic 340, 3) := by decide +kernel
theorem dX11_shift_4 : decode cX11_shift 4 = .ok (.ifCond .eq 10, 3) := by decide +kernel
theorem dX11_shift_7 : decode cX11_shift 7 = .ok (.iload_n 3, 1) := by decide +kernel
theorem dX11_shift_8 : decode cX11_shift 8 = .ok (.invokestatic 340, 3) := by decide +kernel
theorem dX11_shift_11 : decode cX11_shift 11 = .ok (.ifCond .ne 5, 3) := by decide +kernel
theorem dX11_shift_14 : decode cX11_shift 14 = .ok (.iconst (-1), 1) := by decide +kernel
theorem dX11_shift_15 : decode cX11_shift 15 = .ok (.ireturn, 1) := by decide +kernel
theorem dX11_shift_16 : decode cX11_shift 16 = .ok (.aload_n 0, 1) := by decide +kernel
theorem dX11_shift_17 : decode cX11_shift 17 = .ok (.getfield 72, 3) := by decide +kernel
theorem dX11_shift_20 : decode cX11_shift 20 = .ok (.iload_n 1, 1) := by decide +kernel
theorem dX11_shift_21 : decode cX11_shift 21 = .ok (.iaload, 1) := by decide +kernel
theorem dX11_shift_22 : decode cX11_shift 22 = .ok (.ifCond .lt 12, 3) := by decide +kernel
theorem dX11_shift_25 : decode cX11_shift 25 = .ok (.aload_n 0, 1) := by decide +kernel
theorem dX11_shift_26 : decode cX11_shift 26 = .ok (.getfield 72, 3) := by decide +kernel
theorem dX11_shift_29 : decode cX11_shift 29 = .ok (.iload_n 3, 1) := by decide +kernel
theorem dX11_shift_30 : decode cX11_shift 30 = .ok (.iaload, 1) := by decide +kernel
theorem dX11_shift_31 : decode cX11_shift 31 = .ok (.ifCond .ge 6, 3) := by decide +kernel
theorem dX11_shift_34 : decode cX11_shift 34 = .ok (.bipush (-11), 2) := by decide +kernel
theorem dX11_shift_36 : decode cX11_shift 36 = .ok (.ireturn, 1) := by decide +kernel
theorem dX11_shift_37 : decode cX11_shift 37 = .ok (.aload_n 0, 1) := by decide +kernel
theorem dX11_shift_38 : decode cX11_shift 38 = .ok (.getfield 72, 3) := by decide +kernel
theorem dX11_shift_41 : decode cX11_shift 41 = .ok (.iload_n 1, 1) := by decide +kernel
theorem dX11_shift_42 : decode cX11_shift 42 = .ok (.iaload, 1) := by decide +kernel
theorem dX11_shift_43 : decode cX11_shift 43 = .ok (.aload_n 0, 1) := by decide +kernel
theorem dX11_shift_44 : decode cX11_shift 44 = .ok (.getfield 72, 3) := by decide +kernel
theorem dX11_shift_47 : decode cX11_shift 47 = .ok (.iload_n 3, 1) := by decide +kernel
theorem dX11_shift_48 : decode cX11_shift 48 = .ok (.iaload, 1) := by decide +kernel
theorem dX11_shift_49 : decode cX11_shift 49 = .ok (.if_icmp .eq 6, 3) := by decide +kernel
theorem dX11_shift_52 : decode cX11_shift 52 = .ok (.bipush (-12), 2) := by decide +kernel
theorem dX11_shift_54 : decode cX11_shift 54 = .ok (.ireturn, 1) := by decide +kernel
theorem dX11_shift_55 : decode cX11_shift 55 = .ok (.iload 5, 2) := by decide +kernel
theorem dX11_shift_57 : decode cX11_shift 57 = .ok (.ifCond .lt 47, 3) := by decide +kernel
theorem dX11_shift_60 : decode cX11_shift 60 = .ok (.iload_n 2, 1) := by decide +kernel
theorem dX11_shift_61 : decode cX11_shift 61 = .ok (.ifCond .lt 43, 3) := by decide +kernel
theorem dX11_shift_64 : decode cX11_shift 64 = .ok (.iload 4, 2) := by decide +kernel
theorem dX11_shift_66 : decode cX11_shift 66 = .ok (.ifCond .lt 38, 3) := by decide +kernel
theorem dX11_shift_69 : decode cX11_shift 69 = .ok (.iload_n 2, 1) := by decide +kernel
theorem dX11_shift_70 : decode cX11_shift 70 = .ok (.i2l, 1) := by decide +kernel
theorem dX11_shift_71 : decode cX11_shift 71 = .ok (.iload 5, 2) := by decide +kernel
theorem dX11_shift_73 : decode cX11_shift 73 = .ok (.i2l, 1) := by decide +kernel
theorem dX11_shift_74 : decode cX11_shift 74 = .ok (.ladd, 1) := by decide +kernel
theorem dX11_shift_75 : decode cX11_shift 75 = .ok (.aload_n 0, 1) := by decide +kernel
theorem dX11_shift_76 : decode cX11_shift 76 = .ok (.getfield 75, 3) := by decide +kernel
theorem dX11_shift_79 : decode cX11_shift 79 = .ok (.iload_n 1, 1) := by decide +kernel
theorem dX11_shift_80 : decode cX11_shift 80 = .ok (.iaload, 1) := by decide +kernel
theorem dX11_shift_81 : decode cX11_shift 81 = .ok (.i2l, 1) := by decide +kernel
theorem dX11_shift_82 : decode cX11_shift 82 = .ok (.lcmp, 1) := by decide +kernel
theorem dX11_shift_83 : decode cX11_shift 83 = .ok (.ifCond .gt 21, 3) := by decide +kernel
theorem dX11_shift_86 : decode cX11_shift 86 = .ok (.iload 4, 2) := by decide +kernel
theorem dX11_shift_88 : decode cX11_shift 88 = .ok (.i2l, 1) := by decide +kernel
theorem dX11_shift_89 : decode cX11_shift 89 = .ok (.iload 5, 2) := by decide +kernel
theorem dX11_shift_91 : decode cX11_shift 91 = .ok (.i2l, 1) := by decide +kernel
theorem dX11_shift_92 : decode cX11_shift 92 = .ok (.ladd, 1) := by decide +kernel
theorem dX11_shift_93 : decode cX11_shift 93 = .ok (.aload_n 0, 1) := by decide +kernel
theorem dX11_shift_94 : decode cX11_shift 94 = .ok (.getfield 75, 3) := by decide +kernel
theorem dX11_shift_97 : decode cX11_shift 97 = .ok (.iload_n 3, 1) := by decide +kernel
theorem dX11_shift_98 : decode cX11_shift 98 = .ok (.iaload, 1) := by decide +kernel
theorem dX11_shift_99 : decode cX11_shift 99 = .ok (.i2l, 1) := by decide +kernel
theorem dX11_shift_100 : decode cX11_shift 100 = .ok (.lcmp, 1) := by decide +kernel
theorem dX11_shift_101 : decode cX11_shift 101 = .ok (.ifCond .le 6, 3) := by decide +kernel
theorem dX11_shift_104 : decode cX11_shift 104 = .ok (.bipush (-13), 2) := by decide +kernel
theorem dX11_shift_106 : decode cX11_shift 106 = .ok (.ireturn, 1) := by decide +kernel
theorem dX11_shift_107 : decode cX11_shift 107 = .ok (.iconst 0, 1) := by decide +kernel
theorem dX11_shift_108 : decode cX11_shift 108 = .ok (.istore 6, 2) := by decide +kernel
theorem dX11_shift_110 : decode cX11_shift 110 = .ok (.iload 6, 2) := by decide +kernel
theorem dX11_shift_112 : decode cX11_shift 112 = .ok (.iload 5, 2) := by decide +kernel
theorem dX11_shift_114 : decode cX11_shift 114 = .ok (.if_icmp .ge 30, 3) := by decide +kernel
theorem dX11_shift_117 : decode cX11_shift 117 = .ok (.aload_n 0, 1) := by decide +kernel
theorem dX11_shift_118 : decode cX11_shift 118 = .ok (.getfield 82, 3) := by decide +kernel
theorem dX11_shift_121 : decode cX11_shift 121 = .ok (.iload 6, 2) := by decide +kernel
theorem dX11_shift_123 : decode cX11_shift 123 = .ok (.aload_n 0, 1) := by decide +kernel
theorem dX11_shift_124 : decode cX11_shift 124 = .ok (.getfield 78, 3) := by decide +kernel
theorem dX11_shift_127 : decode cX11_shift 127 = .ok (.bipush 60, 2) := by decide +kernel
theorem dX11_shift_129 : decode cX11_shift 129 = .ok (.iload_n 1, 1) := by decide +kernel
theorem dX11_shift_130 : decode cX11_shift 130 = .ok (.imul, 1) := by decide +kernel
theorem dX11_shift_131 : decode cX11_shift 131 = .ok (.iload_n 2, 1) := by decide +kernel
theorem dX11_shift_132 : decode cX11_shift 132 = .ok (.iadd, 1) := by decide +kernel
theorem dX11_shift_133 : decode cX11_shift 133 = .ok (.iload 6, 2) := by decide +kernel
theorem dX11_shift_135 : decode cX11_shift 135 = .ok (.iadd, 1) := by decide +kernel
theorem dX11_shift_136 : decode cX11_shift 136 = .ok (.laload, 1) := by decide +kernel
theorem dX11_shift_137 : decode cX11_shift 137 = .ok (.lastore, 1) := by decide +kernel
theorem dX11_shift_138 : decode cX11_shift 138 = .ok (.iinc 6 1, 3) := by decide +kernel
theorem dX11_shift_141 : decode cX11_shift 141 = .ok (.goto (-31), 3) := by decide +kernel
theorem dX11_shift_144 : decode cX11_shift 144 = .ok (.iconst 0, 1) := by decide +kernel
theorem dX11_shift_145 : decode cX11_shift 145 = .ok (.istore 6, 2) := by decide +kernel
theorem dX11_shift_147 : decode cX11_shift 147 = .ok (.iload 6, 2) := by decide +kernel
theorem dX11_shift_149 : decode cX11_shift 149 = .ok (.iload 5, 2) := by decide +kernel
theorem dX11_shift_151 : decode cX11_shift 151 = .ok (.if_icmp .ge 31, 3) := by decide +kernel
theorem dX11_shift_154 : decode cX11_shift 154 = .ok (.aload_n 0, 1) := by decide +kernel
theorem dX11_shift_155 : decode cX11_shift 155 = .ok (.getfield 78, 3) := by decide +kernel
theorem dX11_shift_158 : decode cX11_shift 158 = .ok (.bipush 60, 2) := by decide +kernel
theorem dX11_shift_160 : decode cX11_shift 160 = .ok (.iload_n 3, 1) := by decide +kernel
theorem dX11_shift_161 : decode cX11_shift 161 = .ok (.imul, 1) := by decide +kernel
theorem dX11_shift_162 : decode cX11_shift 162 = .ok (.iload 4, 2) := by decide +kernel
theorem dX11_shift_164 : decode cX11_shift 164 = .ok (.iadd, 1) := by decide +kernel
theorem dX11_shift_165 : decode cX11_shift 165 = .ok (.iload 6, 2) := by decide +kernel
theorem dX11_shift_167 : decode cX11_shift 167 = .ok (.iadd, 1) := by decide +kernel
theorem dX11_shift_168 : decode cX11_shift 168 = .ok (.aload_n 0, 1) := by decide +kernel
theorem dX11_shift_169 : decode cX11_shift 169 = .ok (.getfield 82, 3) := by decide +kernel
theorem dX11_shift_172 : decode cX11_shift 172 = .ok (.iload 6, 2) := by decide +kernel
theorem dX11_shift_174 : decode cX11_shift 174 = .ok (.laload, 1) := by decide +kernel
theorem dX11_shift_175 : decode cX11_shift 175 = .ok (.lastore, 1) := by decide +kernel
theorem dX11_shift_176 : decode cX11_shift 176 = .ok (.iinc 6 1, 3) := by decide +kernel
theorem dX11_shift_179 : decode cX11_shift 179 = .ok (.goto (-32), 3) := by decide +kernel
theorem dX11_shift_182 : decode cX11_shift 182 = .ok (.iload 5, 2) := by decide +kernel
theorem dX11_shift_184 : decode cX11_shift 184 = .ok (.ireturn, 1) := by decide +kernel
theorem dJxe99ae_isNaN_b9ae7_0 : decode cJxe99ae_isNaN_b9ae7 0 = .ok (.dload_n 0, 1) := by decide +kernel
theorem dJxe99ae_isNaN_b9ae7_1 : decode cJxe99ae_isNaN_b9ae7 1 = .ok (.dload_n 0, 1) := by decide +kernel
theorem dJxe99ae_isNaN_b9ae7_2 : decode cJxe99ae_isNaN_b9ae7 2 = .ok (.dcmp .l, 1) := by decide +kernel
theorem dJxe99ae_isNaN_b9ae7_3 : decode cJxe99ae_isNaN_b9ae7 3 = .ok (.ifCond .eq 7, 3) := by decide +kernel
theorem dJxe99ae_isNaN_b9ae7_6 : decode cJxe99ae_isNaN_b9ae7 6 = .ok (.iconst 1, 1) := by decide +kernel
theorem dJxe99ae_isNaN_b9ae7_7 : decode cJxe99ae_isNaN_b9ae7 7 = .ok (.goto 4, 3) := by decide +kernel
theorem dJxe99ae_isNaN_b9ae7_10 : decode cJxe99ae_isNaN_b9ae7 10 = .ok (.iconst 0, 1) := by decide +kernel
theorem dJxe99ae_isNaN_b9ae7_11 : decode cJxe99ae_isNaN_b9ae7 11 = .ok (.ireturn, 1) := by decide +kernel
theorem dJxe99ae_doubleToLongBits_ccdee_0 : decode cJxe99ae_doubleToLongBits_ccdee 0 = .ok (.dload_n 0, 1) := by decide +kernel
theorem dJxe99ae_doubleToLongBits_ccdee_1 : decode cJxe99ae_doubleToLongBits_ccdee 1 = .ok (.invokestatic 122, 3) := by decide +kernel
theorem dJxe99ae_doubleToLongBits_ccdee_4 : decode cJxe99ae_doubleToLongBits_ccdee 4 = .ok (.ifCond .ne 8, 3) := by decide +kernel
theorem dJxe99ae_doubleToLongBits_ccdee_7 : decode cJxe99ae_doubleToLongBits_ccdee 7 = .ok (.dload_n 0, 1) := by decide +kernel
theorem dJxe99ae_doubleToLongBits_ccdee_8 : decode cJxe99ae_doubleToLongBits_ccdee 8 = .ok (.invokestatic 134, 3) := by decide +kernel
theorem dJxe99ae_doubleToLongBits_ccdee_11 : decode cJxe99ae_doubleToLongBits_ccdee 11 = .ok (.lreturn, 1) := by decide +kernel
theorem dJxe99ae_doubleToLongBits_ccdee_12 : decode cJxe99ae_doubleToLongBits_ccdee 12 = .ok (.ldc2_w 137, 3) := by decide +kernel
theorem dJxe99ae_doubleToLongBits_ccdee_15 : decode cJxe99ae_doubleToLongBits_ccdee 15 = .ok (.lreturn, 1) := by decide +kernel
theorem dJxf58ca_isNaN_12338_0 : decode cJxf58ca_isNaN_12338 0 = .ok (.fload_n 0, 1) := by decide +kernel
theorem dJxf58ca_isNaN_12338_1 : decode cJxf58ca_isNaN_12338 1 = .ok (.fload_n 0, 1) := by decide +kernel
theorem dJxf58ca_isNaN_12338_2 : decode cJxf58ca_isNaN_12338 2 = .ok (.fcmp .l, 1) := by decide +kernel
theorem dJxf58ca_isNaN_12338_3 : decode cJxf58ca_isNaN_12338 3 = .ok (.ifCond .eq 7, 3) := by decide +kernel
theorem dJxf58ca_isNaN_12338_6 : decode cJxf58ca_isNaN_12338 6 = .ok (.iconst 1, 1) := by decide +kernel
theorem dJxf58ca_isNaN_12338_7 : decode cJxf58ca_isNaN_12338 7 = .ok (.goto 4, 3) := by decide +kernel
theorem dJxf58ca_isNaN_12338_10 : decode cJxf58ca_isNaN_12338 10 = .ok (.iconst 0, 1) := by decide +kernel
theorem dJxf58ca_isNaN_12338_11 : decode cJxf58ca_isNaN_12338 11 = .ok (.ireturn, 1) := by decide +kernel
theorem dJxf58ca_floatToIntBits_5c35a_0 : decode cJxf58ca_floatToIntBits_5c35a 0 = .ok (.fload_n 0, 1) := by decide +kernel
theorem dJxf58ca_floatToIntBits_5c35a_1 : decode cJxf58ca_floatToIntBits_5c35a 1 = .ok (.invokestatic 59, 3) := by decide +kernel
theorem dJxf58ca_floatToIntBits_5c35a_4 : decode cJxf58ca_floatToIntBits_5c35a 4 = .ok (.ifCond .ne 8, 3) := by decide +kernel
theorem dJxf58ca_floatToIntBits_5c35a_7 : decode cJxf58ca_floatToIntBits_5c35a 7 = .ok (.fload_n 0, 1) := by decide +kernel
theorem dJxf58ca_floatToIntBits_5c35a_8 : decode cJxf58ca_floatToIntBits_5c35a 8 = .ok (.invokestatic 74, 3) := by decide +kernel
theorem dJxf58ca_floatToIntBits_5c35a_11 : decode cJxf58ca_floatToIntBits_5c35a 11 = .ok (.ireturn, 1) := by decide +kernel
theorem dJxf58ca_floatToIntBits_5c35a_12 : decode cJxf58ca_floatToIntBits_5c35a 12 = .ok (.ldc 77, 2) := by decide +kernel
theorem dJxf58ca_floatToIntBits_5c35a_14 : decode cJxf58ca_floatToIntBits_5c35a 14 = .ok (.ireturn, 1) := by decide +kernel
theorem dJ13_bitCount_95d88_0 : decode cJ13_bitCount_95d88 0 = .ok (.lload_n 0, 1) := by decide +kernel
theorem dJ13_bitCount_95d88_1 : decode cJ13_bitCount_95d88 1 = .ok (.lload_n 0, 1) := by decide +kernel
theorem dJ13_bitCount_95d88_2 : decode cJ13_bitCount_95d88 2 = .ok (.iconst 1, 1) := by decide +kernel
theorem dJ13_bitCount_95d88_3 : decode cJ13_bitCount_95d88 3 = .ok (.lushr, 1) := by decide +kernel
theorem dJ13_bitCount_95d88_4 : decode cJ13_bitCount_95d88 4 = .ok (.ldc2_w 314, 3) := by decide +kernel
theorem dJ13_bitCount_95d88_7 : decode cJ13_bitCount_95d88 7 = .ok (.land, 1) := by decide +kernel
theorem dJ13_bitCount_95d88_8 : decode cJ13_bitCount_95d88 8 = .ok (.lsub, 1) := by decide +kernel
theorem dJ13_bitCount_95d88_9 : decode cJ13_bitCount_95d88 9 = .ok (.lstore_n 0, 1) := by decide +kernel
theorem dJ13_bitCount_95d88_10 : decode cJ13_bitCount_95d88 10 = .ok (.lload_n 0, 1) := by decide +kernel
theorem dJ13_bitCount_95d88_11 : decode cJ13_bitCount_95d88 11 = .ok (.ldc2_w 316, 3) := by decide +kernel
theorem dJ13_bitCount_95d88_14 : decode cJ13_bitCount_95d88 14 = .ok (.land, 1) := by decide +kernel
theorem dJ13_bitCount_95d88_15 : decode cJ13_bitCount_95d88 15 = .ok (.lload_n 0, 1) := by decide +kernel
theorem dJ13_bitCount_95d88_16 : decode cJ13_bitCount_95d88 16 = .ok (.iconst 2, 1) := by decide +kernel
theorem dJ13_bitCount_95d88_17 : decode cJ13_bitCount_95d88 17 = .ok (.lushr, 1) := by decide +kernel
theorem dJ13_bitCount_95d88_18 : decode cJ13_bitCount_95d88 18 = .ok (.ldc2_w 316, 3) := by decide +kernel
theorem dJ13_bitCount_95d88_21 : decode cJ13_bitCount_95d88 21 = .ok (.land, 1) := by decide +kernel
theorem dJ13_bitCount_95d88_22 : decode cJ13_bitCount_95d88 22 = .ok (.ladd, 1) := by decide +kernel
theorem dJ13_bitCount_95d88_23 : decode cJ13_bitCount_95d88 23 = .ok (.lstore_n 0, 1) := by decide +kernel
theorem dJ13_bitCount_95d88_24 : decode cJ13_bitCount_95d88 24 = .ok (.lload_n 0, 1) := by decide +kernel
theorem dJ13_bitCount_95d88_25 : decode cJ13_bitCount_95d88 25 = .ok (.lload_n 0, 1) := by decide +kernel
theorem dJ13_bitCount_95d88_26 : decode cJ13_bitCount_95d88 26 = .ok (.iconst 4, 1) := by decide +kernel
theorem dJ13_bitCount_95d88_27 : decode cJ13_bitCount_95d88 27 = .ok (.lushr, 1) := by decide +kernel
theorem dJ13_bitCount_95d88_28 : decode cJ13_bitCount_95d88 28 = .ok (.ladd, 1) := by decide +kernel
theorem dJ13_bitCount_95d88_29 : decode cJ13_bitCount_95d88 29 = .ok (.ldc2_w 318, 3) := by decide +kernel
theorem dJ13_bitCount_95d88_32 : decode cJ13_bitCount_95d88 32 = .ok (.land, 1) := by decide +kernel
theorem dJ13_bitCount_95d88_33 : decode cJ13_bitCount_95d88 33 = .ok (.lstore_n 0, 1) := by decide +kernel
theorem dJ13_bitCount_95d88_34 : decode cJ13_bitCount_95d88 34 = .ok (.lload_n 0, 1) := by decide +kernel
theorem dJ13_bitCount_95d88_35 : decode cJ13_bitCount_95d88 35 = .ok (.lload_n 0, 1) := by decide +kernel
theorem dJ13_bitCount_95d88_36 : decode cJ13_bitCount_95d88 36 = .ok (.bipush 8, 2) := by decide +kernel
theorem dJ13_bitCount_95d88_38 : decode cJ13_bitCount_95d88 38 = .ok (.lushr, 1) := by decide +kernel
theorem dJ13_bitCount_95d88_39 : decode cJ13_bitCount_95d88 39 = .ok (.ladd, 1) := by decide +kernel
theorem dJ13_bitCount_95d88_40 : decode cJ13_bitCount_95d88 40 = .ok (.lstore_n 0, 1) := by decide +kernel
theorem dJ13_bitCount_95d88_41 : decode cJ13_bitCount_95d88 41 = .ok (.lload_n 0, 1) := by decide +kernel
theorem dJ13_bitCount_95d88_42 : decode cJ13_bitCount_95d88 42 = .ok (.lload_n 0, 1) := by decide +kernel
theorem dJ13_bitCount_95d88_43 : decode cJ13_bitCount_95d88 43 = .ok (.bipush 16, 2) := by decide +kernel
theorem dJ13_bitCount_95d88_45 : decode cJ13_bitCount_95d88 45 = .ok (.lushr, 1) := by decide +kernel
theorem dJ13_bitCount_95d88_46 : decode cJ13_bitCount_95d88 46 = .ok (.ladd, 1) := by decide +kernel
theorem dJ13_bitCount_95d88_47 : decode cJ13_bitCount_95d88 47 = .ok (.lstore_n 0, 1) := by decide +kernel
theorem dJ13_bitCount_95d88_48 : decode cJ13_bitCount_95d88 48 = .ok (.lload_n 0, 1) := by decide +kernel
theorem dJ13_bitCount_95d88_49 : decode cJ13_bitCount_95d88 49 = .ok (.lload_n 0, 1) := by decide +kernel
theorem dJ13_bitCount_95d88_50 : decode cJ13_bitCount_95d88 50 = .ok (.bipush 32, 2) := by decide +kernel
theorem dJ13_bitCount_95d88_52 : decode cJ13_bitCount_95d88 52 = .ok (.lushr, 1) := by decide +kernel
theorem dJ13_bitCount_95d88_53 : decode cJ13_bitCount_95d88 53 = .ok (.ladd, 1) := by decide +kernel
theorem dJ13_bitCount_95d88_54 : decode cJ13_bitCount_95d88 54 = .ok (.lstore_n 0, 1) := by decide +kernel
theorem dJ13_bitCount_95d88_55 : decode cJ13_bitCount_95d88 55 = .ok (.lload_n 0, 1) := by decide +kernel
theorem dJ13_bitCount_95d88_56 : decode cJ13_bitCount_95d88 56 = .ok (.l2i, 1) := by decide +kernel
theorem dJ13_bitCount_95d88_57 : decode cJ13_bitCount_95d88 57 = .ok (.bipush 127, 2) := by decide +kernel
theorem dJ13_bitCount_95d88_59 : decode cJ13_bitCount_95d88 59 = .ok (.iand, 1) := by decide +kernel
theorem dJ13_bitCount_95d88_60 : decode cJ13_bitCount_95d88 60 = .ok (.ireturn, 1) := by decide +kernel
theorem dJ9_max_7cf53_0 : decode cJ9_max_7cf53 0 = .ok (.iload_n 0, 1) := by decide +kernel
theorem dJ9_max_7cf53_1 : decode cJ9_max_7cf53 1 = .ok (.iload_n 1, 1) := by decide +kernel
theorem dJ9_max_7cf53_2 : decode cJ9_max_7cf53 2 = .ok (.if_icmp .lt 7, 3) := by decide +kernel
theorem dJ9_max_7cf53_5 : decode cJ9_max_7cf53 5 = .ok (.iload_n 0, 1) := by decide +kernel
theorem dJ9_max_7cf53_6 : decode cJ9_max_7cf53 6 = .ok (.goto 4, 3) := by decide +kernel
theorem dJ9_max_7cf53_9 : decode cJ9_max_7cf53 9 = .ok (.iload_n 1, 1) := by decide +kernel
theorem dJ9_max_7cf53_10 : decode cJ9_max_7cf53 10 = .ok (.ireturn, 1) := by decide +kernel
theorem dJ9_min_7cf53_0 : decode cJ9_min_7cf53 0 = .ok (.iload_n 0, 1) := by decide +kernel
theorem dJ9_min_7cf53_1 : decode cJ9_min_7cf53 1 = .ok (.iload_n 1, 1) := by decide +kernel
theorem dJ9_min_7cf53_2 : decode cJ9_min_7cf53 2 = .ok (.if_icmp .gt 7, 3) := by decide +kernel
theorem dJ9_min_7cf53_5 : decode cJ9_min_7cf53 5 = .ok (.iload_n 0, 1) := by decide +kernel
theorem dJ9_min_7cf53_6 : decode cJ9_min_7cf53 6 = .ok (.goto 4, 3) := by decide +kernel
theorem dJ9_min_7cf53_9 : decode cJ9_min_7cf53 9 = .ok (.iload_n 1, 1) := by decide +kernel
theorem dJ9_min_7cf53_10 : decode cJ9_min_7cf53 10 = .ok (.ireturn, 1) := by decide +kernel
theorem dJ0_length_8abf5_0 : decode cJ0_length_8abf5 0 = .ok (.aload_n 0, 1) := by decide +kernel
theorem dJ0_length_8abf5_1 : decode cJ0_length_8abf5 1 = .ok (.getfield 9, 3) := by decide +kernel
theorem dJ0_length_8abf5_4 : decode cJ0_length_8abf5 4 = .ok (.arraylength, 1) := by decide +kernel
theorem dJ0_length_8abf5_5 : decode cJ0_length_8abf5 5 = .ok (.aload_n 0, 1) := by decide +kernel
theorem dJ0_length_8abf5_6 : decode cJ0_length_8abf5 6 = .ok (.invokevirtual 335, 3) := by decide +kernel
theorem dJ0_length_8abf5_9 : decode cJ0_length_8abf5 9 = .ok (.ishr, 1) := by decide +kernel
theorem dJ0_length_8abf5_10 : decode cJ0_length_8abf5 10 = .ok (.ireturn, 1) := by decide +kernel
theorem dJ0_isEmpty_aae02_0 : decode cJ0_isEmpty_aae02 0 = .ok (.aload_n 0, 1) := by decide +kernel
theorem dJ0_isEmpty_aae02_1 : decode cJ0_isEmpty_aae02 1 = .ok (.getfield 9, 3) := by decide +kernel
theorem dJ0_isEmpty_aae02_4 : decode cJ0_isEmpty_aae02 4 = .ok (.arraylength, 1) := by decide +kernel
theorem dJ0_isEmpty_aae02_5 : decode cJ0_isEmpty_aae02 5 = .ok (.ifCond .ne 7, 3) := by decide +kernel
theorem dJ0_isEmpty_aae02_8 : decode cJ0_isEmpty_aae02 8 = .ok (.iconst 1, 1) := by decide +kernel
theorem dJ0_isEmpty_aae02_9 : decode cJ0_isEmpty_aae02 9 = .ok (.goto 4, 3) := by decide +kernel
theorem dJ0_isEmpty_aae02_12 : decode cJ0_isEmpty_aae02 12 = .ok (.iconst 0, 1) := by decide +kernel
theorem dJ0_isEmpty_aae02_13 : decode cJ0_isEmpty_aae02 13 = .ok (.ireturn, 1) := by decide +kernel
theorem dJ0_charAt_5068e_0 : decode cJ0_charAt_5068e 0 = .ok (.aload_n 0, 1) := by decide +kernel
theorem dJ0_charAt_5068e_1 : decode cJ0_charAt_5068e 1 = .ok (.invokevirtual 492, 3) := by decide +kernel
theorem dJ0_charAt_5068e_4 : decode cJ0_charAt_5068e 4 = .ok (.ifCond .eq 12, 3) := by decide +kernel
theorem dJ0_charAt_5068e_7 : decode cJ0_charAt_5068e 7 = .ok (.aload_n 0, 1) := by decide +kernel
theorem dJ0_charAt_5068e_8 : decode cJ0_charAt_5068e 8 = .ok (.getfield 9, 3) := by decide +kernel
theorem dJ0_charAt_5068e_11 : decode cJ0_charAt_5068e 11 = .ok (.iload_n 1, 1) := by decide +kernel
theorem dJ0_charAt_5068e_12 : decode cJ0_charAt_5068e 12 = .ok (.invokestatic 495, 3) := by decide +kernel
theorem dJ0_charAt_5068e_15 : decode cJ0_charAt_5068e 15 = .ok (.ireturn, 1) := by decide +kernel
theorem dJ0_charAt_5068e_16 : decode cJ0_charAt_5068e 16 = .ok (.aload_n 0, 1) := by decide +kernel
theorem dJ0_charAt_5068e_17 : decode cJ0_charAt_5068e 17 = .ok (.getfield 9, 3) := by decide +kernel
theorem dJ0_charAt_5068e_20 : decode cJ0_charAt_5068e 20 = .ok (.iload_n 1, 1) := by decide +kernel
theorem dJ0_charAt_5068e_21 : decode cJ0_charAt_5068e 21 = .ok (.invokestatic 498, 3) := by decide +kernel
theorem dJ0_charAt_5068e_24 : decode cJ0_charAt_5068e 24 = .ok (.ireturn, 1) := by decide +kernel
theorem dJ0_coder_7d493_0 : decode cJ0_coder_7d493 0 = .ok (.getstatic 38, 3) := by decide +kernel
theorem dJ0_coder_7d493_3 : decode cJ0_coder_7d493 3 = .ok (.ifCond .eq 10, 3) := by decide +kernel
theorem dJ0_coder_7d493_6 : decode cJ0_coder_7d493 6 = .ok (.aload_n 0, 1) := by decide +kernel
theorem dJ0_coder_7d493_7 : decode cJ0_coder_7d493 7 = .ok (.getfield 15, 3) := by decide +kernel
theorem dJ0_coder_7d493_10 : decode cJ0_coder_7d493 10 = .ok (.goto 4, 3) := by decide +kernel
theorem dJ0_coder_7d493_13 : decode cJ0_coder_7d493 13 = .ok (.iconst 1, 1) := by decide +kernel
theorem dJ0_coder_7d493_14 : decode cJ0_coder_7d493 14 = .ok (.ireturn, 1) := by decide +kernel
theorem dJ0_isLatin1_aae02_0 : decode cJ0_isLatin1_aae02 0 = .ok (.getstatic 38, 3) := by decide +kernel
theorem dJ0_isLatin1_aae02_3 : decode cJ0_isLatin1_aae02 3 = .ok (.ifCond .eq 14, 3) := by decide +kernel
theorem dJ0_isLatin1_aae02_6 : decode cJ0_isLatin1_aae02 6 = .ok (.aload_n 0, 1) := by decide +kernel
theorem dJ0_isLatin1_aae02_7 : decode cJ0_isLatin1_aae02 7 = .ok (.getfield 15, 3) := by decide +kernel
theorem dJ0_isLatin1_aae02_10 : decode cJ0_isLatin1_aae02 10 = .ok (.ifCond .ne 7, 3) := by decide +kernel
theorem dJ0_isLatin1_aae02_13 : decode cJ0_isLatin1_aae02 13 = .ok (.iconst 1, 1) := by decide +kernel
theorem dJ0_isLatin1_aae02_14 : decode cJ0_isLatin1_aae02 14 = .ok (.goto 4, 3) := by decide +kernel
theorem dJ0_isLatin1_aae02_17 : decode cJ0_isLatin1_aae02 17 = .ok (.iconst 0, 1) := by decide +kernel
theorem dJ0_isLatin1_aae02_18 : decode cJ0_isLatin1_aae02 18 = .ok (.ireturn, 1) := by decide +kernel
theorem dJ0_checkIndex_df160_0 : decode cJ0_checkIndex_df160 0 = .ok (.iload_n 0, 1) := by decide +kernel
theorem dJ0_checkIndex_df160_1 : decode cJ0_checkIndex_df160 1 = .ok (.iload_n 1, 1) := by decide +kernel
theorem dJ0_checkIndex_df160_2 : decode cJ0_checkIndex_df160 2 = .ok (.getstatic 1053, 3) := by decide +kernel
theorem dJ0_checkIndex_df160_5 : decode cJ0_checkIndex_df160 5 = .ok (.invokestatic 1059, 3) := by decide +kernel
theorem dJ0_checkIndex_df160_8 : decode cJ0_checkIndex_df160 8 = .ok (.pop, 1) := by decide +kernel
theorem dJ0_checkIndex_df160_9 : decode cJ0_checkIndex_df160 9 = .ok (.return_, 1) := by decide +kernel
theorem dJ1_charAt_3b067_0 : decode cJ1_charAt_3b067 0 = .ok (.iload_n 1, 1) := by decide +kernel
theorem dJ1_charAt_3b067_1 : decode cJ1_charAt_3b067 1 = .ok (.aload_n 0, 1) := by decide +kernel
theorem dJ1_charAt_3b067_2 : decode cJ1_charAt_3b067 2 = .ok (.arraylength, 1) := by decide +kernel
theorem dJ1_charAt_3b067_3 : decode cJ1_charAt_3b067 3 = .ok (.invokestatic 9, 3) := by decide +kernel
theorem dJ1_charAt_3b067_6 : decode cJ1_charAt_3b067 6 = .ok (.aload_n 0, 1) := by decide +kernel
theorem dJ1_charAt_3b067_7 : decode cJ1_charAt_3b067 7 = .ok (.iload_n 1, 1) := by decide +kernel
theorem dJ1_charAt_3b067_8 : decode cJ1_charAt_3b067 8 = .ok (.baload, 1) := by decide +kernel
theorem dJ1_charAt_3b067_9 : decode cJ1_charAt_3b067 9 = .ok (.sipush 255, 3) := by decide +kernel
theorem dJ1_charAt_3b067_12 : decode cJ1_charAt_3b067 12 = .ok (.iand, 1) := by decide +kernel
theorem dJ1_charAt_3b067_13 : decode cJ1_charAt_3b067 13 = .ok (.i2c, 1) := by decide +kernel
theorem dJ1_charAt_3b067_14 : decode cJ1_charAt_3b067 14 = .ok (.ireturn, 1) := by decide +kernel
theorem dJ2_getChar_3b067_0 : decode cJ2_getChar_3b067 0 = .ok (.getstatic 44, 3) := by decide +kernel
theorem dJ2_getChar_3b067_3 : decode cJ2_getChar_3b067 3 = .ok (.ifCond .ne 25, 3) := by decide +kernel
theorem dJ2_getChar_3b067_6 : decode cJ2_getChar_3b067 6 = .ok (.iload_n 1, 1) := by decide +kernel
theorem dJ2_getChar_3b067_7 : decode cJ2_getChar_3b067 7 = .ok (.ifCond .lt 11, 3) := by decide +kernel
theorem dJ2_getChar_3b067_10 : decode cJ2_getChar_3b067 10 = .ok (.iload_n 1, 1) := by decide +kernel
theorem dJ2_getChar_3b067_11 : decode cJ2_getChar_3b067 11 = .ok (.aload_n 0, 1) := by decide +kernel
theorem dJ2_getChar_3b067_12 : decode cJ2_getChar_3b067 12 = .ok (.invokestatic 48, 3) := by decide +kernel
theorem dJ2_getChar_3b067_15 : decode cJ2_getChar_3b067 15 = .ok (.if_icmp .lt 13, 3) := by decide +kernel
theorem dJ2_getChar_3b067_18 : decode cJ2_getChar_3b067 18 = .ok (.new 52, 3) := by decide +kernel
theorem dJ2_getChar_3b067_21 : decode cJ2_getChar_3b067 21 = .ok (.dup, 1) := by decide +kernel
theorem dJ2_getChar_3b067_22 : decode cJ2_getChar_3b067 22 = .ok (.ldc 54, 2) := by decide +kernel
theorem dJ2_getChar_3b067_24 : decode cJ2_getChar_3b067 24 = .ok (.invokespecial 56, 3) := by decide +kernel
theorem dJ2_getChar_3b067_27 : decode cJ2_getChar_3b067 27 = .ok (.athrow, 1) := by decide +kernel
theorem dJ2_getChar_3b067_28 : decode cJ2_getChar_3b067 28 = .ok (.iload_n 1, 1) := by decide +kernel
theorem dJ2_getChar_3b067_29 : decode cJ2_getChar_3b067 29 = .ok (.iconst 1, 1) := by decide +kernel
theorem dJ2_getChar_3b067_30 : decode cJ2_getChar_3b067 30 = .ok (.ishl, 1) := by decide +kernel
theorem dJ2_getChar_3b067_31 : decode cJ2_getChar_3b067 31 = .ok (.istore_n 1, 1) := by decide +kernel
theorem dJ2_getChar_3b067_32 : decode cJ2_getChar_3b067 32 = .ok (.aload_n 0, 1) := by decide +kernel
theorem dJ2_getChar_3b067_33 : decode cJ2_getChar_3b067 33 = .ok (.iload_n 1, 1) := by decide +kernel
theorem dJ2_getChar_3b067_34 : decode cJ2_getChar_3b067 34 = .ok (.iinc 1 1, 3) := by decide +kernel
theorem dJ2_getChar_3b067_37 : decode cJ2_getChar_3b067 37 = .ok (.baload, 1) := by decide +kernel
theorem dJ2_getChar_3b067_38 : decode cJ2_getChar_3b067 38 = .ok (.sipush 255, 3) := by decide +kernel
theorem dJ2_getChar_3b067_41 : decode cJ2_getChar_3b067 41 = .ok (.iand, 1) := by decide +kernel
theorem dJ2_getChar_3b067_42 : decode cJ2_getChar_3b067 42 = .ok (.getstatic 59, 3) := by decide +kernel
theorem dJ2_getChar_3b067_45 : decode cJ2_getChar_3b067 45 = .ok (.ishl, 1) := by decide +kernel
theorem dJ2_getChar_3b067_46 : decode cJ2_getChar_3b067 46 = .ok (.aload_n 0, 1) := by decide +kernel
theorem dJ2_getChar_3b067_47 : decode cJ2_getChar_3b067 47 = .ok (.iload_n 1, 1) := by decide +kernel
theorem dJ2_getChar_3b067_48 : decode cJ2_getChar_3b067 48 = .ok (.baload, 1) := by decide +kernel
theorem dJ2_getChar_3b067_49 : decode cJ2_getChar_3b067 49 = .ok (.sipush 255, 3) := by decide +kernel
theorem dJ2_getChar_3b067_52 : decode cJ2_getChar_3b067 52 = .ok (.iand, 1) := by decide +kernel
theorem dJ2_getChar_3b067_53 : decode cJ2_getChar_3b067 53 = .ok (.getstatic 63, 3) := by decide +kernel
theorem dJ2_getChar_3b067_56 : decode cJ2_getChar_3b067 56 = .ok (.ishl, 1) := by decide +kernel
theorem dJ2_getChar_3b067_57 : decode cJ2_getChar_3b067 57 = .ok (.ior, 1) := by decide +kernel
theorem dJ2_getChar_3b067_58 : decode cJ2_getChar_3b067 58 = .ok (.i2c, 1) := by decide +kernel
theorem dJ2_getChar_3b067_59 : decode cJ2_getChar_3b067 59 = .ok (.ireturn, 1) := by decide +kernel
theorem dJ2_length_9d52b_0 : decode cJ2_length_9d52b 0 = .ok (.aload_n 0, 1) := by decide +kernel
theorem dJ2_length_9d52b_1 : decode cJ2_length_9d52b 1 = .ok (.arraylength, 1) := by decide +kernel
theorem dJ2_length_9d52b_2 : decode cJ2_length_9d52b 2 = .ok (.iconst 1, 1) := by decide +kernel
theorem dJ2_length_9d52b_3 : decode cJ2_length_9d52b 3 = .ok (.ishr, 1) := by decide +kernel
theorem dJ2_length_9d52b_4 : decode cJ2_length_9d52b 4 = .ok (.ireturn, 1) := by decide +kernel
theorem dJ2_charAt_3b067_0 : decode cJ2_charAt_3b067 0 = .ok (.iload_n 1, 1) := by decide +kernel
theorem dJ2_charAt_3b067_1 : decode cJ2_charAt_3b067 1 = .ok (.aload_n 0, 1) := by decide +kernel
theorem dJ2_charAt_3b067_2 : decode cJ2_charAt_3b067 2 = .ok (.invokestatic 67, 3) := by decide +kernel
theorem dJ2_charAt_3b067_5 : decode cJ2_charAt_3b067 5 = .ok (.aload_n 0, 1) := by decide +kernel
theorem dJ2_charAt_3b067_6 : decode cJ2_charAt_3b067 6 = .ok (.iload_n 1, 1) := by decide +kernel
theorem dJ2_charAt_3b067_7 : decode cJ2_charAt_3b067 7 = .ok (.invokestatic 71, 3) := by decide +kernel
theorem dJ2_charAt_3b067_10 : decode cJ2_charAt_3b067 10 = .ok (.ireturn, 1) := by decide +kernel
theorem dJ2_checkIndex_2214a_0 : decode cJ2_checkIndex_2214a 0 = .ok (.iload_n 0, 1) := by decide +kernel
theorem dJ2_checkIndex_2214a_1 : decode cJ2_checkIndex_2214a 1 = .ok (.aload_n 1, 1) := by decide +kernel
theorem dJ2_checkIndex_2214a_2 : decode cJ2_checkIndex_2214a 2 = .ok (.invokestatic 48, 3) := by decide +kernel
theorem dJ2_checkIndex_2214a_5 : decode cJ2_checkIndex_2214a 5 = .ok (.invokestatic 414, 3) := by decide +kernel
theorem dJ2_checkIndex_2214a_8 : decode cJ2_checkIndex_2214a 8 = .ok (.return_, 1) := by decide +kernel
theorem dJ7_rangeCheck_23922_0 : decode cJ7_rangeCheck_23922 0 = .ok (.iload_n 1, 1) := by decide +kernel
theorem dJ7_rangeCheck_23922_1 : decode cJ7_rangeCheck_23922 1 = .ok (.iload_n 2, 1) := by decide +kernel
theorem dJ7_rangeCheck_23922_2 : decode cJ7_rangeCheck_23922 2 = .ok (.if_icmp .le 44, 3) := by decide +kernel
theorem dJ7_rangeCheck_23922_5 : decode cJ7_rangeCheck_23922 5 = .ok (.new 43, 3) := by decide +kernel
theorem dJ7_rangeCheck_23922_8 : decode cJ7_rangeCheck_23922 8 = .ok (.dup, 1) := by decide +kernel
theorem dJ7_rangeCheck_23922_9 : decode cJ7_rangeCheck_23922 9 = .ok (.new 45, 3) := by decide +kernel
theorem dJ7_rangeCheck_23922_12 : decode cJ7_rangeCheck_23922 12 = .ok (.dup, 1) := by decide +kernel
theorem dJ7_rangeCheck_23922_13 : decode cJ7_rangeCheck_23922 13 = .ok (.invokespecial 47, 3) := by decide +kernel
theorem dJ7_rangeCheck_23922_16 : decode cJ7_rangeCheck_23922 16 = .ok (.ldc 48, 2) := by decide +kernel
theorem dJ7_rangeCheck_23922_18 : decode cJ7_rangeCheck_23922 18 = .ok (.invokevirtual 50, 3) := by decide +kernel
theorem dJ7_rangeCheck_23922_21 : decode cJ7_rangeCheck_23922 21 = .ok (.iload_n 1, 1) := by decide +kernel
theorem dJ7_rangeCheck_23922_22 : decode cJ7_rangeCheck_23922 22 = .ok (.invokevirtual 54, 3) := by decide +kernel
theorem dJ7_rangeCheck_23922_25 : decode cJ7_rangeCheck_23922 25 = .ok (.ldc 57, 2) := by decide +kernel
theorem dJ7_rangeCheck_23922_27 : decode cJ7_rangeCheck_23922 27 = .ok (.invokevirtual 50, 3) := by decide +kernel
theorem dJ7_rangeCheck_23922_30 : decode cJ7_rangeCheck_23922 30 = .ok (.iload_n 2, 1) := by decide +kernel
theorem dJ7_rangeCheck_23922_31 : decode cJ7_rangeCheck_23922 31 = .ok (.invokevirtual 54, 3) := by decide +kernel
theorem dJ7_rangeCheck_23922_34 : decode cJ7_rangeCheck_23922 34 = .ok (.ldc 59, 2) := by decide +kernel
theorem dJ7_rangeCheck_23922_36 : decode cJ7_rangeCheck_23922 36 = .ok (.invokevirtual 50, 3) := by decide +kernel
theorem dJ7_rangeCheck_23922_39 : decode cJ7_rangeCheck_23922 39 = .ok (.invokevirtual 61, 3) := by decide +kernel
theorem dJ7_rangeCheck_23922_42 : decode cJ7_rangeCheck_23922 42 = .ok (.invokespecial 65, 3) := by decide +kernel
theorem dJ7_rangeCheck_23922_45 : decode cJ7_rangeCheck_23922 45 = .ok (.athrow, 1) := by decide +kernel
theorem dJ7_rangeCheck_23922_46 : decode cJ7_rangeCheck_23922 46 = .ok (.iload_n 1, 1) := by decide +kernel
theorem dJ7_rangeCheck_23922_47 : decode cJ7_rangeCheck_23922 47 = .ok (.ifCond .ge 12, 3) := by decide +kernel
theorem dJ7_rangeCheck_23922_50 : decode cJ7_rangeCheck_23922 50 = .ok (.new 68, 3) := by decide +kernel
theorem dJ7_rangeCheck_23922_53 : decode cJ7_rangeCheck_23922 53 = .ok (.dup, 1) := by decide +kernel
theorem dJ7_rangeCheck_23922_54 : decode cJ7_rangeCheck_23922 54 = .ok (.iload_n 1, 1) := by decide +kernel
theorem dJ7_rangeCheck_23922_55 : decode cJ7_rangeCheck_23922 55 = .ok (.invokespecial 70, 3) := by decide +kernel
theorem dJ7_rangeCheck_23922_58 : decode cJ7_rangeCheck_23922 58 = .ok (.athrow, 1) := by decide +kernel
theorem dJ7_rangeCheck_23922_59 : decode cJ7_rangeCheck_23922 59 = .ok (.iload_n 2, 1) := by decide +kernel
theorem dJ7_rangeCheck_23922_60 : decode cJ7_rangeCheck_23922 60 = .ok (.iload_n 0, 1) := by decide +kernel
theorem dJ7_rangeCheck_23922_61 : decode cJ7_rangeCheck_23922 61 = .ok (.if_icmp .le 12, 3) := by decide +kernel
theorem dJ7_rangeCheck_23922_64 : decode cJ7_rangeCheck_23922 64 = .ok (.new 68, 3) := by decide +kernel
theorem dJ7_rangeCheck_23922_67 : decode cJ7_rangeCheck_23922 67 = .ok (.dup, 1) := by decide +kernel
theorem dJ7_rangeCheck_23922_68 : decode cJ7_rangeCheck_23922 68 = .ok (.iload_n 2, 1) := by decide +kernel
theorem dJ7_rangeCheck_23922_69 : decode cJ7_rangeCheck_23922 69 = .ok (.invokespecial 70, 3) := by decide +kernel
theorem dJ7_rangeCheck_23922_72 : decode cJ7_rangeCheck_23922 72 = .ok (.athrow, 1) := by decide +kernel
theorem dJ7_rangeCheck_23922_73 : decode cJ7_rangeCheck_23922 73 = .ok (.return_, 1) := by decide +kernel
theorem dJ7_fill_d0a16_0 : decode cJ7_fill_d0a16 0 = .ok (.iconst 0, 1) := by decide +kernel
theorem dJ7_fill_d0a16_1 : decode cJ7_fill_d0a16 1 = .ok (.istore_n 3, 1) := by decide +kernel
theorem dJ7_fill_d0a16_2 : decode cJ7_fill_d0a16 2 = .ok (.aload_n 0, 1) := by decide +kernel
theorem dJ7_fill_d0a16_3 : decode cJ7_fill_d0a16 3 = .ok (.arraylength, 1) := by decide +kernel
theorem dJ7_fill_d0a16_4 : decode cJ7_fill_d0a16 4 = .ok (.istore 4, 2) := by decide +kernel
theorem dJ7_fill_d0a16_6 : decode cJ7_fill_d0a16 6 = .ok (.iload_n 3, 1) := by decide +kernel
theorem dJ7_fill_d0a16_7 : decode cJ7_fill_d0a16 7 = .ok (.iload 4, 2) := by decide +kernel
theorem dJ7_fill_d0a16_9 : decode cJ7_fill_d0a16 9 = .ok (.if_icmp .ge 13, 3) := by decide +kernel
theorem dJ7_fill_d0a16_12 : decode cJ7_fill_d0a16 12 = .ok (.aload_n 0, 1) := by decide +kernel
theorem dJ7_fill_d0a16_13 : decode cJ7_fill_d0a16 13 = .ok (.iload_n 3, 1) := by decide +kernel
theorem dJ7_fill_d0a16_14 : decode cJ7_fill_d0a16 14 = .ok (.lload_n 1, 1) := by decide +kernel
theorem dJ7_fill_d0a16_15 : decode cJ7_fill_d0a16 15 = .ok (.lastore, 1) := by decide +kernel
theorem dJ7_fill_d0a16_16 : decode cJ7_fill_d0a16 16 = .ok (.iinc 3 1, 3) := by decide +kernel
theorem dJ7_fill_d0a16_19 : decode cJ7_fill_d0a16 19 = .ok (.goto (-13), 3) := by decide +kernel
theorem dJ7_fill_d0a16_22 : decode cJ7_fill_d0a16 22 = .ok (.return_, 1) := by decide +kernel
theorem dJ7_fill_53178_0 : decode cJ7_fill_53178 0 = .ok (.iconst 0, 1) := by decide +kernel
theorem dJ7_fill_53178_1 : decode cJ7_fill_53178 1 = .ok (.istore_n 2, 1) := by decide +kernel
theorem dJ7_fill_53178_2 : decode cJ7_fill_53178 2 = .ok (.aload_n 0, 1) := by decide +kernel
theorem dJ7_fill_53178_3 : decode cJ7_fill_53178 3 = .ok (.arraylength, 1) := by decide +kernel
theorem dJ7_fill_53178_4 : decode cJ7_fill_53178 4 = .ok (.istore_n 3, 1) := by decide +kernel
theorem dJ7_fill_53178_5 : decode cJ7_fill_53178 5 = .ok (.iload_n 2, 1) := by decide +kernel
theorem dJ7_fill_53178_6 : decode cJ7_fill_53178 6 = .ok (.iload_n 3, 1) := by decide +kernel
theorem dJ7_fill_53178_7 : decode cJ7_fill_53178 7 = .ok (.if_icmp .ge 13, 3) := by decide +kernel
theorem dJ7_fill_53178_10 : decode cJ7_fill_53178 10 = .ok (.aload_n 0, 1) := by decide +kernel
theorem dJ7_fill_53178_11 : decode cJ7_fill_53178 11 = .ok (.iload_n 2, 1) := by decide +kernel
theorem dJ7_fill_53178_12 : decode cJ7_fill_53178 12 = .ok (.iload_n 1, 1) := by decide +kernel
theorem dJ7_fill_53178_13 : decode cJ7_fill_53178 13 = .ok (.iastore, 1) := by decide +kernel
theorem dJ7_fill_53178_14 : decode cJ7_fill_53178 14 = .ok (.iinc 2 1, 3) := by decide +kernel
theorem dJ7_fill_53178_17 : decode cJ7_fill_53178 17 = .ok (.goto (-12), 3) := by decide +kernel
theorem dJ7_fill_53178_20 : decode cJ7_fill_53178 20 = .ok (.return_, 1) := by decide +kernel
theorem dJ7_fill_fda19_0 : decode cJ7_fill_fda19 0 = .ok (.aload_n 0, 1) := by decide +kernel
theorem dJ7_fill_fda19_1 : decode cJ7_fill_fda19 1 = .ok (.arraylength, 1) := by decide +kernel
theorem dJ7_fill_fda19_2 : decode cJ7_fill_fda19 2 = .ok (.iload_n 1, 1) := by decide +kernel
theorem dJ7_fill_fda19_3 : decode cJ7_fill_fda19 3 = .ok (.iload_n 2, 1) := by decide +kernel
theorem dJ7_fill_fda19_4 : decode cJ7_fill_fda19 4 = .ok (.invokestatic 13, 3) := by decide +kernel
theorem dJ7_fill_fda19_7 : decode cJ7_fill_fda19 7 = .ok (.iload_n 1, 1) := by decide +kernel
theorem dJ7_fill_fda19_8 : decode cJ7_fill_fda19 8 = .ok (.istore 4, 2) := by decide +kernel
theorem dJ7_fill_fda19_10 : decode cJ7_fill_fda19 10 = .ok (.iload 4, 2) := by decide +kernel
theorem dJ7_fill_fda19_12 : decode cJ7_fill_fda19 12 = .ok (.iload_n 2, 1) := by decide +kernel
theorem dJ7_fill_fda19_13 : decode cJ7_fill_fda19 13 = .ok (.if_icmp .ge 14, 3) := by decide +kernel
theorem dJ7_fill_fda19_16 : decode cJ7_fill_fda19 16 = .ok (.aload_n 0, 1) := by decide +kernel
theorem dJ7_fill_fda19_17 : decode cJ7_fill_fda19 17 = .ok (.iload 4, 2) := by decide +kernel
theorem dJ7_fill_fda19_19 : decode cJ7_fill_fda19 19 = .ok (.iload_n 3, 1) := by decide +kernel
theorem dJ7_fill_fda19_20 : decode cJ7_fill_fda19 20 = .ok (.iastore, 1) := by decide +kernel
theorem dJ7_fill_fda19_21 : decode cJ7_fill_fda19 21 = .ok (.iinc 4 1, 3) := by decide +kernel
theorem dJ7_fill_fda19_24 : decode cJ7_fill_fda19 24 = .ok (.goto (-14), 3) := by decide +kernel
theorem dJ7_fill_fda19_27 : decode cJ7_fill_fda19 27 = .ok (.return_, 1) := by decide +kernel
theorem dJ3_checkIndex_8e157_0 : decode cJ3_checkIndex_8e157 0 = .ok (.iload_n 0, 1) := by decide +kernel
theorem dJ3_checkIndex_8e157_1 : decode cJ3_checkIndex_8e157 1 = .ok (.ifCond .lt 8, 3) := by decide +kernel
theorem dJ3_checkIndex_8e157_4 : decode cJ3_checkIndex_8e157 4 = .ok (.iload_n 0, 1) := by decide +kernel
theorem dJ3_checkIndex_8e157_5 : decode cJ3_checkIndex_8e157 5 = .ok (.iload_n 1, 1) := by decide +kernel
theorem dJ3_checkIndex_8e157_6 : decode cJ3_checkIndex_8e157 6 = .ok (.if_icmp .lt 10, 3) := by decide +kernel
theorem dJ3_checkIndex_8e157_9 : decode cJ3_checkIndex_8e157 9 = .ok (.aload_n 2, 1) := by decide +kernel
theorem dJ3_checkIndex_8e157_10 : decode cJ3_checkIndex_8e157 10 = .ok (.iload_n 0, 1) := by decide +kernel
theorem dJ3_checkIndex_8e157_11 : decode cJ3_checkIndex_8e157 11 = .ok (.iload_n 1, 1) := by decide +kernel
theorem dJ3_checkIndex_8e157_12 : decode cJ3_checkIndex_8e157 12 = .ok (.invokestatic 95, 3) := by decide +kernel
theorem dJ3_checkIndex_8e157_15 : decode cJ3_checkIndex_8e157 15 = .ok (.athrow, 1) := by decide +kernel
theorem dJ3_checkIndex_8e157_16 : decode cJ3_checkIndex_8e157 16 = .ok (.iload_n 0, 1) := by decide +kernel
theorem dJ3_checkIndex_8e157_17 : decode cJ3_checkIndex_8e157 17 = .ok (.ireturn, 1) := by decide +kernel
