theorem d_Mod_init_0 : decode b_Mod_init 0 = .ok (.aload_n 0, 1) := by decide +kernel
theorem d_Mod_init_1 : decode b_Mod_init 1 = .ok (.invokespecial 1, 3) := by decide +kernel
theorem d_Mod_init_4 : decode b_Mod_init 4 = .ok (.aload_n 0, 1) := by decide +kernel
theorem d_Mod_init_5 : decode b_Mod_init 5 = .ok (.bipush 35, 2) := by decide +kernel
theorem d_Mod_init_7 : decode b_Mod_init 7 = .ok (.anewarray 7, 3) := by decide +kernel
theorem d_Mod_init_10 : decode b_Mod_init 10 = .ok (.dup, 1) := by decide +kernel
theorem d_Mod_init_11 : decode b_Mod_init 11 = .ok (.iconst 0, 1) := by decide +kernel
theorem d_Mod_init_12 : decode b_Mod_init 12 = .ok (.ldc 9, 2) := by decide +kernel
theorem d_Mod_init_14 : decode b_Mod_init 14 = .ok (.aastore, 1) := by decide +kernel
theorem d_Mod_init_15 : decode b_Mod_init 15 = .ok (.dup, 1) := by decide +kernel
theorem d_Mod_init_16 : decode b_Mod_init 16 = .ok (.iconst 1, 1) := by decide +kernel
theorem d_Mod_init_17 : decode b_Mod_init 17 = .ok (.ldc 11, 2) := by decide +kernel
theorem d_Mod_init_19 : decode b_Mod_init 19 = .ok (.aastore, 1) := by decide +kernel
theorem d_Mod_init_20 : decode b_Mod_init 20 = .ok (.dup, 1) := by decide +kernel
theorem d_Mod_init_21 : decode b_Mod_init 21 = .ok (.iconst 2, 1) := by decide +kernel
theorem d_Mod_init_22 : decode b_Mod_init 22 = .ok (.ldc 13, 2) := by decide +kernel
theorem d_Mod_init_24 : decode b_Mod_init 24 = .ok (.aastore, 1) := by decide +kernel
theorem d_Mod_init_25 : decode b_Mod_init 25 = .ok (.dup, 1) := by decide +kernel
theorem d_Mod_init_26 : decode b_Mod_init 26 = .ok (.iconst 3, 1) := by decide +kernel
theorem d_Mod_init_27 : decode b_Mod_init 27 = .ok (.ldc 15, 2) := by decide +kernel
theorem d_Mod_init_29 : decode b_Mod_init 29 = .ok (.aastore, 1) := by decide +kernel
theorem d_Mod_init_30 : decode b_Mod_init 30 = .ok (.dup, 1) := by decide +kernel
theorem d_Mod_init_31 : decode b_Mod_init 31 = .ok (.iconst 4, 1) := by decide +kernel
theorem d_Mod_init_32 : decode b_Mod_init 32 = .ok (.ldc 17, 2) := by decide +kernel
theorem d_Mod_init_34 : decode b_Mod_init 34 = .ok (.aastore, 1) := by decide +kernel
theorem d_Mod_init_35 : decode b_Mod_init 35 = .ok (.dup, 1) := by decide +kernel
theorem d_Mod_init_36 : decode b_Mod_init 36 = .ok (.iconst 5, 1) := by decide +kernel
theorem d_Mod_init_37 : decode b_Mod_init 37 = .ok (.ldc 19, 2) := by decide +kernel
theorem d_Mod_init_39 : decode b_Mod_init 39 = .ok (.aastore, 1) := by decide +kernel
theorem d_Mod_init_40 : decode b_Mod_init 40 = .ok (.dup, 1) := by decide +kernel
theorem d_Mod_init_41 : decode b_Mod_init 41 = .ok (.bipush 6, 2) := by decide +kernel
theorem d_Mod_init_43 : decode b_Mod_init 43 = .ok (.ldc 21, 2) := by decide +kernel
theorem d_Mod_init_45 : decode b_Mod_init 45 = .ok (.aastore, 1) := by decide +kernel
theorem d_Mod_init_46 : decode b_Mod_init 46 = .ok (.dup, 1) := by decide +kernel
theorem d_Mod_init_47 : decode b_Mod_init 47 = .ok (.bipush 7, 2) := by decide +kernel
theorem d_Mod_init_49 : decode b_Mod_init 49 = .ok (.ldc 23, 2) := by decide +kernel
theorem d_Mod_init_51 : decode b_Mod_init 51 = .ok (.aastore, 1) := by decide +kernel
theorem d_Mod_init_52 : decode b_Mod_init 52 = .ok (.dup, 1) := by decide +kernel
theorem d_Mod_init_53 : decode b_Mod_init 53 = .ok (.bipush 8, 2) := by decide +kernel
theorem d_Mod_init_55 : decode b_Mod_init 55 = .ok (.ldc 25, 2) := by decide +kernel
theorem d_Mod_init_57 : decode b_Mod_init 57 = .ok (.aastore, 1) := by decide +kernel
theorem d_Mod_init_58 : decode b_Mod_init 58 = .ok (.dup, 1) := by decide +kernel
theorem d_Mod_init_59 : decode b_Mod_init 59 = .ok (.bipush 9, 2) := by decide +kernel
theorem d_Mod_init_61 : decode b_Mod_init 61 = .ok (.ldc 27, 2) := by decide +kernel
theorem d_Mod_init_63 : decode b_Mod_init 63 = .ok (.aastore, 1) := by decide +kernel
theorem d_Mod_init_64 : decode b_Mod_init 64 = .ok (.dup, 1) := by decide +kernel
theorem d_Mod_init_65 : decode b_Mod_init 65 = .ok (.bipush 10, 2) := by decide +kernel
theorem d_Mod_init_67 : decode b_Mod_init 67 = .ok (.ldc 29, 2) := by decide +kernel
theorem d_Mod_init_69 : decode b_Mod_init 69 = .ok (.aastore, 1) := by decide +kernel
theorem d_Mod_init_70 : decode b_Mod_init 70 = .ok (.dup, 1) := by decide +kernel
theorem d_Mod_init_71 : decode b_Mod_init 71 = .ok (.bipush 11, 2) := by decide +kernel
theorem d_Mod_init_73 : decode b_Mod_init 73 = .ok (.ldc 31, 2) := by decide +kernel
theorem d_Mod_init_75 : decode b_Mod_init 75 = .ok (.aastore, 1) := by decide +kernel
theorem d_Mod_init_76 : decode b_Mod_init 76 = .ok (.dup, 1) := by decide +kernel
theorem d_Mod_init_77 : decode b_Mod_init 77 = .ok (.bipush 12, 2) := by decide +kernel
theorem d_Mod_init_79 : decode b_Mod_init 79 = .ok (.ldc 33, 2) := by decide +kernel
theorem d_Mod_init_81 : decode b_Mod_init 81 = .ok (.aastore, 1) := by decide +kernel
theorem d_Mod_init_82 : decode b_Mod_init 82 = .ok (.dup, 1) := by decide +kernel
theorem d_Mod_init_83 : decode b_Mod_init 83 = .ok (.bipush 13, 2) := by decide +kernel
theorem d_Mod_init_85 : decode b_Mod_init 85 = .ok (.ldc 35, 2) := by decide +kernel
theorem d_Mod_init_87 : decode b_Mod_init 87 = .ok (.aastore, 1) := by decide +kernel
theorem d_Mod_init_88 : decode b_Mod_init 88 = .ok (.dup, 1) := by decide +kernel
theorem d_Mod_init_89 : decode b_Mod_init 89 = .ok (.bipush 14, 2) := by decide +kernel
theorem d_Mod_init_91 : decode b_Mod_init 91 = .ok (.ldc 37, 2) := by decide +kernel
theorem d_Mod_init_93 : decode b_Mod_init 93 = .ok (.aastore, 1) := by decide +kernel
theorem d_Mod_init_94 : decode b_Mod_init 94 = .ok (.dup, 1) := by decide +kernel
theorem d_Mod_init_95 : decode b_Mod_init 95 = .ok (.bipush 15, 2) := by decide +kernel
theorem d_Mod_init_97 : decode b_Mod_init 97 = .ok (.ldc 39, 2) := by decide +kernel
theorem d_Mod_init_99 : decode b_Mod_init 99 = .ok (.aastore, 1) := by decide +kernel
theorem d_Mod_init_100 : decode b_Mod_init 100 = .ok (.dup, 1) := by decide +kernel
theorem d_Mod_init_101 : decode b_Mod_init 101 = .ok (.bipush 16, 2) := by decide +kernel
theorem d_Mod_init_103 : decode b_Mod_init 103 = .ok (.ldc 41, 2) := by decide +kernel
theorem d_Mod_init_105 : decode b_Mod_init 105 = .ok (.aastore, 1) := by decide +kernel
theorem d_Mod_init_106 : decode b_Mod_init 106 = .ok (.dup, 1) := by decide +kernel
theorem d_Mod_init_107 : decode b_Mod_init 107 = .ok (.bipush 17, 2) := by decide +kernel
theorem d_Mod_init_109 : decode b_Mod_init 109 = .ok (.ldc 43, 2) := by decide +kernel
theorem d_Mod_init_111 : decode b_Mod_init 111 = .ok (.aastore, 1) := by decide +kernel
theorem d_Mod_init_112 : decode b_Mod_init 112 = .ok (.dup, 1) := by decide +kernel
theorem d_Mod_init_113 : decode b_Mod_init 113 = .ok (.bipush 18, 2) := by decide +kernel
theorem d_Mod_init_115 : decode b_Mod_init 115 = .ok (.ldc 45, 2) := by decide +kernel
theorem d_Mod_init_117 : decode b_Mod_init 117 = .ok (.aastore, 1) := by decide +kernel
theorem d_Mod_init_118 : decode b_Mod_init 118 = .ok (.dup, 1) := by decide +kernel
theorem d_Mod_init_119 : decode b_Mod_init 119 = .ok (.bipush 19, 2) := by decide +kernel
theorem d_Mod_init_121 : decode b_Mod_init 121 = .ok (.ldc 47, 2) := by decide +kernel
theorem d_Mod_init_123 : decode b_Mod_init 123 = .ok (.aastore, 1) := by decide +kernel
theorem d_Mod_init_124 : decode b_Mod_init 124 = .ok (.dup, 1) := by decide +kernel
theorem d_Mod_init_125 : decode b_Mod_init 125 = .ok (.bipush 20, 2) := by decide +kernel
theorem d_Mod_init_127 : decode b_Mod_init 127 = .ok (.ldc 49, 2) := by decide +kernel
theorem d_Mod_init_129 : decode b_Mod_init 129 = .ok (.aastore, 1) := by decide +kernel
theorem d_Mod_init_130 : decode b_Mod_init 130 = .ok (.dup, 1) := by decide +kernel
theorem d_Mod_init_131 : decode b_Mod_init 131 = .ok (.bipush 21, 2) := by decide +kernel
theorem d_Mod_init_133 : decode b_Mod_init 133 = .ok (.ldc 51, 2) := by decide +kernel
theorem d_Mod_init_135 : decode b_Mod_init 135 = .ok (.aastore, 1) := by decide +kernel
theorem d_Mod_init_136 : decode b_Mod_init 136 = .ok (.dup, 1) := by decide +kernel
theorem d_Mod_init_137 : decode b_Mod_init 137 = .ok (.bipush 22, 2) := by decide +kernel
theorem d_Mod_init_139 : decode b_Mod_init 139 = .ok (.ldc 53, 2) := by decide +kernel
theorem d_Mod_init_141 : decode b_Mod_init 141 = .ok (.aastore, 1) := by decide +kernel
theorem d_Mod_init_142 : decode b_Mod_init 142 = .ok (.dup, 1) := by decide +kernel
theorem d_Mod_init_143 : decode b_Mod_init 143 = .ok (.bipush 23, 2) := by decide +kernel
theorem d_Mod_init_145 : decode b_Mod_init 145 = .ok (.ldc 55, 2) := by decide +kernel
theorem d_Mod_init_147 : decode b_Mod_init 147 = .ok (.aastore, 1) := by decide +kernel
theorem d_Mod_init_148 : decode b_Mod_init 148 = .ok (.dup, 1) := by decide +kernel
theorem d_Mod_init_149 : decode b_Mod_init 149 = .ok (.bipush 24, 2) := by decide +kernel
theorem d_Mod_init_151 : decode b_Mod_init 151 = .ok (.ldc 57, 2) := by decide +kernel
theorem d_Mod_init_153 : decode b_Mod_init 153 = .ok (.aastore, 1) := by decide +kernel
theorem d_Mod_init_154 : decode b_Mod_init 154 = .ok (.dup, 1) := by decide +kernel
theorem d_Mod_init_155 : decode b_Mod_init 155 = .ok (.bipush 25, 2) := by decide +kernel
theorem d_Mod_init_157 : decode b_Mod_init 157 = .ok (.ldc 59, 2) := by decide +kernel
theorem d_Mod_init_159 : decode b_Mod_init 159 = .ok (.aastore, 1) := by decide +kernel
theorem d_Mod_init_160 : decode b_Mod_init 160 = .ok (.dup, 1) := by decide +kernel
theorem d_Mod_init_161 : decode b_Mod_init 161 = .ok (.bipush 26, 2) := by decide +kernel
theorem d_Mod_init_163 : decode b_Mod_init 163 = .ok (.ldc 61, 2) := by decide +kernel
theorem d_Mod_init_165 : decode b_Mod_init 165 = .ok (.aastore, 1) := by decide +kernel
theorem d_Mod_init_166 : decode b_Mod_init 166 = .ok (.dup, 1) := by decide +kernel
theorem d_Mod_init_167 : decode b_Mod_init 167 = .ok (.bipush 27, 2) := by decide +kernel
theorem d_Mod_init_169 : decode b_Mod_init 169 = .ok (.ldc 63, 2) := by decide +kernel
theorem d_Mod_init_171 : decode b_Mod_init 171 = .ok (.aastore, 1) := by decide +kernel
theorem d_Mod_init_172 : decode b_Mod_init 172 = .ok (.dup, 1) := by decide +kernel
theorem d_Mod_init_173 : decode b_Mod_init 173 = .ok (.bipush 28, 2) := by decide +kernel
theorem d_Mod_init_175 : decode b_Mod_init 175 = .ok (.ldc 65, 2) := by decide +kernel
theorem d_Mod_init_177 : decode b_Mod_init 177 = .ok (.aastore, 1) := by decide +kernel
theorem d_Mod_init_178 : decode b_Mod_init 178 = .ok (.dup, 1) := by decide +kernel
theorem d_Mod_init_179 : decode b_Mod_init 179 = .ok (.bipush 29, 2) := by decide +kernel
theorem d_Mod_init_181 : decode b_Mod_init 181 = .ok (.ldc 67, 2) := by decide +kernel
theorem d_Mod_init_183 : decode b_Mod_init 183 = .ok (.aastore, 1) := by decide +kernel
theorem d_Mod_init_184 : decode b_Mod_init 184 = .ok (.dup, 1) := by decide +kernel
theorem d_Mod_init_185 : decode b_Mod_init 185 = .ok (.bipush 30, 2) := by decide +kernel
theorem d_Mod_init_187 : decode b_Mod_init 187 = .ok (.ldc 69, 2) := by decide +kernel
theorem d_Mod_init_189 : decode b_Mod_init 189 = .ok (.aastore, 1) := by decide +kernel
theorem d_Mod_init_190 : decode b_Mod_init 190 = .ok (.dup, 1) := by decide +kernel
theorem d_Mod_init_191 : decode b_Mod_init 191 = .ok (.bipush 31, 2) := by decide +kernel
theorem d_Mod_init_193 : decode b_Mod_init 193 = .ok (.ldc 71, 2) := by decide +kernel
theorem d_Mod_init_195 : decode b_Mod_init 195 = .ok (.aastore, 1) := by decide +kernel
theorem d_Mod_init_196 : decode b_Mod_init 196 = .ok (.dup, 1) := by decide +kernel
theorem d_Mod_init_197 : decode b_Mod_init 197 = .ok (.bipush 32, 2) := by decide +kernel
theorem d_Mod_init_199 : decode b_Mod_init 199 = .ok (.ldc 73, 2) := by decide +kernel
theorem d_Mod_init_201 : decode b_Mod_init 201 = .ok (.aastore, 1) := by decide +kernel
theorem d_Mod_init_202 : decode b_Mod_init 202 = .ok (.dup, 1) := by decide +kernel
theorem d_Mod_init_203 : decode b_Mod_init 203 = .ok (.bipush 33, 2) := by decide +kernel
theorem d_Mod_init_205 : decode b_Mod_init 205 = .ok (.ldc 75, 2) := by decide +kernel
theorem d_Mod_init_207 : decode b_Mod_init 207 = .ok (.aastore, 1) := by decide +kernel
theorem d_Mod_init_208 : decode b_Mod_init 208 = .ok (.dup, 1) := by decide +kernel
theorem d_Mod_init_209 : decode b_Mod_init 209 = .ok (.bipush 34, 2) := by decide +kernel
theorem d_Mod_init_211 : decode b_Mod_init 211 = .ok (.ldc 77, 2) := by decide +kernel
theorem d_Mod_init_213 : decode b_Mod_init 213 = .ok (.aastore, 1) := by decide +kernel
theorem d_Mod_init_214 : decode b_Mod_init 214 = .ok (.putfield 79, 3) := by decide +kernel
theorem d_Mod_init_217 : decode b_Mod_init 217 = .ok (.aload_n 0, 1) := by decide +kernel
theorem d_Mod_init_218 : decode b_Mod_init 218 = .ok (.bipush 44, 2) := by decide +kernel
theorem d_Mod_init_220 : decode b_Mod_init 220 = .ok (.anewarray 7, 3) := by decide +kernel
theorem d_Mod_init_223 : decode b_Mod_init 223 = .ok (.dup, 1) := by decide +kernel
theorem d_Mod_init_224 : decode b_Mod_init 224 = .ok (.iconst 0, 1) := by decide +kernel
theorem d_Mod_init_225 : decode b_Mod_init 225 = .ok (.ldc 85, 2) := by decide +kernel
theorem d_Mod_init_227 : decode b_Mod_init 227 = .ok (.aastore, 1) := by decide +kernel
theorem d_Mod_init_228 : decode b_Mod_init 228 = .ok (.dup, 1) := by decide +kernel
theorem d_Mod_init_229 : decode b_Mod_init 229 = .ok (.iconst 1, 1) := by decide +kernel
theorem d_Mod_init_230 : decode b_Mod_init 230 = .ok (.ldc 87, 2) := by decide +kernel
theorem d_Mod_init_232 : decode b_Mod_init 232 = .ok (.aastore, 1) := by decide +kernel
theorem d_Mod_init_233 : decode b_Mod_init 233 = .ok (.dup, 1) := by decide +kernel
theorem d_Mod_init_234 : decode b_Mod_init 234 = .ok (.iconst 2, 1) := by decide +kernel
theorem d_Mod_init_235 : decode b_Mod_init 235 = .ok (.ldc 89, 2) := by decide +kernel
theorem d_Mod_init_237 : decode b_Mod_init 237 = .ok (.aastore, 1) := by decide +kernel
theorem d_Mod_init_238 : decode b_Mod_init 238 = .ok (.dup, 1) := by decide +kernel
theorem d_Mod_init_239 : decode b_Mod_init 239 = .ok (.iconst 3, 1) := by decide +kernel
theorem d_Mod_init_240 : decode b_Mod_init 240 = .ok (.ldc 91, 2) := by decide +kernel
theorem d_Mod_init_242 : decode b_Mod_init 242 = .ok (.aastore, 1) := by decide +kernel
theorem d_Mod_init_243 : decode b_Mod_init 243 = .ok (.dup, 1) := by decide +kernel
theorem d_Mod_init_244 : decode b_Mod_init 244 = .ok (.iconst 4, 1) := by decide +kernel
theorem d_Mod_init_245 : decode b_Mod_init 245 = .ok (.ldc 93, 2) := by decide +kernel
theorem d_Mod_init_247 : decode b_Mod_init 247 = .ok (.aastore, 1) := by decide +kernel
theorem d_Mod_init_248 : decode b_Mod_init 248 = .ok (.dup, 1) := by decide +kernel
theorem d_Mod_init_249 : decode b_Mod_init 249 = .ok (.iconst 5, 1) := by decide +kernel
theorem d_Mod_init_250 : decode b_Mod_init 250 = .ok (.ldc 95, 2) := by decide +kernel
theorem d_Mod_init_252 : decode b_Mod_init 252 = .ok (.aastore, 1) := by decide +kernel
theorem d_Mod_init_253 : decode b_Mod_init 253 = .ok (.dup, 1) := by decide +kernel
theorem d_Mod_init_254 : decode b_Mod_init 254 = .ok (.bipush 6, 2) := by decide +kernel
theorem d_Mod_init_256 : decode b_Mod_init 256 = .ok (.ldc 97, 2) := by decide +kernel
theorem d_Mod_init_258 : decode b_Mod_init 258 = .ok (.aastore, 1) := by decide +kernel
theorem d_Mod_init_259 : decode b_Mod_init 259 = .ok (.dup, 1) := by decide +kernel
theorem d_Mod_init_260 : decode b_Mod_init 260 = .ok (.bipush 7, 2) := by decide +kernel
theorem d_Mod_init_262 : decode b_Mod_init 262 = .ok (.ldc 99, 2) := by decide +kernel
theorem d_Mod_init_264 : decode b_Mod_init 264 = .ok (.aastore, 1) := by decide +kernel
theorem d_Mod_init_265 : decode b_Mod_init 265 = .ok (.dup, 1) := by decide +kernel
theorem d_Mod_init_266 : decode b_Mod_init 266 = .ok (.bipush 8, 2) := by decide +kernel
theorem d_Mod_init_268 : decode b_Mod_init 268 = .ok (.ldc 101, 2) := by decide +kernel
theorem d_Mod_init_270 : decode b_Mod_init 270 = .ok (.aastore, 1) := by decide +kernel
theorem d_Mod_init_271 : decode b_Mod_init 271 = .ok (.dup, 1) := by decide +kernel
theorem d_Mod_init_272 : decode b_Mod_init 272 = .ok (.bipush 9, 2) := by decide +kernel
theorem d_Mod_init_274 : decode b_Mod_init 274 = .ok (.ldc 103, 2) := by decide +kernel
theorem d_Mod_init_276 : decode b_Mod_init 276 = .ok (.aastore, 1) := by decide +kernel
theorem d_Mod_init_277 : decode b_Mod_init 277 = .ok (.dup, 1) := by decide +kernel
theorem d_Mod_init_278 : decode b_Mod_init 278 = .ok (.bipush 10, 2) := by decide +kernel
theorem d_Mod_init_280 : decode b_Mod_init 280 = .ok (.ldc 105, 2) := by decide +kernel
theorem d_Mod_init_282 : decode b_Mod_init 282 = .ok (.aastore, 1) := by decide +kernel
theorem d_Mod_init_283 : decode b_Mod_init 283 = .ok (.dup, 1) := by decide +kernel
theorem d_Mod_init_284 : decode b_Mod_init 284 = .ok (.bipush 11, 2) := by decide +kernel
theorem d_Mod_init_286 : decode b_Mod_init 286 = .ok (.ldc 107, 2) := by decide +kernel
theorem d_Mod_init_288 : decode b_Mod_init 288 = .ok (.aastore, 1) := by decide +kernel
theorem d_Mod_init_289 : decode b_Mod_init 289 = .ok (.dup, 1) := by decide +kernel
theorem d_Mod_init_290 : decode b_Mod_init 290 = .ok (.bipush 12, 2) := by decide +kernel
theorem d_Mod_init_292 : decode b_Mod_init 292 = .ok (.ldc 109, 2) := by decide +kernel
theorem d_Mod_init_294 : decode b_Mod_init 294 = .ok (.aastore, 1) := by decide +kernel
theorem d_Mod_init_295 : decode b_Mod_init 295 = .ok (.dup, 1) := by decide +kernel
theorem d_Mod_init_296 : decode b_Mod_init 296 = .ok (.bipush 13, 2) := by decide +kernel
theorem d_Mod_init_298 : decode b_Mod_init 298 = .ok (.ldc 111, 2) := by decide +kernel
theorem d_Mod_init_300 : decode b_Mod_init 300 = .ok (.aastore, 1) := by decide +kernel
theorem d_Mod_init_301 : decode b_Mod_init 301 = .ok (.dup, 1) := by decide +kernel
theorem d_Mod_init_302 : decode b_Mod_init 302 = .ok (.bipush 14, 2) := by decide +kernel
theorem d_Mod_init_304 : decode b_Mod_init 304 = .ok (.ldc 113, 2) := by decide +kernel
theorem d_Mod_init_306 : decode b_Mod_init 306 = .ok (.aastore, 1) := by decide +kernel
theorem d_Mod_init_307 : decode b_Mod_init 307 = .ok (.dup, 1) := by decide +kernel
theorem d_Mod_init_308 : decode b_Mod_init 308 = .ok (.bipush 15, 2) := by decide +kernel
theorem d_Mod_init_310 : decode b_Mod_init 310 = .ok (.ldc 115, 2) := by decide +kernel
theorem d_Mod_init_312 : decode b_Mod_init 312 = .ok (.aastore, 1) := by decide +kernel
theorem d_Mod_init_313 : decode b_Mod_init 313 = .ok (.dup, 1) := by decide +kernel
theorem d_Mod_init_314 : decode b_Mod_init 314 = .ok (.bipush 16, 2) := by decide +kernel
theorem d_Mod_init_316 : decode b_Mod_init 316 = .ok (.ldc 117, 2) := by decide +kernel
theorem d_Mod_init_318 : decode b_Mod_init 318 = .ok (.aastore, 1) := by decide +kernel
theorem d_Mod_init_319 : decode b_Mod_init 319 = .ok (.dup, 1) := by decide +kernel
theorem d_Mod_init_320 : decode b_Mod_init 320 = .ok (.bipush 17, 2) := by decide +kernel
theorem d_Mod_init_322 : decode b_Mod_init 322 = .ok (.ldc 119, 2) := by decide +kernel
theorem d_Mod_init_324 : decode b_Mod_init 324 = .ok (.aastore, 1) := by decide +kernel
theorem d_Mod_init_325 : decode b_Mod_init 325 = .ok (.dup, 1) := by decide +kernel
theorem d_Mod_init_326 : decode b_Mod_init 326 = .ok (.bipush 18, 2) := by decide +kernel
theorem d_Mod_init_328 : decode b_Mod_init 328 = .ok (.ldc 121, 2) := by decide +kernel
theorem d_Mod_init_330 : decode b_Mod_init 330 = .ok (.aastore, 1) := by decide +kernel
theorem d_Mod_init_331 : decode b_Mod_init 331 = .ok (.dup, 1) := by decide +kernel
theorem d_Mod_init_332 : decode b_Mod_init 332 = .ok (.bipush 19, 2) := by decide +kernel
theorem d_Mod_init_334 : decode b_Mod_init 334 = .ok (.ldc 123, 2) := by decide +kernel
theorem d_Mod_init_336 : decode b_Mod_init 336 = .ok (.aastore, 1) := by decide +kernel
theorem d_Mod_init_337 : decode b_Mod_init 337 = .ok (.dup, 1) := by decide +kernel
theorem d_Mod_init_338 : decode b_Mod_init 338 = .ok (.bipush 20, 2) := by decide +kernel
theorem d_Mod_init_340 : decode b_Mod_init 340 = .ok (.ldc 125, 2) := by decide +kernel
theorem d_Mod_init_342 : decode b_Mod_init 342 = .ok (.aastore, 1) := by decide +kernel
theorem d_Mod_init_343 : decode b_Mod_init 343 = .ok (.dup, 1) := by decide +kernel
theorem d_Mod_init_344 : decode b_Mod_init 344 = .ok (.bipush 21, 2) := by decide +kernel
theorem d_Mod_init_346 : decode b_Mod_init 346 = .ok (.ldc 127, 2) := by decide +kernel
theorem d_Mod_init_348 : decode b_Mod_init 348 = .ok (.aastore, 1) := by decide +kernel
theorem d_Mod_init_349 : decode b_Mod_init 349 = .ok (.dup, 1) := by decide +kernel
theorem d_Mod_init_350 : decode b_Mod_init 350 = .ok (.bipush 22, 2) := by decide +kernel
theorem d_Mod_init_352 : decode b_Mod_init 352 = .ok (.ldc 129, 2) := by decide +kernel
theorem d_Mod_init_354 : decode b_Mod_init 354 = .ok (.aastore, 1) := by decide +kernel
theorem d_Mod_init_355 : decode b_Mod_init 355 = .ok (.dup, 1) := by decide +kernel
theorem d_Mod_init_356 : decode b_Mod_init 356 = .ok (.bipush 23, 2) := by decide +kernel
theorem d_Mod_init_358 : decode b_Mod_init 358 = .ok (.ldc 131, 2) := by decide +kernel
theorem d_Mod_init_360 : decode b_Mod_init 360 = .ok (.aastore, 1) := by decide +kernel
theorem d_Mod_init_361 : decode b_Mod_init 361 = .ok (.dup, 1) := by decide +kernel
theorem d_Mod_init_362 : decode b_Mod_init 362 = .ok (.bipush 24, 2) := by decide +kernel
theorem d_Mod_init_364 : decode b_Mod_init 364 = .ok (.ldc 133, 2) := by decide +kernel
theorem d_Mod_init_366 : decode b_Mod_init 366 = .ok (.aastore, 1) := by decide +kernel
theorem d_Mod_init_367 : decode b_Mod_init 367 = .ok (.dup, 1) := by decide +kernel
theorem d_Mod_init_368 : decode b_Mod_init 368 = .ok (.bipush 25, 2) := by decide +kernel
theorem d_Mod_init_370 : decode b_Mod_init 370 = .ok (.ldc 135, 2) := by decide +kernel
theorem d_Mod_init_372 : decode b_Mod_init 372 = .ok (.aastore, 1) := by decide +kernel
theorem d_Mod_init_373 : decode b_Mod_init 373 = .ok (.dup, 1) := by decide +kernel
theorem d_Mod_init_374 : decode b_Mod_init 374 = .ok (.bipush 26, 2) := by decide +kernel
theorem d_Mod_init_376 : decode b_Mod_init 376 = .ok (.ldc 137, 2) := by decide +kernel
theorem d_Mod_init_378 : decode b_Mod_init 378 = .ok (.aastore, 1) := by decide +kernel
theorem d_Mod_init_379 : decode b_Mod_init 379 = .ok (.dup, 1) := by decide +kernel
theorem d_Mod_init_380 : decode b_Mod_init 380 = .ok (.bipush 27, 2) := by decide +kernel
theorem d_Mod_init_382 : decode b_Mod_init 382 = .ok (.ldc 139, 2) := by decide +kernel
theorem d_Mod_init_384 : decode b_Mod_init 384 = .ok (.aastore, 1) := by decide +kernel
theorem d_Mod_init_385 : decode b_Mod_init 385 = .ok (.dup, 1) := by decide +kernel
theorem d_Mod_init_386 : decode b_Mod_init 386 = .ok (.bipush 28, 2) := by decide +kernel
theorem d_Mod_init_388 : decode b_Mod_init 388 = .ok (.ldc 141, 2) := by decide +kernel
theorem d_Mod_init_390 : decode b_Mod_init 390 = .ok (.aastore, 1) := by decide +kernel
theorem d_Mod_init_391 : decode b_Mod_init 391 = .ok (.dup, 1) := by decide +kernel
theorem d_Mod_init_392 : decode b_Mod_init 392 = .ok (.bipush 29, 2) := by decide +kernel
theorem d_Mod_init_394 : decode b_Mod_init 394 = .ok (.ldc 143, 2) := by decide +kernel
theorem d_Mod_init_396 : decode b_Mod_init 396 = .ok (.aastore, 1) := by decide +kernel
theorem d_Mod_init_397 : decode b_Mod_init 397 = .ok (.dup, 1) := by decide +kernel
theorem d_Mod_init_398 : decode b_Mod_init 398 = .ok (.bipush 30, 2) := by decide +kernel
theorem d_Mod_init_400 : decode b_Mod_init 400 = .ok (.ldc 145, 2) := by decide +kernel
theorem d_Mod_init_402 : decode b_Mod_init 402 = .ok (.aastore, 1) := by decide +kernel
theorem d_Mod_init_403 : decode b_Mod_init 403 = .ok (.dup, 1) := by decide +kernel
theorem d_Mod_init_404 : decode b_Mod_init 404 = .ok (.bipush 31, 2) := by decide +kernel
theorem d_Mod_init_406 : decode b_Mod_init 406 = .ok (.ldc 147, 2) := by decide +kernel
theorem d_Mod_init_408 : decode b_Mod_init 408 = .ok (.aastore, 1) := by decide +kernel
theorem d_Mod_init_409 : decode b_Mod_init 409 = .ok (.dup, 1) := by decide +kernel
theorem d_Mod_init_410 : decode b_Mod_init 410 = .ok (.bipush 32, 2) := by decide +kernel
theorem d_Mod_init_412 : decode b_Mod_init 412 = .ok (.ldc 149, 2) := by decide +kernel
theorem d_Mod_init_414 : decode b_Mod_init 414 = .ok (.aastore, 1) := by decide +kernel
theorem d_Mod_init_415 : decode b_Mod_init 415 = .ok (.dup, 1) := by decide +kernel
theorem d_Mod_init_416 : decode b_Mod_init 416 = .ok (.bipush 33, 2) := by decide +kernel
theorem d_Mod_init_418 : decode b_Mod_init 418 = .ok (.ldc 151, 2) := by decide +kernel
theorem d_Mod_init_420 : decode b_Mod_init 420 = .ok (.aastore, 1) := by decide +kernel
theorem d_Mod_init_421 : decode b_Mod_init 421 = .ok (.dup, 1) := by decide +kernel
theorem d_Mod_init_422 : decode b_Mod_init 422 = .ok (.bipush 34, 2) := by decide +kernel
theorem d_Mod_init_424 : decode b_Mod_init 424 = .ok (.ldc 153, 2) := by decide +kernel
theorem d_Mod_init_426 : decode b_Mod_init 426 = .ok (.aastore, 1) := by decide +kernel
theorem d_Mod_init_427 : decode b_Mod_init 427 = .ok (.dup, 1) := by decide +kernel
theorem d_Mod_init_428 : decode b_Mod_init 428 = .ok (.bipush 35, 2) := by decide +kernel
theorem d_Mod_init_430 : decode b_Mod_init 430 = .ok (.ldc 155, 2) := by decide +kernel
theorem d_Mod_init_432 : decode b_Mod_init 432 = .ok (.aastore, 1) := by decide +kernel
theorem d_Mod_init_433 : decode b_Mod_init 433 = .ok (.dup, 1) := by decide +kernel
theorem d_Mod_init_434 : decode b_Mod_init 434 = .ok (.bipush 36, 2) := by decide +kernel
theorem d_Mod_init_436 : decode b_Mod_init 436 = .ok (.ldc 157, 2) := by decide +kernel
theorem d_Mod_init_438 : decode b_Mod_init 438 = .ok (.aastore, 1) := by decide +kernel
theorem d_Mod_init_439 : decode b_Mod_init 439 = .ok (.dup, 1) := by decide +kernel
theorem d_Mod_init_440 : decode b_Mod_init 440 = .ok (.bipush 37, 2) := by decide +kernel
theorem d_Mod_init_442 : decode b_Mod_init 442 = .ok (.ldc 159, 2) := by decide +kernel
theorem d_Mod_init_444 : decode b_Mod_init 444 = .ok (.aastore, 1) := by decide +kernel
theorem d_Mod_init_445 : decode b_Mod_init 445 = .ok (.dup, 1) := by decide +kernel
theorem d_Mod_init_446 : decode b_Mod_init 446 = .ok (.bipush 38, 2) := by decide +kernel
theorem d_Mod_init_448 : decode b_Mod_init 448 = .ok (.ldc 161, 2) := by decide +kernel
theorem d_Mod_init_450 : decode b_Mod_init 450 = .ok (.aastore, 1) := by decide +kernel
theorem d_Mod_init_451 : decode b_Mod_init 451 = .ok (.dup, 1) := by decide +kernel
theorem d_Mod_init_452 : decode b_Mod_init 452 = .ok (.bipush 39, 2) := by decide +kernel
theorem d_Mod_init_454 : decode b_Mod_init 454 = .ok (.ldc 163, 2) := by decide +kernel
theorem d_Mod_init_456 : decode b_Mod_init 456 = .ok (.aastore, 1) := by decide +kernel
theorem d_Mod_init_457 : decode b_Mod_init 457 = .ok (.dup, 1) := by decide +kernel
theorem d_Mod_init_458 : decode b_Mod_init 458 = .ok (.bipush 40, 2) := by decide +kernel
theorem d_Mod_init_460 : decode b_Mod_init 460 = .ok (.ldc 165, 2) := by decide +kernel
theorem d_Mod_init_462 : decode b_Mod_init 462 = .ok (.aastore, 1) := by decide +kernel
theorem d_Mod_init_463 : decode b_Mod_init 463 = .ok (.dup, 1) := by decide +kernel
theorem d_Mod_init_464 : decode b_Mod_init 464 = .ok (.bipush 41, 2) := by decide +kernel
theorem d_Mod_init_466 : decode b_Mod_init 466 = .ok (.ldc 167, 2) := by decide +kernel
theorem d_Mod_init_468 : decode b_Mod_init 468 = .ok (.aastore, 1) := by decide +kernel
theorem d_Mod_init_469 : decode b_Mod_init 469 = .ok (.dup, 1) := by decide +kernel
theorem d_Mod_init_470 : decode b_Mod_init 470 = .ok (.bipush 42, 2) := by decide +kernel
theorem d_Mod_init_472 : decode b_Mod_init 472 = .ok (.ldc 169, 2) := by decide +kernel
theorem d_Mod_init_474 : decode b_Mod_init 474 = .ok (.aastore, 1) := by decide +kernel
theorem d_Mod_init_475 : decode b_Mod_init 475 = .ok (.dup, 1) := by decide +kernel
theorem d_Mod_init_476 : decode b_Mod_init 476 = .ok (.bipush 43, 2) := by decide +kernel
theorem d_Mod_init_478 : decode b_Mod_init 478 = .ok (.ldc 171, 2) := by decide +kernel
theorem d_Mod_init_480 : decode b_Mod_init 480 = .ok (.aastore, 1) := by decide +kernel
theorem d_Mod_init_481 : decode b_Mod_init 481 = .ok (.putfield 173, 3) := by decide +kernel
theorem d_Mod_init_484 : decode b_Mod_init 484 = .ok (.aload_n 0, 1) := by decide +kernel
theorem d_Mod_init_485 : decode b_Mod_init 485 = .ok (.iconst (-1), 1) := by decide +kernel
theorem d_Mod_init_486 : decode b_Mod_init 486 = .ok (.putfield 176, 3) := by decide +kernel
theorem d_Mod_init_489 : decode b_Mod_init 489 = .ok (.aload_n 0, 1) := by decide +kernel
theorem d_Mod_init_490 : decode b_Mod_init 490 = .ok (.sipush 4100, 3) := by decide +kernel
theorem d_Mod_init_493 : decode b_Mod_init 493 = .ok (.newarray .int, 2) := by decide +kernel
theorem d_Mod_init_495 : decode b_Mod_init 495 = .ok (.putfield 180, 3) := by decide +kernel
theorem d_Mod_init_498 : decode b_Mod_init 498 = .ok (.aload_n 0, 1) := by decide +kernel
theorem d_Mod_init_499 : decode b_Mod_init 499 = .ok (.sipush 4100, 3) := by decide +kernel
theorem d_Mod_init_502 : decode b_Mod_init 502 = .ok (.newarray .int, 2) := by decide +kernel
theorem d_Mod_init_504 : decode b_Mod_init 504 = .ok (.putfield 184, 3) := by decide +kernel
theorem d_Mod_init_507 : decode b_Mod_init 507 = .ok (.aload_n 0, 1) := by decide +kernel
theorem d_Mod_init_508 : decode b_Mod_init 508 = .ok (.sipush 9000, 3) := by decide +kernel
theorem d_Mod_init_511 : decode b_Mod_init 511 = .ok (.newarray .int, 2) := by decide +kernel
theorem d_Mod_init_513 : decode b_Mod_init 513 = .ok (.putfield 187, 3) := by decide +kernel
theorem d_Mod_init_516 : decode b_Mod_init 516 = .ok (.aload_n 0, 1) := by decide +kernel
theorem d_Mod_init_517 : decode b_Mod_init 517 = .ok (.sipush 9000, 3) := by decide +kernel
theorem d_Mod_init_520 : decode b_Mod_init 520 = .ok (.newarray .int, 2) := by decide +kernel
theorem d_Mod_init_522 : decode b_Mod_init 522 = .ok (.putfield 190, 3) := by decide +kernel
theorem d_Mod_init_525 : decode b_Mod_init 525 = .ok (.aload_n 0, 1) := by decide +kernel
theorem d_Mod_init_526 : decode b_Mod_init 526 = .ok (.sipush 9000, 3) := by decide +kernel
theorem d_Mod_init_529 : decode b_Mod_init 529 = .ok (.newarray .int, 2) := by decide +kernel
theorem d_Mod_init_531 : decode b_Mod_init 531 = .ok (.putfield 192, 3) := by decide +kernel
theorem d_Mod_init_534 : decode b_Mod_init 534 = .ok (.aload_n 0, 1) := by decide +kernel
theorem d_Mod_init_535 : decode b_Mod_init 535 = .ok (.sipush 4098, 3) := by decide +kernel
theorem d_Mod_init_538 : decode b_Mod_init 538 = .ok (.newarray .int, 2) := by decide +kernel
theorem d_Mod_init_540 : decode b_Mod_init 540 = .ok (.putfield 195, 3) := by decide +kernel
theorem d_Mod_init_543 : decode b_Mod_init 543 = .ok (.return_, 1) := by decide +kernel
/-! the reference's constructor -/
theorem up_step {f g : Nat → Option Nat} {k : Nat} {F : Nat → Nat} {i : Int32} (hf : ∀ j, j < k → f j = some (F j)) (hi : i.toNatClampNeg = k) (hg : g = va_up f i.toNatClampNeg (some (F k))) : ∀ j, j < k + 1 → g j = some (F j) := by
  intro j hj
  rw [hg, hi]
  by_cases e : j = k
  · rw [e]; exact va_up_self _ _ _
  · rw [va_up_ne _ _ e]; exact hf j (by omega)
theorem p_arr {D : va_G} {cl : List vw_C} {ws : va_W} {H : Heap} {q0 a n : Nat} {cA : ClassId} {f g : Nat → Option Nat} (hP : va_P D cl ws H) (ha : ws[q0]? = some (a, .inl (cA, n, .inr (.inr (.inr (.inr f)))))) (h : ∀ j, j < n → f j = g j) : va_P D cl (ws.set q0 (a, .inl (cA, n, .inr (.inr (.inr (.inr g)))))) H := by
  intro k q hk
  by_cases e : k = q0
  · subst e
    rw [List.getElem?_set_self (List.getElem?_eq_some_iff.mp ha).1] at hk
    cases hk
    have h1 : H[a]? = some (vp_cell cA (n, .inr (.inr (.inr (.inr f))))) := hP k _ ha
    show H[a]? = some (vp_cell cA (n, .inr (.inr (.inr (.inr g)))))
    rw [h1, vp_cell_q, vp_cell_q]
    have e2 : arrV cA n (fun j => va_rf (f j)) = arrV cA n (fun j => va_rf (g j)) := by
      unfold arrV
      congr 1
      apply congrArg
      funext j
      show va_rf (f j.val) = va_rf (g j.val)
      rw [h j.val j.isLt]
    rw [e2]
  · rw [List.getElem?_set_ne (Ne.symm e)] at hk
    exact hP k q hk
theorem cX_any {cd : Nat → Nat → Nat} {A : Nat → Prop} {s : State} {H : Heap} {locs : List Loc} {i : Nat} (hC : cX cd A s) (hi : i < nS) (hS : va_S A s.heap H locs) : va_Any "java/lang/String" s H (cd 0 i) := by
  obtain ⟨cell, h1, h2, h3⟩ := cX_recv hC hi hS
  obtain ⟨kC, hkC, -⟩ := Vm.findClass_spec h3
  refine ⟨cell, h1, h2, ⟨kC, hkC⟩, fun comp hc => ?_⟩
  cases Option.some.inj (hc.symm.trans h3)
  exact va_asg _ _
theorem k_arrS {D : va_G} {cl : List vw_C} {ty : Nat → ClassId} {cA : ClassId} {s : State} (h : va_K D cl (gT ty ++ [(cA, .object "java/lang/String")]) s) : cA = ty 2 := by
  obtain ⟨_, _, _, _, _, h1⟩ := (h.2 3 _ rfl).2
  obtain ⟨_, _, _, _, _, h2⟩ := (h.2 2 _ rfl).2
  exact Option.some.inj (h1.symm.trans h2)
def m_0 : MS := (0, 0, 0, -1, 0, 0, 0, 0, fun _ => 0, fun _ => 0, fun _ => 0, fun _ => 0, fun _ => 0, fun _ => 0)
def i_Mod (h0 : Nat) (ty : Nat → ClassId) (cd : Nat → Nat → Nat) : Option (Nat → Nat) → va_W
  | none => [(h0, .inr (5, [.null, .null, .int 0, .int 0, .int 0, .int 0, .int 0, .int 0, .int 0, .int 0, .null, .null, .null, .null, .null, .null]))]
  | some ad => mW ad ty cd m_0
set_option maxHeartbeats 16000000 in
set_option maxRecDepth 100000 in
theorem c_Mod_init {l : Launch} {D : va_G} {ty : Nat → ClassId} {cd : Nat → Nat → Nat} {h0 : Nat} : g_Metn l y_Mod_init (Cond.code y_Mod_init b_Mod_init 1 none :: gW) ({ frames := 1, cells := 8, slots := 39377, locals := 13 }) D vwCl (gT ty) (i_Mod h0 ty cd) (cN cd) [.ref h0] none (fun u => ∃ ad, u = some ad ∧ ad 0 = h0) 8 39377 := by
  refine g_startC (cc := b_Mod_init) (maxL := 1) (by decide) rfl rfl (Nat.le_of_ble_eq_true rfl) ?_
  intro p e s m args below meth c A Q R ls hR hx hb hts hown hml hin hA hS hP hD hK hCx hl hret
  have hown : s.vm.findClass "TokenDeskModel" = some m.cls := hown
  have hl : lv_has ls 1 [(0, .ref h0)] := hl
  refine lv_aload_n hx hb d_Mod_init_0 rfl (lv_at hl 0 rfl) ?_
  refine W.objInit hx hb hown (hts _ q_o_Mod) (hts _ q_oi) (hts _ q_oc) rfl (by rw [hml]; exact hl.1) rfl d_Mod_init_1 (by rw [hR]; exact Nat.le_of_ble_eq_true rfl) (by rw [hR]; exact Nat.le_of_ble_eq_true rfl) ?_
  refine W.eq (g2 := F0 m 4 ls []) rfl ?_
  refine lv_aload_n hx hb d_Mod_init_4 rfl (lv_at hl 0 rfl) ?_
  refine lv_bipush (v := 35) hx hb d_Mod_init_5 (by decide) ?_
  refine va_newq (C := "java/lang/String") (N' := 35) hx hb hown (hts _ q_x_Mod_7) hCx.2.2.2 hK hP hD hS hA (by decide) (by decide) (Nat.le_of_ble_eq_true rfl) (by rw [hR]; exact Nat.le_of_ble_eq_true rfl) (by rw [hR]; exact Nat.le_of_ble_eq_true rfl) d_Mod_init_7 (fun q1 cA H hK1 hP hD hS => ?_)
  obtain rfl := k_arrS hK1
  obtain ⟨f1_0, hf1_0⟩ : ∃ z, z = (fun _ : Nat => (none : Option Nat)) := ⟨_, rfl⟩
  rw [← hf1_0] at hP hD
  have hP : va_P D vwCl [(h0, .inr (5, [.null, .null, .int 0, .int 0, .int 0, .int 0, .int 0, .int 0, .int 0, .int 0, .null, .null, .null, .null, .null, .null])), (q1, .inl (ty 2, 35, .inr (.inr (.inr (.inr f1_0)))))] H := hP
  have hD : va_D A [(h0, .inr (5, [.null, .null, .int 0, .int 0, .int 0, .int 0, .int 0, .int 0, .int 0, .int 0, .null, .null, .null, .null, .null, .null])), (q1, .inl (ty 2, 35, .inr (.inr (.inr (.inr f1_0)))))] := hD
  have gf1_0 : ∀ j, j < 0 → f1_0 j = some (cd 0 (mwI j)) := fun j hj => absurd hj (Nat.not_lt_zero j)
  refine lv_dup hx hb d_Mod_init_10 rfl ?_
  refine lv_iconst (v := 0) hx hb d_Mod_init_11 (by decide) ?_
  refine cX_ldc (i := 0) hx hb hown hCx.1 (by decide +kernel) d_Mod_init_12 ?_
  refine va_astqM (D := D) hx hb hK hP hD hS 1 2 rfl rfl (cX_any hCx.1 (show 0 < nS by decide) hS) (show vp_in 0 35 by unfold vp_in; decide) d_Mod_init_14 (fun H locs hP hD hS => ?_)
  obtain ⟨f1_1, hf1_1⟩ : ∃ z, z = va_up f1_0 (0 : Int32).toNatClampNeg (some (cd 0 (mwI 0))) := ⟨_, rfl⟩
  have hP : va_P D vwCl [(h0, .inr (5, [.null, .null, .int 0, .int 0, .int 0, .int 0, .int 0, .int 0, .int 0, .int 0, .null, .null, .null, .null, .null, .null])), (q1, .inl (ty 2, 35, .inr (.inr (.inr (.inr (va_up f1_0 (0 : Int32).toNatClampNeg (some (cd 0 (mwI 0)))))))))] H := hP
  have hD : va_D A [(h0, .inr (5, [.null, .null, .int 0, .int 0, .int 0, .int 0, .int 0, .int 0, .int 0, .int 0, .null, .null, .null, .null, .null, .null])), (q1, .inl (ty 2, 35, .inr (.inr (.inr (.inr (va_up f1_0 (0 : Int32).toNatClampNeg (some (cd 0 (mwI 0)))))))))] := hD
  rw [← hf1_1] at hP hD
  have gf1_1 := up_step (F := fun j => cd 0 (mwI j)) gf1_0 (by decide) hf1_1
  clear hf1_1 gf1_0
  refine lv_dup hx hb d_Mod_init_15 rfl ?_
  refine lv_iconst (v := 1) hx hb d_Mod_init_16 (by decide) ?_
  refine cX_ldc (i := 1) hx hb hown hCx.1 (by decide +kernel) d_Mod_init_17 ?_
  refine va_astqM (D := D) hx hb hK hP hD hS 1 2 rfl rfl (cX_any hCx.1 (show 1 < nS by decide) hS) (show vp_in 1 35 by unfold vp_in; decide) d_Mod_init_19 (fun H locs hP hD hS => ?_)
  obtain ⟨f1_2, hf1_2⟩ : ∃ z, z = va_up f1_1 (1 : Int32).toNatClampNeg (some (cd 0 (mwI 1))) := ⟨_, rfl⟩
  have hP : va_P D vwCl [(h0, .inr (5, [.null, .null, .int 0, .int 0, .int 0, .int 0, .int 0, .int 0, .int 0, .int 0, .null, .null, .null, .null, .null, .null])), (q1, .inl (ty 2, 35, .inr (.inr (.inr (.inr (va_up f1_1 (1 : Int32).toNatClampNeg (some (cd 0 (mwI 1)))))))))] H := hP
  have hD : va_D A [(h0, .inr (5, [.null, .null, .int 0, .int 0, .int 0, .int 0, .int 0, .int 0, .int 0, .int 0, .null, .null, .null, .null, .null, .null])), (q1, .inl (ty 2, 35, .inr (.inr (.inr (.inr (va_up f1_1 (1 : Int32).toNatClampNeg (some (cd 0 (mwI 1)))))))))] := hD
  rw [← hf1_2] at hP hD
  have gf1_2 := up_step (F := fun j => cd 0 (mwI j)) gf1_1 (by decide) hf1_2
  clear hf1_2 gf1_1
  refine lv_dup hx hb d_Mod_init_20 rfl ?_
  refine lv_iconst (v := 2) hx hb d_Mod_init_21 (by decide) ?_
  refine cX_ldc (i := 2) hx hb hown hCx.1 (by decide +kernel) d_Mod_init_22 ?_
  refine va_astqM (D := D) hx hb hK hP hD hS 1 2 rfl rfl (cX_any hCx.1 (show 2 < nS by decide) hS) (show vp_in 2 35 by unfold vp_in; decide) d_Mod_init_24 (fun H locs hP hD hS => ?_)
  obtain ⟨f1_3, hf1_3⟩ : ∃ z, z = va_up f1_2 (2 : Int32).toNatClampNeg (some (cd 0 (mwI 2))) := ⟨_, rfl⟩
  have hP : va_P D vwCl [(h0, .inr (5, [.null, .null, .int 0, .int 0, .int 0, .int 0, .int 0, .int 0, .int 0, .int 0, .null, .null, .null, .null, .null, .null])), (q1, .inl (ty 2, 35, .inr (.inr (.inr (.inr (va_up f1_2 (2 : Int32).toNatClampNeg (some (cd 0 (mwI 2)))))))))] H := hP
  have hD : va_D A [(h0, .inr (5, [.null, .null, .int 0, .int 0, .int 0, .int 0, .int 0, .int 0, .int 0, .int 0, .null, .null, .null, .null, .null, .null])), (q1, .inl (ty 2, 35, .inr (.inr (.inr (.inr (va_up f1_2 (2 : Int32).toNatClampNeg (some (cd 0 (mwI 2)))))))))] := hD
  rw [← hf1_3] at hP hD
  have gf1_3 := up_step (F := fun j => cd 0 (mwI j)) gf1_2 (by decide) hf1_3
  clear hf1_3 gf1_2
  refine lv_dup hx hb d_Mod_init_25 rfl ?_
  refine lv_iconst (v := 3) hx hb d_Mod_init_26 (by decide) ?_
  refine cX_ldc (i := 3) hx hb hown hCx.1 (by decide +kernel) d_Mod_init_27 ?_
  refine va_astqM (D := D) hx hb hK hP hD hS 1 2 rfl rfl (cX_any hCx.1 (show 3 < nS by decide) hS) (show vp_in 3 35 by unfold vp_in; decide) d_Mod_init_29 (fun H locs hP hD hS => ?_)
  obtain ⟨f1_4, hf1_4⟩ : ∃ z, z = va_up f1_3 (3 : Int32).toNatClampNeg (some (cd 0 (mwI 3))) := ⟨_, rfl⟩
  have hP : va_P D vwCl [(h0, .inr (5, [.null, .null, .int 0, .int 0, .int 0, .int 0, .int 0, .int 0, .int 0, .int 0, .null, .null, .null, .null, .null, .null])), (q1, .inl (ty 2, 35, .inr (.inr (.inr (.inr (va_up f1_3 (3 : Int32).toNatClampNeg (some (cd 0 (mwI 3)))))))))] H := hP
  have hD : va_D A [(h0, .inr (5, [.null, .null, .int 0, .int 0, .int 0, .int 0, .int 0, .int 0, .int 0, .int 0, .null, .null, .null, .null, .null, .null])), (q1, .inl (ty 2, 35, .inr (.inr (.inr (.inr (va_up f1_3 (3 : Int32).toNatClampNeg (some (cd 0 (mwI 3)))))))))] := hD
  rw [← hf1_4] at hP hD
  have gf1_4 := up_step (F := fun j => cd 0 (mwI j)) gf1_3 (by decide) hf1_4
  clear hf1_4 gf1_3
  refine lv_dup hx hb d_Mod_init_30 rfl ?_
  refine lv_iconst (v := 4) hx hb d_Mod_init_31 (by decide) ?_
  refine cX_ldc (i := 4) hx hb hown hCx.1 (by decide +kernel) d_Mod_init_32 ?_
  refine va_astqM (D := D) hx hb hK hP hD hS 1 2 rfl rfl (cX_any hCx.1 (show 4 < nS by decide) hS) (show vp_in 4 35 by unfold vp_in; decide) d_Mod_init_34 (fun H locs hP hD hS => ?_)
  obtain ⟨f1_5, hf1_5⟩ : ∃ z, z = va_up f1_4 (4 : Int32).toNatClampNeg (some (cd 0 (mwI 4))) := ⟨_, rfl⟩
  have hP : va_P D vwCl [(h0, .inr (5, [.null, .null, .int 0, .int 0, .int 0, .int 0, .int 0, .int 0, .int 0, .int 0, .null, .null, .null, .null, .null, .null])), (q1, .inl (ty 2, 35, .inr (.inr (.inr (.inr (va_up f1_4 (4 : Int32).toNatClampNeg (some (cd 0 (mwI 4)))))))))] H := hP
  have hD : va_D A [(h0, .inr (5, [.null, .null, .int 0, .int 0, .int 0, .int 0, .int 0, .int 0, .int 0, .int 0, .null, .null, .null, .null, .null, .null])), (q1, .inl (ty 2, 35, .inr (.inr (.inr (.inr (va_up f1_4 (4 : Int32).toNatClampNeg (some (cd 0 (mwI 4)))))))))] := hD
  rw [← hf1_5] at hP hD
  have gf1_5 := up_step (F := fun j => cd 0 (mwI j)) gf1_4 (by decide) hf1_5
  clear hf1_5 gf1_4
  refine lv_dup hx hb d_Mod_init_35 rfl ?_
  refine lv_iconst (v := 5) hx hb d_Mod_init_36 (by decide) ?_
  refine cX_ldc (i := 5) hx hb hown hCx.1 (by decide +kernel) d_Mod_init_37 ?_
  refine va_astqM (D := D) hx hb hK hP hD hS 1 2 rfl rfl (cX_any hCx.1 (show 5 < nS by decide) hS) (show vp_in 5 35 by unfold vp_in; decide) d_Mod_init_39 (fun H locs hP hD hS => ?_)
  obtain ⟨f1_6, hf1_6⟩ : ∃ z, z = va_up f1_5 (5 : Int32).toNatClampNeg (some (cd 0 (mwI 5))) := ⟨_, rfl⟩
  have hP : va_P D vwCl [(h0, .inr (5, [.null, .null, .int 0, .int 0, .int 0, .int 0, .int 0, .int 0, .int 0, .int 0, .null, .null, .null, .null, .null, .null])), (q1, .inl (ty 2, 35, .inr (.inr (.inr (.inr (va_up f1_5 (5 : Int32).toNatClampNeg (some (cd 0 (mwI 5)))))))))] H := hP
  have hD : va_D A [(h0, .inr (5, [.null, .null, .int 0, .int 0, .int 0, .int 0, .int 0, .int 0, .int 0, .int 0, .null, .null, .null, .null, .null, .null])), (q1, .inl (ty 2, 35, .inr (.inr (.inr (.inr (va_up f1_5 (5 : Int32).toNatClampNeg (some (cd 0 (mwI 5)))))))))] := hD
  rw [← hf1_6] at hP hD
  have gf1_6 := up_step (F := fun j => cd 0 (mwI j)) gf1_5 (by decide) hf1_6
  clear hf1_6 gf1_5
  refine lv_dup hx hb d_Mod_init_40 rfl ?_
  refine lv_bipush (v := 6) hx hb d_Mod_init_41 (by decide) ?_
  refine cX_ldc (i := 6) hx hb hown hCx.1 (by decide +kernel) d_Mod_init_43 ?_
  refine va_astqM (D := D) hx hb hK hP hD hS 1 2 rfl rfl (cX_any hCx.1 (show 6 < nS by decide) hS) (show vp_in 6 35 by unfold vp_in; decide) d_Mod_init_45 (fun H locs hP hD hS => ?_)
  obtain ⟨f1_7, hf1_7⟩ : ∃ z, z = va_up f1_6 (6 : Int32).toNatClampNeg (some (cd 0 (mwI 6))) := ⟨_, rfl⟩
  have hP : va_P D vwCl [(h0, .inr (5, [.null, .null, .int 0, .int 0, .int 0, .int 0, .int 0, .int 0, .int 0, .int 0, .null, .null, .null, .null, .null, .null])), (q1, .inl (ty 2, 35, .inr (.inr (.inr (.inr (va_up f1_6 (6 : Int32).toNatClampNeg (some (cd 0 (mwI 6)))))))))] H := hP
  have hD : va_D A [(h0, .inr (5, [.null, .null, .int 0, .int 0, .int 0, .int 0, .int 0, .int 0, .int 0, .int 0, .null, .null, .null, .null, .null, .null])), (q1, .inl (ty 2, 35, .inr (.inr (.inr (.inr (va_up f1_6 (6 : Int32).toNatClampNeg (some (cd 0 (mwI 6)))))))))] := hD
  rw [← hf1_7] at hP hD
  have gf1_7 := up_step (F := fun j => cd 0 (mwI j)) gf1_6 (by decide) hf1_7
  clear hf1_7 gf1_6
  refine lv_dup hx hb d_Mod_init_46 rfl ?_
  refine lv_bipush (v := 7) hx hb d_Mod_init_47 (by decide) ?_
  refine cX_ldc (i := 7) hx hb hown hCx.1 (by decide +kernel) d_Mod_init_49 ?_
  refine va_astqM (D := D) hx hb hK hP hD hS 1 2 rfl rfl (cX_any hCx.1 (show 7 < nS by decide) hS) (show vp_in 7 35 by unfold vp_in; decide) d_Mod_init_51 (fun H locs hP hD hS => ?_)
  obtain ⟨f1_8, hf1_8⟩ : ∃ z, z = va_up f1_7 (7 : Int32).toNatClampNeg (some (cd 0 (mwI 7))) := ⟨_, rfl⟩
  have hP : va_P D vwCl [(h0, .inr (5, [.null, .null, .int 0, .int 0, .int 0, .int 0, .int 0, .int 0, .int 0, .int 0, .null, .null, .null, .null, .null, .null])), (q1, .inl (ty 2, 35, .inr (.inr (.inr (.inr (va_up f1_7 (7 : Int32).toNatClampNeg (some (cd 0 (mwI 7)))))))))] H := hP
  have hD : va_D A [(h0, .inr (5, [.null, .null, .int 0, .int 0, .int 0, .int 0, .int 0, .int 0, .int 0, .int 0, .null, .null, .null, .null, .null, .null])), (q1, .inl (ty 2, 35, .inr (.inr (.inr (.inr (va_up f1_7 (7 : Int32).toNatClampNeg (some (cd 0 (mwI 7)))))))))] := hD
  rw [← hf1_8] at hP hD
  have gf1_8 := up_step (F := fun j => cd 0 (mwI j)) gf1_7 (by decide) hf1_8
  clear hf1_8 gf1_7
  refine lv_dup hx hb d_Mod_init_52 rfl ?_
  refine lv_bipush (v := 8) hx hb d_Mod_init_53 (by decide) ?_
  refine cX_ldc (i := 8) hx hb hown hCx.1 (by decide +kernel) d_Mod_init_55 ?_
  refine va_astqM (D := D) hx hb hK hP hD hS 1 2 rfl rfl (cX_any hCx.1 (show 8 < nS by decide) hS) (show vp_in 8 35 by unfold vp_in; decide) d_Mod_init_57 (fun H locs hP hD hS => ?_)
  obtain ⟨f1_9, hf1_9⟩ : ∃ z, z = va_up f1_8 (8 : Int32).toNatClampNeg (some (cd 0 (mwI 8))) := ⟨_, rfl⟩
  have hP : va_P D vwCl [(h0, .inr (5, [.null, .null, .int 0, .int 0, .int 0, .int 0, .int 0, .int 0, .int 0, .int 0, .null, .null, .null, .null, .null, .null])), (q1, .inl (ty 2, 35, .inr (.inr (.inr (.inr (va_up f1_8 (8 : Int32).toNatClampNeg (some (cd 0 (mwI 8)))))))))] H := hP
  have hD : va_D A [(h0, .inr (5, [.null, .null, .int 0, .int 0, .int 0, .int 0, .int 0, .int 0, .int 0, .int 0, .null, .null, .null, .null, .null, .null])), (q1, .inl (ty 2, 35, .inr (.inr (.inr (.inr (va_up f1_8 (8 : Int32).toNatClampNeg (some (cd 0 (mwI 8)))))))))] := hD
  rw [← hf1_9] at hP hD
  have gf1_9 := up_step (F := fun j => cd 0 (mwI j)) gf1_8 (by decide) hf1_9
  clear hf1_9 gf1_8
  refine lv_dup hx hb d_Mod_init_58 rfl ?_
  refine lv_bipush (v := 9) hx hb d_Mod_init_59 (by decide) ?_
  refine cX_ldc (i := 9) hx hb hown hCx.1 (by decide +kernel) d_Mod_init_61 ?_
  refine va_astqM (D := D) hx hb hK hP hD hS 1 2 rfl rfl (cX_any hCx.1 (show 9 < nS by decide) hS) (show vp_in 9 35 by unfold vp_in; decide) d_Mod_init_63 (fun H locs hP hD hS => ?_)
  obtain ⟨f1_10, hf1_10⟩ : ∃ z, z = va_up f1_9 (9 : Int32).toNatClampNeg (some (cd 0 (mwI 9))) := ⟨_, rfl⟩
  have hP : va_P D vwCl [(h0, .inr (5, [.null, .null, .int 0, .int 0, .int 0, .int 0, .int 0, .int 0, .int 0, .int 0, .null, .null, .null, .null, .null, .null])), (q1, .inl (ty 2, 35, .inr (.inr (.inr (.inr (va_up f1_9 (9 : Int32).toNatClampNeg (some (cd 0 (mwI 9)))))))))] H := hP
  have hD : va_D A [(h0, .inr (5, [.null, .null, .int 0, .int 0, .int 0, .int 0, .int 0, .int 0, .int 0, .int 0, .null, .null, .null, .null, .null, .null])), (q1, .inl (ty 2, 35, .inr (.inr (.inr (.inr (va_up f1_9 (9 : Int32).toNatClampNeg (some (cd 0 (mwI 9)))))))))] := hD
  rw [← hf1_10] at hP hD
  have gf1_10 := up_step (F := fun j => cd 0 (mwI j)) gf1_9 (by decide) hf1_10
  clear hf1_10 gf1_9
  refine lv_dup hx hb d_Mod_init_64 rfl ?_
  refine lv_bipush (v := 10) hx hb d_Mod_init_65 (by decide) ?_
  refine cX_ldc (i := 10) hx hb hown hCx.1 (by decide +kernel) d_Mod_init_67 ?_
  refine va_astqM (D := D) hx hb hK hP hD hS 1 2 rfl rfl (cX_any hCx.1 (show 10 < nS by decide) hS) (show vp_in 10 35 by unfold vp_in; decide) d_Mod_init_69 (fun H locs hP hD hS => ?_)
  obtain ⟨f1_11, hf1_11⟩ : ∃ z, z = va_up f1_10 (10 : Int32).toNatClampNeg (some (cd 0 (mwI 10))) := ⟨_, rfl⟩
  have hP : va_P D vwCl [(h0, .inr (5, [.null, .null, .int 0, .int 0, .int 0, .int 0, .int 0, .int 0, .int 0, .int 0, .null, .null, .null, .null, .null, .null])), (q1, .inl (ty 2, 35, .inr (.inr (.inr (.inr (va_up f1_10 (10 : Int32).toNatClampNeg (some (cd 0 (mwI 10)))))))))] H := hP
  have hD : va_D A [(h0, .inr (5, [.null, .null, .int 0, .int 0, .int 0, .int 0, .int 0, .int 0, .int 0, .int 0, .null, .null, .null, .null, .null, .null])), (q1, .inl (ty 2, 35, .inr (.inr (.inr (.inr (va_up f1_10 (10 : Int32).toNatClampNeg (some (cd 0 (mwI 10)))))))))] := hD
  rw [← hf1_11] at hP hD
  have gf1_11 := up_step (F := fun j => cd 0 (mwI j)) gf1_10 (by decide) hf1_11
  clear hf1_11 gf1_10
  refine lv_dup hx hb d_Mod_init_70 rfl ?_
  refine lv_bipush (v := 11) hx hb d_Mod_init_71 (by decide) ?_
  refine cX_ldc (i := 11) hx hb hown hCx.1 (by decide +kernel) d_Mod_init_73 ?_
  refine va_astqM (D := D) hx hb hK hP hD hS 1 2 rfl rfl (cX_any hCx.1 (show 11 < nS by decide) hS) (show vp_in 11 35 by unfold vp_in; decide) d_Mod_init_75 (fun H locs hP hD hS => ?_)
  obtain ⟨f1_12, hf1_12⟩ : ∃ z, z = va_up f1_11 (11 : Int32).toNatClampNeg (some (cd 0 (mwI 11))) := ⟨_, rfl⟩
  have hP : va_P D vwCl [(h0, .inr (5, [.null, .null, .int 0, .int 0, .int 0, .int 0, .int 0, .int 0, .int 0, .int 0, .null, .null, .null, .null, .null, .null])), (q1, .inl (ty 2, 35, .inr (.inr (.inr (.inr (va_up f1_11 (11 : Int32).toNatClampNeg (some (cd 0 (mwI 11)))))))))] H := hP
  have hD : va_D A [(h0, .inr (5, [.null, .null, .int 0, .int 0, .int 0, .int 0, .int 0, .int 0, .int 0, .int 0, .null, .null, .null, .null, .null, .null])), (q1, .inl (ty 2, 35, .inr (.inr (.inr (.inr (va_up f1_11 (11 : Int32).toNatClampNeg (some (cd 0 (mwI 11)))))))))] := hD
  rw [← hf1_12] at hP hD
  have gf1_12 := up_step (F := fun j => cd 0 (mwI j)) gf1_11 (by decide) hf1_12
  clear hf1_12 gf1_11
  refine lv_dup hx hb d_Mod_init_76 rfl ?_
  refine lv_bipush (v := 12) hx hb d_Mod_init_77 (by decide) ?_
  refine cX_ldc (i := 12) hx hb hown hCx.1 (by decide +kernel) d_Mod_init_79 ?_
  refine va_astqM (D := D) hx hb hK hP hD hS 1 2 rfl rfl (cX_any hCx.1 (show 12 < nS by decide) hS) (show vp_in 12 35 by unfold vp_in; decide) d_Mod_init_81 (fun H locs hP hD hS => ?_)
  obtain ⟨f1_13, hf1_13⟩ : ∃ z, z = va_up f1_12 (12 : Int32).toNatClampNeg (some (cd 0 (mwI 12))) := ⟨_, rfl⟩
  have hP : va_P D vwCl [(h0, .inr (5, [.null, .null, .int 0, .int 0, .int 0, .int 0, .int 0, .int 0, .int 0, .int 0, .null, .null, .null, .null, .null, .null])), (q1, .inl (ty 2, 35, .inr (.inr (.inr (.inr (va_up f1_12 (12 : Int32).toNatClampNeg (some (cd 0 (mwI 12)))))))))] H := hP
  have hD : va_D A [(h0, .inr (5, [.null, .null, .int 0, .int 0, .int 0, .int 0, .int 0, .int 0, .int 0, .int 0, .null, .null, .null, .null, .null, .null])), (q1, .inl (ty 2, 35, .inr (.inr (.inr (.inr (va_up f1_12 (12 : Int32).toNatClampNeg (some (cd 0 (mwI 12)))))))))] := hD
  rw [← hf1_13] at hP hD
  have gf1_13 := up_step (F := fun j => cd 0 (mwI j)) gf1_12 (by decide) hf1_13
  clear hf1_13 gf1_12
  refine lv_dup hx hb d_Mod_init_82 rfl ?_
  refine lv_bipush (v := 13) hx hb d_Mod_init_83 (by decide) ?_
  refine cX_ldc (i := 13) hx hb hown hCx.1 (by decide +kernel) d_Mod_init_85 ?_
  refine va_astqM (D := D) hx hb hK hP hD hS 1 2 rfl rfl (cX_any hCx.1 (show 13 < nS by decide) hS) (show vp_in 13 35 by unfold vp_in; decide) d_Mod_init_87 (fun H locs hP hD hS => ?_)
  obtain ⟨f1_14, hf1_14⟩ : ∃ z, z = va_up f1_13 (13 : Int32).toNatClampNeg (some (cd 0 (mwI 13))) := ⟨_, rfl⟩
  have hP : va_P D vwCl [(h0, .inr (5, [.null, .null, .int 0, .int 0, .int 0, .int 0, .int 0, .int 0, .int 0, .int 0, .null, .null, .null, .null, .null, .null])), (q1, .inl (ty 2, 35, .inr (.inr (.inr (.inr (va_up f1_13 (13 : Int32).toNatClampNeg (some (cd 0 (mwI 13)))))))))] H := hP
  have hD : va_D A [(h0, .inr (5, [.null, .null, .int 0, .int 0, .int 0, .int 0, .int 0, .int 0, .int 0, .int 0, .null, .null, .null, .null, .null, .null])), (q1, .inl (ty 2, 35, .inr (.inr (.inr (.inr (va_up f1_13 (13 : Int32).toNatClampNeg (some (cd 0 (mwI 13)))))))))] := hD
  rw [← hf1_14] at hP hD
  have gf1_14 := up_step (F := fun j => cd 0 (mwI j)) gf1_13 (by decide) hf1_14
  clear hf1_14 gf1_13
  refine lv_dup hx hb d_Mod_init_88 rfl ?_
  refine lv_bipush (v := 14) hx hb d_Mod_init_89 (by decide) ?_
  refine cX_ldc (i := 14) hx hb hown hCx.1 (by decide +kernel) d_Mod_init_91 ?_
  refine va_astqM (D := D) hx hb hK hP hD hS 1 2 rfl rfl (cX_any hCx.1 (show 14 < nS by decide) hS) (show vp_in 14 35 by unfold vp_in; decide) d_Mod_init_93 (fun H locs hP hD hS => ?_)
  obtain ⟨f1_15, hf1_15⟩ : ∃ z, z = va_up f1_14 (14 : Int32).toNatClampNeg (some (cd 0 (mwI 14))) := ⟨_, rfl⟩
  have hP : va_P D vwCl [(h0, .inr (5, [.null, .null, .int 0, .int 0, .int 0, .int 0, .int 0, .int 0, .int 0, .int 0, .null, .null, .null, .null, .null, .null])), (q1, .inl (ty 2, 35, .inr (.inr (.inr (.inr (va_up f1_14 (14 : Int32).toNatClampNeg (some (cd 0 (mwI 14)))))))))] H := hP
  have hD : va_D A [(h0, .inr (5, [.null, .null, .int 0, .int 0, .int 0, .int 0, .int 0, .int 0, .int 0, .int 0, .null, .null, .null, .null, .null, .null])), (q1, .inl (ty 2, 35, .inr (.inr (.inr (.inr (va_up f1_14 (14 : Int32).toNatClampNeg (some (cd 0 (mwI 14)))))))))] := hD
  rw [← hf1_15] at hP hD
  have gf1_15 := up_step (F := fun j => cd 0 (mwI j)) gf1_14 (by decide) hf1_15
  clear hf1_15 gf1_14
  refine lv_dup hx hb d_Mod_init_94 rfl ?_
  refine lv_bipush (v := 15) hx hb d_Mod_init_95 (by decide) ?_
  refine cX_ldc (i := 15) hx hb hown hCx.1 (by decide +kernel) d_Mod_init_97 ?_
  refine va_astqM (D := D) hx hb hK hP hD hS 1 2 rfl rfl (cX_any hCx.1 (show 15 < nS by decide) hS) (show vp_in 15 35 by unfold vp_in; decide) d_Mod_init_99 (fun H locs hP hD hS => ?_)
  obtain ⟨f1_16, hf1_16⟩ : ∃ z, z = va_up f1_15 (15 : Int32).toNatClampNeg (some (cd 0 (mwI 15))) := ⟨_, rfl⟩
  have hP : va_P D vwCl [(h0, .inr (5, [.null, .null, .int 0, .int 0, .int 0, .int 0, .int 0, .int 0, .int 0, .int 0, .null, .null, .null, .null, .null, .null])), (q1, .inl (ty 2, 35, .inr (.inr (.inr (.inr (va_up f1_15 (15 : Int32).toNatClampNeg (some (cd 0 (mwI 15)))))))))] H := hP
  have hD : va_D A [(h0, .inr (5, [.null, .null, .int 0, .int 0, .int 0, .int 0, .int 0, .int 0, .int 0, .int 0, .null, .null, .null, .null, .null, .null])), (q1, .inl (ty 2, 35, .inr (.inr (.inr (.inr (va_up f1_15 (15 : Int32).toNatClampNeg (some (cd 0 (mwI 15)))))))))] := hD
  rw [← hf1_16] at hP hD
  have gf1_16 := up_step (F := fun j => cd 0 (mwI j)) gf1_15 (by decide) hf1_16
  clear hf1_16 gf1_15
  refine lv_dup hx hb d_Mod_init_100 rfl ?_
  refine lv_bipush (v := 16) hx hb d_Mod_init_101 (by decide) ?_
  refine cX_ldc (i := 16) hx hb hown hCx.1 (by decide +kernel) d_Mod_init_103 ?_
  refine va_astqM (D := D) hx hb hK hP hD hS 1 2 rfl rfl (cX_any hCx.1 (show 16 < nS by decide) hS) (show vp_in 16 35 by unfold vp_in; decide) d_Mod_init_105 (fun H locs hP hD hS => ?_)
  obtain ⟨f1_17, hf1_17⟩ : ∃ z, z = va_up f1_16 (16 : Int32).toNatClampNeg (some (cd 0 (mwI 16))) := ⟨_, rfl⟩
  have hP : va_P D vwCl [(h0, .inr (5, [.null, .null, .int 0, .int 0, .int 0, .int 0, .int 0, .int 0, .int 0, .int 0, .null, .null, .null, .null, .null, .null])), (q1, .inl (ty 2, 35, .inr (.inr (.inr (.inr (va_up f1_16 (16 : Int32).toNatClampNeg (some (cd 0 (mwI 16)))))))))] H := hP
  have hD : va_D A [(h0, .inr (5, [.null, .null, .int 0, .int 0, .int 0, .int 0, .int 0, .int 0, .int 0, .int 0, .null, .null, .null, .null, .null, .null])), (q1, .inl (ty 2, 35, .inr (.inr (.inr (.inr (va_up f1_16 (16 : Int32).toNatClampNeg (some (cd 0 (mwI 16)))))))))] := hD
  rw [← hf1_17] at hP hD
  have gf1_17 := up_step (F := fun j => cd 0 (mwI j)) gf1_16 (by decide) hf1_17
  clear hf1_17 gf1_16
  refine lv_dup hx hb d_Mod_init_106 rfl ?_
  refine lv_bipush (v := 17) hx hb d_Mod_init_107 (by decide) ?_
  refine cX_ldc (i := 17) hx hb hown hCx.1 (by decide +kernel) d_Mod_init_109 ?_
  refine va_astqM (D := D) hx hb hK hP hD hS 1 2 rfl rfl (cX_any hCx.1 (show 17 < nS by decide) hS) (show vp_in 17 35 by unfold vp_in; decide) d_Mod_init_111 (fun H locs hP hD hS => ?_)
  obtain ⟨f1_18, hf1_18⟩ : ∃ z, z = va_up f1_17 (17 : Int32).toNatClampNeg (some (cd 0 (mwI 17))) := ⟨_, rfl⟩
  have hP : va_P D vwCl [(h0, .inr (5, [.null, .null, .int 0, .int 0, .int 0, .int 0, .int 0, .int 0, .int 0, .int 0, .null, .null, .null, .null, .null, .null])), (q1, .inl (ty 2, 35, .inr (.inr (.inr (.inr (va_up f1_17 (17 : Int32).toNatClampNeg (some (cd 0 (mwI 17)))))))))] H := hP
  have hD : va_D A [(h0, .inr (5, [.null, .null, .int 0, .int 0, .int 0, .int 0, .int 0, .int 0, .int 0, .int 0, .null, .null, .null, .null, .null, .null])), (q1, .inl (ty 2, 35, .inr (.inr (.inr (.inr (va_up f1_17 (17 : Int32).toNatClampNeg (some (cd 0 (mwI 17)))))))))] := hD
  rw [← hf1_18] at hP hD
  have gf1_18 := up_step (F := fun j => cd 0 (mwI j)) gf1_17 (by decide) hf1_18
  clear hf1_18 gf1_17
  refine lv_dup hx hb d_Mod_init_112 rfl ?_
  refine lv_bipush (v := 18) hx hb d_Mod_init_113 (by decide) ?_
  refine cX_ldc (i := 18) hx hb hown hCx.1 (by decide +kernel) d_Mod_init_115 ?_
  refine va_astqM (D := D) hx hb hK hP hD hS 1 2 rfl rfl (cX_any hCx.1 (show 18 < nS by decide) hS) (show vp_in 18 35 by unfold vp_in; decide) d_Mod_init_117 (fun H locs hP hD hS => ?_)
  obtain ⟨f1_19, hf1_19⟩ : ∃ z, z = va_up f1_18 (18 : Int32).toNatClampNeg (some (cd 0 (mwI 18))) := ⟨_, rfl⟩
  have hP : va_P D vwCl [(h0, .inr (5, [.null, .null, .int 0, .int 0, .int 0, .int 0, .int 0, .int 0, .int 0, .int 0, .null, .null, .null, .null, .null, .null])), (q1, .inl (ty 2, 35, .inr (.inr (.inr (.inr (va_up f1_18 (18 : Int32).toNatClampNeg (some (cd 0 (mwI 18)))))))))] H := hP
  have hD : va_D A [(h0, .inr (5, [.null, .null, .int 0, .int 0, .int 0, .int 0, .int 0, .int 0, .int 0, .int 0, .null, .null, .null, .null, .null, .null])), (q1, .inl (ty 2, 35, .inr (.inr (.inr (.inr (va_up f1_18 (18 : Int32).toNatClampNeg (some (cd 0 (mwI 18)))))))))] := hD
  rw [← hf1_19] at hP hD
  have gf1_19 := up_step (F := fun j => cd 0 (mwI j)) gf1_18 (by decide) hf1_19
  clear hf1_19 gf1_18
  refine lv_dup hx hb d_Mod_init_118 rfl ?_
  refine lv_bipush (v := 19) hx hb d_Mod_init_119 (by decide) ?_
  refine cX_ldc (i := 19) hx hb hown hCx.1 (by decide +kernel) d_Mod_init_121 ?_
  refine va_astqM (D := D) hx hb hK hP hD hS 1 2 rfl rfl (cX_any hCx.1 (show 19 < nS by decide) hS) (show vp_in 19 35 by unfold vp_in; decide) d_Mod_init_123 (fun H locs hP hD hS => ?_)
  obtain ⟨f1_20, hf1_20⟩ : ∃ z, z = va_up f1_19 (19 : Int32).toNatClampNeg (some (cd 0 (mwI 19))) := ⟨_, rfl⟩
  have hP : va_P D vwCl [(h0, .inr (5, [.null, .null, .int 0, .int 0, .int 0, .int 0, .int 0, .int 0, .int 0, .int 0, .null, .null, .null, .null, .null, .null])), (q1, .inl (ty 2, 35, .inr (.inr (.inr (.inr (va_up f1_19 (19 : Int32).toNatClampNeg (some (cd 0 (mwI 19)))))))))] H := hP
  have hD : va_D A [(h0, .inr (5, [.null, .null, .int 0, .int 0, .int 0, .int 0, .int 0, .int 0, .int 0, .int 0, .null, .null, .null, .null, .null, .null])), (q1, .inl (ty 2, 35, .inr (.inr (.inr (.inr (va_up f1_19 (19 : Int32).toNatClampNeg (some (cd 0 (mwI 19)))))))))] := hD
  rw [← hf1_20] at hP hD
  have gf1_20 := up_step (F := fun j => cd 0 (mwI j)) gf1_19 (by decide) hf1_20
  clear hf1_20 gf1_19
  refine lv_dup hx hb d_Mod_init_124 rfl ?_
  refine lv_bipush (v := 20) hx hb d_Mod_init_125 (by decide) ?_
  refine cX_ldc (i := 20) hx hb hown hCx.1 (by decide +kernel) d_Mod_init_127 ?_
  refine va_astqM (D := D) hx hb hK hP hD hS 1 2 rfl rfl (cX_any hCx.1 (show 20 < nS by decide) hS) (show vp_in 20 35 by unfold vp_in; decide) d_Mod_init_129 (fun H locs hP hD hS => ?_)
  obtain ⟨f1_21, hf1_21⟩ : ∃ z, z = va_up f1_20 (20 : Int32).toNatClampNeg (some (cd 0 (mwI 20))) := ⟨_, rfl⟩
  have hP : va_P D vwCl [(h0, .inr (5, [.null, .null, .int 0, .int 0, .int 0, .int 0, .int 0, .int 0, .int 0, .int 0, .null, .null, .null, .null, .null, .null])), (q1, .inl (ty 2, 35, .inr (.inr (.inr (.inr (va_up f1_20 (20 : Int32).toNatClampNeg (some (cd 0 (mwI 20)))))))))] H := hP
  have hD : va_D A [(h0, .inr (5, [.null, .null, .int 0, .int 0, .int 0, .int 0, .int 0, .int 0, .int 0, .int 0, .null, .null, .null, .null, .null, .null])), (q1, .inl (ty 2, 35, .inr (.inr (.inr (.inr (va_up f1_20 (20 : Int32).toNatClampNeg (some (cd 0 (mwI 20)))))))))] := hD
  rw [← hf1_21] at hP hD
  have gf1_21 := up_step (F := fun j => cd 0 (mwI j)) gf1_20 (by decide) hf1_21
  clear hf1_21 gf1_20
  refine lv_dup hx hb d_Mod_init_130 rfl ?_
  refine lv_bipush (v := 21) hx hb d_Mod_init_131 (by decide) ?_
  refine cX_ldc (i := 21) hx hb hown hCx.1 (by decide +kernel) d_Mod_init_133 ?_
  refine va_astqM (D := D) hx hb hK hP hD hS 1 2 rfl rfl (cX_any hCx.1 (show 21 < nS by decide) hS) (show vp_in 21 35 by unfold vp_in; decide) d_Mod_init_135 (fun H locs hP hD hS => ?_)
  obtain ⟨f1_22, hf1_22⟩ : ∃ z, z = va_up f1_21 (21 : Int32).toNatClampNeg (some (cd 0 (mwI 21))) := ⟨_, rfl⟩
  have hP : va_P D vwCl [(h0, .inr (5, [.null, .null, .int 0, .int 0, .int 0, .int 0, .int 0, .int 0, .int 0, .int 0, .null, .null, .null, .null, .null, .null])), (q1, .inl (ty 2, 35, .inr (.inr (.inr (.inr (va_up f1_21 (21 : Int32).toNatClampNeg (some (cd 0 (mwI 21)))))))))] H := hP
  have hD : va_D A [(h0, .inr (5, [.null, .null, .int 0, .int 0, .int 0, .int 0, .int 0, .int 0, .int 0, .int 0, .null, .null, .null, .null, .null, .null])), (q1, .inl (ty 2, 35, .inr (.inr (.inr (.inr (va_up f1_21 (21 : Int32).toNatClampNeg (some (cd 0 (mwI 21)))))))))] := hD
  rw [← hf1_22] at hP hD
  have gf1_22 := up_step (F := fun j => cd 0 (mwI j)) gf1_21 (by decide) hf1_22
  clear hf1_22 gf1_21
  refine lv_dup hx hb d_Mod_init_136 rfl ?_
  refine lv_bipush (v := 22) hx hb d_Mod_init_137 (by decide) ?_
  refine cX_ldc (i := 22) hx hb hown hCx.1 (by decide +kernel) d_Mod_init_139 ?_
  refine va_astqM (D := D) hx hb hK hP hD hS 1 2 rfl rfl (cX_any hCx.1 (show 22 < nS by decide) hS) (show vp_in 22 35 by unfold vp_in; decide) d_Mod_init_141 (fun H locs hP hD hS => ?_)
  obtain ⟨f1_23, hf1_23⟩ : ∃ z, z = va_up f1_22 (22 : Int32).toNatClampNeg (some (cd 0 (mwI 22))) := ⟨_, rfl⟩
  have hP : va_P D vwCl [(h0, .inr (5, [.null, .null, .int 0, .int 0, .int 0, .int 0, .int 0, .int 0, .int 0, .int 0, .null, .null, .null, .null, .null, .null])), (q1, .inl (ty 2, 35, .inr (.inr (.inr (.inr (va_up f1_22 (22 : Int32).toNatClampNeg (some (cd 0 (mwI 22)))))))))] H := hP
  have hD : va_D A [(h0, .inr (5, [.null, .null, .int 0, .int 0, .int 0, .int 0, .int 0, .int 0, .int 0, .int 0, .null, .null, .null, .null, .null, .null])), (q1, .inl (ty 2, 35, .inr (.inr (.inr (.inr (va_up f1_22 (22 : Int32).toNatClampNeg (some (cd 0 (mwI 22)))))))))] := hD
  rw [← hf1_23] at hP hD
  have gf1_23 := up_step (F := fun j => cd 0 (mwI j)) gf1_22 (by decide) hf1_23
  clear hf1_23 gf1_22
  refine lv_dup hx hb d_Mod_init_142 rfl ?_
  refine lv_bipush (v := 23) hx hb d_Mod_init_143 (by decide) ?_
  refine cX_ldc (i := 23) hx hb hown hCx.1 (by decide +kernel) d_Mod_init_145 ?_
  refine va_astqM (D := D) hx hb hK hP hD hS 1 2 rfl rfl (cX_any hCx.1 (show 23 < nS by decide) hS) (show vp_in 23 35 by unfold vp_in; decide) d_Mod_init_147 (fun H locs hP hD hS => ?_)
  obtain ⟨f1_24, hf1_24⟩ : ∃ z, z = va_up f1_23 (23 : Int32).toNatClampNeg (some (cd 0 (mwI 23))) := ⟨_, rfl⟩
  have hP : va_P D vwCl [(h0, .inr (5, [.null, .null, .int 0, .int 0, .int 0, .int 0, .int 0, .int 0, .int 0, .int 0, .null, .null, .null, .null, .null, .null])), (q1, .inl (ty 2, 35, .inr (.inr (.inr (.inr (va_up f1_23 (23 : Int32).toNatClampNeg (some (cd 0 (mwI 23)))))))))] H := hP
  have hD : va_D A [(h0, .inr (5, [.null, .null, .int 0, .int 0, .int 0, .int 0, .int 0, .int 0, .int 0, .int 0, .null, .null, .null, .null, .null, .null])), (q1, .inl (ty 2, 35, .inr (.inr (.inr (.inr (va_up f1_23 (23 : Int32).toNatClampNeg (some (cd 0 (mwI 23)))))))))] := hD
  rw [← hf1_24] at hP hD
  have gf1_24 := up_step (F := fun j => cd 0 (mwI j)) gf1_23 (by decide) hf1_24
  clear hf1_24 gf1_23
  refine lv_dup hx hb d_Mod_init_148 rfl ?_
  refine lv_bipush (v := 24) hx hb d_Mod_init_149 (by decide) ?_
  refine cX_ldc (i := 24) hx hb hown hCx.1 (by decide +kernel) d_Mod_init_151 ?_
  refine va_astqM (D := D) hx hb hK hP hD hS 1 2 rfl rfl (cX_any hCx.1 (show 24 < nS by decide) hS) (show vp_in 24 35 by unfold vp_in; decide) d_Mod_init_153 (fun H locs hP hD hS => ?_)
  obtain ⟨f1_25, hf1_25⟩ : ∃ z, z = va_up f1_24 (24 : Int32).toNatClampNeg (some (cd 0 (mwI 24))) := ⟨_, rfl⟩
  have hP : va_P D vwCl [(h0, .inr (5, [.null, .null, .int 0, .int 0, .int 0, .int 0, .int 0, .int 0, .int 0, .int 0, .null, .null, .null, .null, .null, .null])), (q1, .inl (ty 2, 35, .inr (.inr (.inr (.inr (va_up f1_24 (24 : Int32).toNatClampNeg (some (cd 0 (mwI 24)))))))))] H := hP
  have hD : va_D A [(h0, .inr (5, [.null, .null, .int 0, .int 0, .int 0, .int 0, .int 0, .int 0, .int 0, .int 0, .null, .null, .null, .null, .null, .null])), (q1, .inl (ty 2, 35, .inr (.inr (.inr (.inr (va_up f1_24 (24 : Int32).toNatClampNeg (some (cd 0 (mwI 24)))))))))] := hD
  rw [← hf1_25] at hP hD
  have gf1_25 := up_step (F := fun j => cd 0 (mwI j)) gf1_24 (by decide) hf1_25
  clear hf1_25 gf1_24
  refine lv_dup hx hb d_Mod_init_154 rfl ?_
  refine lv_bipush (v := 25) hx hb d_Mod_init_155 (by decide) ?_
  refine cX_ldc (i := 25) hx hb hown hCx.1 (by decide +kernel) d_Mod_init_157 ?_
  refine va_astqM (D := D) hx hb hK hP hD hS 1 2 rfl rfl (cX_any hCx.1 (show 25 < nS by decide) hS) (show vp_in 25 35 by unfold vp_in; decide) d_Mod_init_159 (fun H locs hP hD hS => ?_)
  obtain ⟨f1_26, hf1_26⟩ : ∃ z, z = va_up f1_25 (25 : Int32).toNatClampNeg (some (cd 0 (mwI 25))) := ⟨_, rfl⟩
  have hP : va_P D vwCl [(h0, .inr (5, [.null, .null, .int 0, .int 0, .int 0, .int 0, .int 0, .int 0, .int 0, .int 0, .null, .null, .null, .null, .null, .null])), (q1, .inl (ty 2, 35, .inr (.inr (.inr (.inr (va_up f1_25 (25 : Int32).toNatClampNeg (some (cd 0 (mwI 25)))))))))] H := hP
  have hD : va_D A [(h0, .inr (5, [.null, .null, .int 0, .int 0, .int 0, .int 0, .int 0, .int 0, .int 0, .int 0, .null, .null, .null, .null, .null, .null])), (q1, .inl (ty 2, 35, .inr (.inr (.inr (.inr (va_up f1_25 (25 : Int32).toNatClampNeg (some (cd 0 (mwI 25)))))))))] := hD
  rw [← hf1_26] at hP hD
  have gf1_26 := up_step (F := fun j => cd 0 (mwI j)) gf1_25 (by decide) hf1_26
  clear hf1_26 gf1_25
  refine lv_dup hx hb d_Mod_init_160 rfl ?_
  refine lv_bipush (v := 26) hx hb d_Mod_init_161 (by decide) ?_
  refine cX_ldc (i := 26) hx hb hown hCx.1 (by decide +kernel) d_Mod_init_163 ?_
  refine va_astqM (D := D) hx hb hK hP hD hS 1 2 rfl rfl (cX_any hCx.1 (show 26 < nS by decide) hS) (show vp_in 26 35 by unfold vp_in; decide) d_Mod_init_165 (fun H locs hP hD hS => ?_)
  obtain ⟨f1_27, hf1_27⟩ : ∃ z, z = va_up f1_26 (26 : Int32).toNatClampNeg (some (cd 0 (mwI 26))) := ⟨_, rfl⟩
  have hP : va_P D vwCl [(h0, .inr (5, [.null, .null, .int 0, .int 0, .int 0, .int 0, .int 0, .int 0, .int 0, .int 0, .null, .null, .null, .null, .null, .null])), (q1, .inl (ty 2, 35, .inr (.inr (.inr (.inr (va_up f1_26 (26 : Int32).toNatClampNeg (some (cd 0 (mwI 26)))))))))] H := hP
  have hD : va_D A [(h0, .inr (5, [.null, .null, .int 0, .int 0, .int 0, .int 0, .int 0, .int 0, .int 0, .int 0, .null, .null, .null, .null, .null, .null])), (q1, .inl (ty 2, 35, .inr (.inr (.inr (.inr (va_up f1_26 (26 : Int32).toNatClampNeg (some (cd 0 (mwI 26)))))))))] := hD
  rw [← hf1_27] at hP hD
  have gf1_27 := up_step (F := fun j => cd 0 (mwI j)) gf1_26 (by decide) hf1_27
  clear hf1_27 gf1_26
  refine lv_dup hx hb d_Mod_init_166 rfl ?_
  refine lv_bipush (v := 27) hx hb d_Mod_init_167 (by decide) ?_
  refine cX_ldc (i := 27) hx hb hown hCx.1 (by decide +kernel) d_Mod_init_169 ?_
  refine va_astqM (D := D) hx hb hK hP hD hS 1 2 rfl rfl (cX_any hCx.1 (show 27 < nS by decide) hS) (show vp_in 27 35 by unfold vp_in; decide) d_Mod_init_171 (fun H locs hP hD hS => ?_)
  obtain ⟨f1_28, hf1_28⟩ : ∃ z, z = va_up f1_27 (27 : Int32).toNatClampNeg (some (cd 0 (mwI 27))) := ⟨_, rfl⟩
  have hP : va_P D vwCl [(h0, .inr (5, [.null, .null, .int 0, .int 0, .int 0, .int 0, .int 0, .int 0, .int 0, .int 0, .null, .null, .null, .null, .null, .null])), (q1, .inl (ty 2, 35, .inr (.inr (.inr (.inr (va_up f1_27 (27 : Int32).toNatClampNeg (some (cd 0 (mwI 27)))))))))] H := hP
  have hD : va_D A [(h0, .inr (5, [.null, .null, .int 0, .int 0, .int 0, .int 0, .int 0, .int 0, .int 0, .int 0, .null, .null, .null, .null, .null, .null])), (q1, .inl (ty 2, 35, .inr (.inr (.inr (.inr (va_up f1_27 (27 : Int32).toNatClampNeg (some (cd 0 (mwI 27)))))))))] := hD
  rw [← hf1_28] at hP hD
  have gf1_28 := up_step (F := fun j => cd 0 (mwI j)) gf1_27 (by decide) hf1_28
  clear hf1_28 gf1_27
  refine lv_dup hx hb d_Mod_init_172 rfl ?_
  refine lv_bipush (v := 28) hx hb d_Mod_init_173 (by decide) ?_
  refine cX_ldc (i := 28) hx hb hown hCx.1 (by decide +kernel) d_Mod_init_175 ?_
  refine va_astqM (D := D) hx hb hK hP hD hS 1 2 rfl rfl (cX_any hCx.1 (show 28 < nS by decide) hS) (show vp_in 28 35 by unfold vp_in; decide) d_Mod_init_177 (fun H locs hP hD hS => ?_)
  obtain ⟨f1_29, hf1_29⟩ : ∃ z, z = va_up f1_28 (28 : Int32).toNatClampNeg (some (cd 0 (mwI 28))) := ⟨_, rfl⟩
  have hP : va_P D vwCl [(h0, .inr (5, [.null, .null, .int 0, .int 0, .int 0, .int 0, .int 0, .int 0, .int 0, .int 0, .null, .null, .null, .null, .null, .null])), (q1, .inl (ty 2, 35, .inr (.inr (.inr (.inr (va_up f1_28 (28 : Int32).toNatClampNeg (some (cd 0 (mwI 28)))))))))] H := hP
  have hD : va_D A [(h0, .inr (5, [.null, .null, .int 0, .int 0, .int 0, .int 0, .int 0, .int 0, .int 0, .int 0, .null, .null, .null, .null, .null, .null])), (q1, .inl (ty 2, 35, .inr (.inr (.inr (.inr (va_up f1_28 (28 : Int32).toNatClampNeg (some (cd 0 (mwI 28)))))))))] := hD
  rw [← hf1_29] at hP hD
  have gf1_29 := up_step (F := fun j => cd 0 (mwI j)) gf1_28 (by decide) hf1_29
  clear hf1_29 gf1_28
  refine lv_dup hx hb d_Mod_init_178 rfl ?_
  refine lv_bipush (v := 29) hx hb d_Mod_init_179 (by decide) ?_
  refine cX_ldc (i := 29) hx hb hown hCx.1 (by decide +kernel) d_Mod_init_181 ?_
  refine va_astqM (D := D) hx hb hK hP hD hS 1 2 rfl rfl (cX_any hCx.1 (show 29 < nS by decide) hS) (show vp_in 29 35 by unfold vp_in; decide) d_Mod_init_183 (fun H locs hP hD hS => ?_)
  obtain ⟨f1_30, hf1_30⟩ : ∃ z, z = va_up f1_29 (29 : Int32).toNatClampNeg (some (cd 0 (mwI 29))) := ⟨_, rfl⟩
  have hP : va_P D vwCl [(h0, .inr (5, [.null, .null, .int 0, .int 0, .int 0, .int 0, .int 0, .int 0, .int 0, .int 0, .null, .null, .null, .null, .null, .null])), (q1, .inl (ty 2, 35, .inr (.inr (.inr (.inr (va_up f1_29 (29 : Int32).toNatClampNeg (some (cd 0 (mwI 29)))))))))] H := hP
  have hD : va_D A [(h0, .inr (5, [.null, .null, .int 0, .int 0, .int 0, .int 0, .int 0, .int 0, .int 0, .int 0, .null, .null, .null, .null, .null, .null])), (q1, .inl (ty 2, 35, .inr (.inr (.inr (.inr (va_up f1_29 (29 : Int32).toNatClampNeg (some (cd 0 (mwI 29)))))))))] := hD
  rw [← hf1_30] at hP hD
  have gf1_30 := up_step (F := fun j => cd 0 (mwI j)) gf1_29 (by decide) hf1_30
  clear hf1_30 gf1_29
  refine lv_dup hx hb d_Mod_init_184 rfl ?_
  refine lv_bipush (v := 30) hx hb d_Mod_init_185 (by decide) ?_
  refine cX_ldc (i := 30) hx hb hown hCx.1 (by decide +kernel) d_Mod_init_187 ?_
  refine va_astqM (D := D) hx hb hK hP hD hS 1 2 rfl rfl (cX_any hCx.1 (show 30 < nS by decide) hS) (show vp_in 30 35 by unfold vp_in; decide) d_Mod_init_189 (fun H locs hP hD hS => ?_)
  obtain ⟨f1_31, hf1_31⟩ : ∃ z, z = va_up f1_30 (30 : Int32).toNatClampNeg (some (cd 0 (mwI 30))) := ⟨_, rfl⟩
  have hP : va_P D vwCl [(h0, .inr (5, [.null, .null, .int 0, .int 0, .int 0, .int 0, .int 0, .int 0, .int 0, .int 0, .null, .null, .null, .null, .null, .null])), (q1, .inl (ty 2, 35, .inr (.inr (.inr (.inr (va_up f1_30 (30 : Int32).toNatClampNeg (some (cd 0 (mwI 30)))))))))] H := hP
  have hD : va_D A [(h0, .inr (5, [.null, .null, .int 0, .int 0, .int 0, .int 0, .int 0, .int 0, .int 0, .int 0, .null, .null, .null, .null, .null, .null])), (q1, .inl (ty 2, 35, .inr (.inr (.inr (.inr (va_up f1_30 (30 : Int32).toNatClampNeg (some (cd 0 (mwI 30)))))))))] := hD
  rw [← hf1_31] at hP hD
  have gf1_31 := up_step (F := fun j => cd 0 (mwI j)) gf1_30 (by decide) hf1_31
  clear hf1_31 gf1_30
  refine lv_dup hx hb d_Mod_init_190 rfl ?_
  refine lv_bipush (v := 31) hx hb d_Mod_init_191 (by decide) ?_
  refine cX_ldc (i := 31) hx hb hown hCx.1 (by decide +kernel) d_Mod_init_193 ?_
  refine va_astqM (D := D) hx hb hK hP hD hS 1 2 rfl rfl (cX_any hCx.1 (show 31 < nS by decide) hS) (show vp_in 31 35 by unfold vp_in; decide) d_Mod_init_195 (fun H locs hP hD hS => ?_)
  obtain ⟨f1_32, hf1_32⟩ : ∃ z, z = va_up f1_31 (31 : Int32).toNatClampNeg (some (cd 0 (mwI 31))) := ⟨_, rfl⟩
  have hP : va_P D vwCl [(h0, .inr (5, [.null, .null, .int 0, .int 0, .int 0, .int 0, .int 0, .int 0, .int 0, .int 0, .null, .null, .null, .null, .null, .null])), (q1, .inl (ty 2, 35, .inr (.inr (.inr (.inr (va_up f1_31 (31 : Int32).toNatClampNeg (some (cd 0 (mwI 31)))))))))] H := hP
  have hD : va_D A [(h0, .inr (5, [.null, .null, .int 0, .int 0, .int 0, .int 0, .int 0, .int 0, .int 0, .int 0, .null, .null, .null, .null, .null, .null])), (q1, .inl (ty 2, 35, .inr (.inr (.inr (.inr (va_up f1_31 (31 : Int32).toNatClampNeg (some (cd 0 (mwI 31)))))))))] := hD
  rw [← hf1_32] at hP hD
  have gf1_32 := up_step (F := fun j => cd 0 (mwI j)) gf1_31 (by decide) hf1_32
  clear hf1_32 gf1_31
  refine lv_dup hx hb d_Mod_init_196 rfl ?_
  refine lv_bipush (v := 32) hx hb d_Mod_init_197 (by decide) ?_
  refine cX_ldc (i := 32) hx hb hown hCx.1 (by decide +kernel) d_Mod_init_199 ?_
  refine va_astqM (D := D) hx hb hK hP hD hS 1 2 rfl rfl (cX_any hCx.1 (show 32 < nS by decide) hS) (show vp_in 32 35 by unfold vp_in; decide) d_Mod_init_201 (fun H locs hP hD hS => ?_)
  obtain ⟨f1_33, hf1_33⟩ : ∃ z, z = va_up f1_32 (32 : Int32).toNatClampNeg (some (cd 0 (mwI 32))) := ⟨_, rfl⟩
  have hP : va_P D vwCl [(h0, .inr (5, [.null, .null, .int 0, .int 0, .int 0, .int 0, .int 0, .int 0, .int 0, .int 0, .null, .null, .null, .null, .null, .null])), (q1, .inl (ty 2, 35, .inr (.inr (.inr (.inr (va_up f1_32 (32 : Int32).toNatClampNeg (some (cd 0 (mwI 32)))))))))] H := hP
  have hD : va_D A [(h0, .inr (5, [.null, .null, .int 0, .int 0, .int 0, .int 0, .int 0, .int 0, .int 0, .int 0, .null, .null, .null, .null, .null, .null])), (q1, .inl (ty 2, 35, .inr (.inr (.inr (.inr (va_up f1_32 (32 : Int32).toNatClampNeg (some (cd 0 (mwI 32)))))))))] := hD
  rw [← hf1_33] at hP hD
  have gf1_33 := up_step (F := fun j => cd 0 (mwI j)) gf1_32 (by decide) hf1_33
  clear hf1_33 gf1_32
  refine lv_dup hx hb d_Mod_init_202 rfl ?_
  refine lv_bipush (v := 33) hx hb d_Mod_init_203 (by decide) ?_
  refine cX_ldc (i := 33) hx hb hown hCx.1 (by decide +kernel) d_Mod_init_205 ?_
  refine va_astqM (D := D) hx hb hK hP hD hS 1 2 rfl rfl (cX_any hCx.1 (show 33 < nS by decide) hS) (show vp_in 33 35 by unfold vp_in; decide) d_Mod_init_207 (fun H locs hP hD hS => ?_)
  obtain ⟨f1_34, hf1_34⟩ : ∃ z, z = va_up f1_33 (33 : Int32).toNatClampNeg (some (cd 0 (mwI 33))) := ⟨_, rfl⟩
  have hP : va_P D vwCl [(h0, .inr (5, [.null, .null, .int 0, .int 0, .int 0, .int 0, .int 0, .int 0, .int 0, .int 0, .null, .null, .null, .null, .null, .null])), (q1, .inl (ty 2, 35, .inr (.inr (.inr (.inr (va_up f1_33 (33 : Int32).toNatClampNeg (some (cd 0 (mwI 33)))))))))] H := hP
  have hD : va_D A [(h0, .inr (5, [.null, .null, .int 0, .int 0, .int 0, .int 0, .int 0, .int 0, .int 0, .int 0, .null, .null, .null, .null, .null, .null])), (q1, .inl (ty 2, 35, .inr (.inr (.inr (.inr (va_up f1_33 (33 : Int32).toNatClampNeg (some (cd 0 (mwI 33)))))))))] := hD
  rw [← hf1_34] at hP hD
  have gf1_34 := up_step (F := fun j => cd 0 (mwI j)) gf1_33 (by decide) hf1_34
  clear hf1_34 gf1_33
  refine lv_dup hx hb d_Mod_init_208 rfl ?_
  refine lv_bipush (v := 34) hx hb d_Mod_init_209 (by decide) ?_
  refine cX_ldc (i := 34) hx hb hown hCx.1 (by decide +kernel) d_Mod_init_211 ?_
  refine va_astqM (D := D) hx hb hK hP hD hS 1 2 rfl rfl (cX_any hCx.1 (show 34 < nS by decide) hS) (show vp_in 34 35 by unfold vp_in; decide) d_Mod_init_213 (fun H locs hP hD hS => ?_)
  obtain ⟨f1_35, hf1_35⟩ : ∃ z, z = va_up f1_34 (34 : Int32).toNatClampNeg (some (cd 0 (mwI 34))) := ⟨_, rfl⟩
  have hP : va_P D vwCl [(h0, .inr (5, [.null, .null, .int 0, .int 0, .int 0, .int 0, .int 0, .int 0, .int 0, .int 0, .null, .null, .null, .null, .null, .null])), (q1, .inl (ty 2, 35, .inr (.inr (.inr (.inr (va_up f1_34 (34 : Int32).toNatClampNeg (some (cd 0 (mwI 34)))))))))] H := hP
  have hD : va_D A [(h0, .inr (5, [.null, .null, .int 0, .int 0, .int 0, .int 0, .int 0, .int 0, .int 0, .int 0, .null, .null, .null, .null, .null, .null])), (q1, .inl (ty 2, 35, .inr (.inr (.inr (.inr (va_up f1_34 (34 : Int32).toNatClampNeg (some (cd 0 (mwI 34)))))))))] := hD
  rw [← hf1_35] at hP hD
  have gf1_35 := up_step (F := fun j => cd 0 (mwI j)) gf1_34 (by decide) hf1_35
  clear hf1_35 gf1_34
  refine va_putF (D := D) (ci := 5) (v := .ref q1) (ty := .array (.object "java/lang/String")) (C := R_Mod) (T := T_Mod) (N := 16) hx hb hts in_Mod t_Mod tk_Mod n_Mod hown hK hP hD hS 0 rfl rfl 0 (by decide) (hts _ q_f_Mod_79) (fun _ h9 => h9) rfl hin rfl (by decide +kernel) rfl rfl (Nat.le_of_ble_eq_true rfl) d_Mod_init_214 (fun H locs hP hD hS => ?_)
  have hP : va_P D vwCl [(h0, .inr (5, [.ref q1, .null, .int 0, .int 0, .int 0, .int 0, .int 0, .int 0, .int 0, .int 0, .null, .null, .null, .null, .null, .null])), (q1, .inl (ty 2, 35, .inr (.inr (.inr (.inr f1_35)))))] H := hP
  have hD : va_D A [(h0, .inr (5, [.ref q1, .null, .int 0, .int 0, .int 0, .int 0, .int 0, .int 0, .int 0, .int 0, .null, .null, .null, .null, .null, .null])), (q1, .inl (ty 2, 35, .inr (.inr (.inr (.inr f1_35)))))] := hD
  refine lv_aload_n hx hb d_Mod_init_217 rfl (lv_at hl 0 rfl) ?_
  refine lv_bipush (v := 44) hx hb d_Mod_init_218 (by decide) ?_
  refine va_newq (C := "java/lang/String") (N' := 44) hx hb hown (hts _ q_x_Mod_7) hCx.2.2.2 hK hP hD hS hA (by decide) (by decide) (Nat.le_of_ble_eq_true rfl) (by rw [hR]; exact Nat.le_of_ble_eq_true rfl) (by rw [hR]; exact Nat.le_of_ble_eq_true rfl) d_Mod_init_220 (fun q2 cA H hK1 hP hD hS => ?_)
  obtain rfl := k_arrS hK1
  obtain ⟨f2_0, hf2_0⟩ : ∃ z, z = (fun _ : Nat => (none : Option Nat)) := ⟨_, rfl⟩
  rw [← hf2_0] at hP hD
  have hP : va_P D vwCl [(h0, .inr (5, [.ref q1, .null, .int 0, .int 0, .int 0, .int 0, .int 0, .int 0, .int 0, .int 0, .null, .null, .null, .null, .null, .null])), (q1, .inl (ty 2, 35, .inr (.inr (.inr (.inr f1_35))))), (q2, .inl (ty 2, 44, .inr (.inr (.inr (.inr f2_0)))))] H := hP
  have hD : va_D A [(h0, .inr (5, [.ref q1, .null, .int 0, .int 0, .int 0, .int 0, .int 0, .int 0, .int 0, .int 0, .null, .null, .null, .null, .null, .null])), (q1, .inl (ty 2, 35, .inr (.inr (.inr (.inr f1_35))))), (q2, .inl (ty 2, 44, .inr (.inr (.inr (.inr f2_0)))))] := hD
  have gf2_0 : ∀ j, j < 0 → f2_0 j = some (cd 0 (msI j)) := fun j hj => absurd hj (Nat.not_lt_zero j)
  refine lv_dup hx hb d_Mod_init_223 rfl ?_
  refine lv_iconst (v := 0) hx hb d_Mod_init_224 (by decide) ?_
  refine cX_ldc (i := 35) hx hb hown hCx.1 (by decide +kernel) d_Mod_init_225 ?_
  refine va_astqM (D := D) hx hb hK hP hD hS 2 2 rfl rfl (cX_any hCx.1 (show 35 < nS by decide) hS) (show vp_in 0 44 by unfold vp_in; decide) d_Mod_init_227 (fun H locs hP hD hS => ?_)
  obtain ⟨f2_1, hf2_1⟩ : ∃ z, z = va_up f2_0 (0 : Int32).toNatClampNeg (some (cd 0 (msI 0))) := ⟨_, rfl⟩
  have hP : va_P D vwCl [(h0, .inr (5, [.ref q1, .null, .int 0, .int 0, .int 0, .int 0, .int 0, .int 0, .int 0, .int 0, .null, .null, .null, .null, .null, .null])), (q1, .inl (ty 2, 35, .inr (.inr (.inr (.inr f1_35))))), (q2, .inl (ty 2, 44, .inr (.inr (.inr (.inr (va_up f2_0 (0 : Int32).toNatClampNeg (some (cd 0 (msI 0)))))))))] H := hP
  have hD : va_D A [(h0, .inr (5, [.ref q1, .null, .int 0, .int 0, .int 0, .int 0, .int 0, .int 0, .int 0, .int 0, .null, .null, .null, .null, .null, .null])), (q1, .inl (ty 2, 35, .inr (.inr (.inr (.inr f1_35))))), (q2, .inl (ty 2, 44, .inr (.inr (.inr (.inr (va_up f2_0 (0 : Int32).toNatClampNeg (some (cd 0 (msI 0)))))))))] := hD
  rw [← hf2_1] at hP hD
  have gf2_1 := up_step (F := fun j => cd 0 (msI j)) gf2_0 (by decide) hf2_1
  clear hf2_1 gf2_0
  refine lv_dup hx hb d_Mod_init_228 rfl ?_
  refine lv_iconst (v := 1) hx hb d_Mod_init_229 (by decide) ?_
  refine cX_ldc (i := 36) hx hb hown hCx.1 (by decide +kernel) d_Mod_init_230 ?_
  refine va_astqM (D := D) hx hb hK hP hD hS 2 2 rfl rfl (cX_any hCx.1 (show 36 < nS by decide) hS) (show vp_in 1 44 by unfold vp_in; decide) d_Mod_init_232 (fun H locs hP hD hS => ?_)
  obtain ⟨f2_2, hf2_2⟩ : ∃ z, z = va_up f2_1 (1 : Int32).toNatClampNeg (some (cd 0 (msI 1))) := ⟨_, rfl⟩
  have hP : va_P D vwCl [(h0, .inr (5, [.ref q1, .null, .int 0, .int 0, .int 0, .int 0, .int 0, .int 0, .int 0, .int 0, .null, .null, .null, .null, .null, .null])), (q1, .inl (ty 2, 35, .inr (.inr (.inr (.inr f1_35))))), (q2, .inl (ty 2, 44, .inr (.inr (.inr (.inr (va_up f2_1 (1 : Int32).toNatClampNeg (some (cd 0 (msI 1)))))))))] H := hP
  have hD : va_D A [(h0, .inr (5, [.ref q1, .null, .int 0, .int 0, .int 0, .int 0, .int 0, .int 0, .int 0, .int 0, .null, .null, .null, .null, .null, .null])), (q1, .inl (ty 2, 35, .inr (.inr (.inr (.inr f1_35))))), (q2, .inl (ty 2, 44, .inr (.inr (.inr (.inr (va_up f2_1 (1 : Int32).toNatClampNeg (some (cd 0 (msI 1)))))))))] := hD
  rw [← hf2_2] at hP hD
  have gf2_2 := up_step (F := fun j => cd 0 (msI j)) gf2_1 (by decide) hf2_2
  clear hf2_2 gf2_1
  refine lv_dup hx hb d_Mod_init_233 rfl ?_
  refine lv_iconst (v := 2) hx hb d_Mod_init_234 (by decide) ?_
  refine cX_ldc (i := 37) hx hb hown hCx.1 (by decide +kernel) d_Mod_init_235 ?_
  refine va_astqM (D := D) hx hb hK hP hD hS 2 2 rfl rfl (cX_any hCx.1 (show 37 < nS by decide) hS) (show vp_in 2 44 by unfold vp_in; decide) d_Mod_init_237 (fun H locs hP hD hS => ?_)
  obtain ⟨f2_3, hf2_3⟩ : ∃ z, z = va_up f2_2 (2 : Int32).toNatClampNeg (some (cd 0 (msI 2))) := ⟨_, rfl⟩
  have hP : va_P D vwCl [(h0, .inr (5, [.ref q1, .null, .int 0, .int 0, .int 0, .int 0, .int 0, .int 0, .int 0, .int 0, .null, .null, .null, .null, .null, .null])), (q1, .inl (ty 2, 35, .inr (.inr (.inr (.inr f1_35))))), (q2, .inl (ty 2, 44, .inr (.inr (.inr (.inr (va_up f2_2 (2 : Int32).toNatClampNeg (some (cd 0 (msI 2)))))))))] H := hP
  have hD : va_D A [(h0, .inr (5, [.ref q1, .null, .int 0, .int 0, .int 0, .int 0, .int 0, .int 0, .int 0, .int 0, .null, .null, .null, .null, .null, .null])), (q1, .inl (ty 2, 35, .inr (.inr (.inr (.inr f1_35))))), (q2, .inl (ty 2, 44, .inr (.inr (.inr (.inr (va_up f2_2 (2 : Int32).toNatClampNeg (some (cd 0 (msI 2)))))))))] := hD
  rw [← hf2_3] at hP hD
  have gf2_3 := up_step (F := fun j => cd 0 (msI j)) gf2_2 (by decide) hf2_3
  clear hf2_3 gf2_2
  refine lv_dup hx hb d_Mod_init_238 rfl ?_
  refine lv_iconst (v := 3) hx hb d_Mod_init_239 (by decide) ?_
  refine cX_ldc (i := 38) hx hb hown hCx.1 (by decide +kernel) d_Mod_init_240 ?_
  refine va_astqM (D := D) hx hb hK hP hD hS 2 2 rfl rfl (cX_any hCx.1 (show 38 < nS by decide) hS) (show vp_in 3 44 by unfold vp_in; decide) d_Mod_init_242 (fun H locs hP hD hS => ?_)
  obtain ⟨f2_4, hf2_4⟩ : ∃ z, z = va_up f2_3 (3 : Int32).toNatClampNeg (some (cd 0 (msI 3))) := ⟨_, rfl⟩
  have hP : va_P D vwCl [(h0, .inr (5, [.ref q1, .null, .int 0, .int 0, .int 0, .int 0, .int 0, .int 0, .int 0, .int 0, .null, .null, .null, .null, .null, .null])), (q1, .inl (ty 2, 35, .inr (.inr (.inr (.inr f1_35))))), (q2, .inl (ty 2, 44, .inr (.inr (.inr (.inr (va_up f2_3 (3 : Int32).toNatClampNeg (some (cd 0 (msI 3)))))))))] H := hP
  have hD : va_D A [(h0, .inr (5, [.ref q1, .null, .int 0, .int 0, .int 0, .int 0, .int 0, .int 0, .int 0, .int 0, .null, .null, .null, .null, .null, .null])), (q1, .inl (ty 2, 35, .inr (.inr (.inr (.inr f1_35))))), (q2, .inl (ty 2, 44, .inr (.inr (.inr (.inr (va_up f2_3 (3 : Int32).toNatClampNeg (some (cd 0 (msI 3)))))))))] := hD
  rw [← hf2_4] at hP hD
  have gf2_4 := up_step (F := fun j => cd 0 (msI j)) gf2_3 (by decide) hf2_4
  clear hf2_4 gf2_3
  refine lv_dup hx hb d_Mod_init_243 rfl ?_
  refine lv_iconst (v := 4) hx hb d_Mod_init_244 (by decide) ?_
  refine cX_ldc (i := 39) hx hb hown hCx.1 (by decide +kernel) d_Mod_init_245 ?_
  refine va_astqM (D := D) hx hb hK hP hD hS 2 2 rfl rfl (cX_any hCx.1 (show 39 < nS by decide) hS) (show vp_in 4 44 by unfold vp_in; decide) d_Mod_init_247 (fun H locs hP hD hS => ?_)
  obtain ⟨f2_5, hf2_5⟩ : ∃ z, z = va_up f2_4 (4 : Int32).toNatClampNeg (some (cd 0 (msI 4))) := ⟨_, rfl⟩
  have hP : va_P D vwCl [(h0, .inr (5, [.ref q1, .null, .int 0, .int 0, .int 0, .int 0, .int 0, .int 0, .int 0, .int 0, .null, .null, .null, .null, .null, .null])), (q1, .inl (ty 2, 35, .inr (.inr (.inr (.inr f1_35))))), (q2, .inl (ty 2, 44, .inr (.inr (.inr (.inr (va_up f2_4 (4 : Int32).toNatClampNeg (some (cd 0 (msI 4)))))))))] H := hP
  have hD : va_D A [(h0, .inr (5, [.ref q1, .null, .int 0, .int 0, .int 0, .int 0, .int 0, .int 0, .int 0, .int 0, .null, .null, .null, .null, .null, .null])), (q1, .inl (ty 2, 35, .inr (.inr (.inr (.inr f1_35))))), (q2, .inl (ty 2, 44, .inr (.inr (.inr (.inr (va_up f2_4 (4 : Int32).toNatClampNeg (some (cd 0 (msI 4)))))))))] := hD
  rw [← hf2_5] at hP hD
  have gf2_5 := up_step (F := fun j => cd 0 (msI j)) gf2_4 (by decide) hf2_5
  clear hf2_5 gf2_4
  refine lv_dup hx hb d_Mod_init_248 rfl ?_
  refine lv_iconst (v := 5) hx hb d_Mod_init_249 (by decide) ?_
  refine cX_ldc (i := 40) hx hb hown hCx.1 (by decide +kernel) d_Mod_init_250 ?_
  refine va_astqM (D := D) hx hb hK hP hD hS 2 2 rfl rfl (cX_any hCx.1 (show 40 < nS by decide) hS) (show vp_in 5 44 by unfold vp_in; decide) d_Mod_init_252 (fun H locs hP hD hS => ?_)
  obtain ⟨f2_6, hf2_6⟩ : ∃ z, z = va_up f2_5 (5 : Int32).toNatClampNeg (some (cd 0 (msI 5))) := ⟨_, rfl⟩
  have hP : va_P D vwCl [(h0, .inr (5, [.ref q1, .null, .int 0, .int 0, .int 0, .int 0, .int 0, .int 0, .int 0, .int 0, .null, .null, .null, .null, .null, .null])), (q1, .inl (ty 2, 35, .inr (.inr (.inr (.inr f1_35))))), (q2, .inl (ty 2, 44, .inr (.inr (.inr (.inr (va_up f2_5 (5 : Int32).toNatClampNeg (some (cd 0 (msI 5)))))))))] H := hP
  have hD : va_D A [(h0, .inr (5, [.ref q1, .null, .int 0, .int 0, .int 0, .int 0, .int 0, .int 0, .int 0, .int 0, .null, .null, .null, .null, .null, .null])), (q1, .inl (ty 2, 35, .inr (.inr (.inr (.inr f1_35))))), (q2, .inl (ty 2, 44, .inr (.inr (.inr (.inr (va_up f2_5 (5 : Int32).toNatClampNeg (some (cd 0 (msI 5)))))))))] := hD
  rw [← hf2_6] at hP hD
  have gf2_6 := up_step (F := fun j => cd 0 (msI j)) gf2_5 (by decide) hf2_6
  clear hf2_6 gf2_5
  refine lv_dup hx hb d_Mod_init_253 rfl ?_
  refine lv_bipush (v := 6) hx hb d_Mod_init_254 (by decide) ?_
  refine cX_ldc (i := 41) hx hb hown hCx.1 (by decide +kernel) d_Mod_init_256 ?_
  refine va_astqM (D := D) hx hb hK hP hD hS 2 2 rfl rfl (cX_any hCx.1 (show 41 < nS by decide) hS) (show vp_in 6 44 by unfold vp_in; decide) d_Mod_init_258 (fun H locs hP hD hS => ?_)
  obtain ⟨f2_7, hf2_7⟩ : ∃ z, z = va_up f2_6 (6 : Int32).toNatClampNeg (some (cd 0 (msI 6))) := ⟨_, rfl⟩
  have hP : va_P D vwCl [(h0, .inr (5, [.ref q1, .null, .int 0, .int 0, .int 0, .int 0, .int 0, .int 0, .int 0, .int 0, .null, .null, .null, .null, .null, .null])), (q1, .inl (ty 2, 35, .inr (.inr (.inr (.inr f1_35))))), (q2, .inl (ty 2, 44, .inr (.inr (.inr (.inr (va_up f2_6 (6 : Int32).toNatClampNeg (some (cd 0 (msI 6)))))))))] H := hP
  have hD : va_D A [(h0, .inr (5, [.ref q1, .null, .int 0, .int 0, .int 0, .int 0, .int 0, .int 0, .int 0, .int 0, .null, .null, .null, .null, .null, .null])), (q1, .inl (ty 2, 35, .inr (.inr (.inr (.inr f1_35))))), (q2, .inl (ty 2, 44, .inr (.inr (.inr (.inr (va_up f2_6 (6 : Int32).toNatClampNeg (some (cd 0 (msI 6)))))))))] := hD
  rw [← hf2_7] at hP hD
  have gf2_7 := up_step (F := fun j => cd 0 (msI j)) gf2_6 (by decide) hf2_7
  clear hf2_7 gf2_6
  refine lv_dup hx hb d_Mod_init_259 rfl ?_
  refine lv_bipush (v := 7) hx hb d_Mod_init_260 (by decide) ?_
  refine cX_ldc (i := 42) hx hb hown hCx.1 (by decide +kernel) d_Mod_init_262 ?_
  refine va_astqM (D := D) hx hb hK hP hD hS 2 2 rfl rfl (cX_any hCx.1 (show 42 < nS by decide) hS) (show vp_in 7 44 by unfold vp_in; decide) d_Mod_init_264 (fun H locs hP hD hS => ?_)
  obtain ⟨f2_8, hf2_8⟩ : ∃ z, z = va_up f2_7 (7 : Int32).toNatClampNeg (some (cd 0 (msI 7))) := ⟨_, rfl⟩
  have hP : va_P D vwCl [(h0, .inr (5, [.ref q1, .null, .int 0, .int 0, .int 0, .int 0, .int 0, .int 0, .int 0, .int 0, .null, .null, .null, .null, .null, .null])), (q1, .inl (ty 2, 35, .inr (.inr (.inr (.inr f1_35))))), (q2, .inl (ty 2, 44, .inr (.inr (.inr (.inr (va_up f2_7 (7 : Int32).toNatClampNeg (some (cd 0 (msI 7)))))))))] H := hP
  have hD : va_D A [(h0, .inr (5, [.ref q1, .null, .int 0, .int 0, .int 0, .int 0, .int 0, .int 0, .int 0, .int 0, .null, .null, .null, .null, .null, .null])), (q1, .inl (ty 2, 35, .inr (.inr (.inr (.inr f1_35))))), (q2, .inl (ty 2, 44, .inr (.inr (.inr (.inr (va_up f2_7 (7 : Int32).toNatClampNeg (some (cd 0 (msI 7)))))))))] := hD
  rw [← hf2_8] at hP hD
  have gf2_8 := up_step (F := fun j => cd 0 (msI j)) gf2_7 (by decide) hf2_8
  clear hf2_8 gf2_7
  refine lv_dup hx hb d_Mod_init_265 rfl ?_
  refine lv_bipush (v := 8) hx hb d_Mod_init_266 (by decide) ?_
  refine cX_ldc (i := 43) hx hb hown hCx.1 (by decide +kernel) d_Mod_init_268 ?_
  refine va_astqM (D := D) hx hb hK hP hD hS 2 2 rfl rfl (cX_any hCx.1 (show 43 < nS by decide) hS) (show vp_in 8 44 by unfold vp_in; decide) d_Mod_init_270 (fun H locs hP hD hS => ?_)
  obtain ⟨f2_9, hf2_9⟩ : ∃ z, z = va_up f2_8 (8 : Int32).toNatClampNeg (some (cd 0 (msI 8))) := ⟨_, rfl⟩
  have hP : va_P D vwCl [(h0, .inr (5, [.ref q1, .null, .int 0, .int 0, .int 0, .int 0, .int 0, .int 0, .int 0, .int 0, .null, .null, .null, .null, .null, .null])), (q1, .inl (ty 2, 35, .inr (.inr (.inr (.inr f1_35))))), (q2, .inl (ty 2, 44, .inr (.inr (.inr (.inr (va_up f2_8 (8 : Int32).toNatClampNeg (some (cd 0 (msI 8)))))))))] H := hP
  have hD : va_D A [(h0, .inr (5, [.ref q1, .null, .int 0, .int 0, .int 0, .int 0, .int 0, .int 0, .int 0, .int 0, .null, .null, .null, .null, .null, .null])), (q1, .inl (ty 2, 35, .inr (.inr (.inr (.inr f1_35))))), (q2, .inl (ty 2, 44, .inr (.inr (.inr (.inr (va_up f2_8 (8 : Int32).toNatClampNeg (some (cd 0 (msI 8)))))))))] := hD
  rw [← hf2_9] at hP hD
  have gf2_9 := up_step (F := fun j => cd 0 (msI j)) gf2_8 (by decide) hf2_9
  clear hf2_9 gf2_8
  refine lv_dup hx hb d_Mod_init_271 rfl ?_
  refine lv_bipush (v := 9) hx hb d_Mod_init_272 (by decide) ?_
  refine cX_ldc (i := 44) hx hb hown hCx.1 (by decide +kernel) d_Mod_init_274 ?_
  refine va_astqM (D := D) hx hb hK hP hD hS 2 2 rfl rfl (cX_any hCx.1 (show 44 < nS by decide) hS) (show vp_in 9 44 by unfold vp_in; decide) d_Mod_init_276 (fun H locs hP hD hS => ?_)
  obtain ⟨f2_10, hf2_10⟩ : ∃ z, z = va_up f2_9 (9 : Int32).toNatClampNeg (some (cd 0 (msI 9))) := ⟨_, rfl⟩
  have hP : va_P D vwCl [(h0, .inr (5, [.ref q1, .null, .int 0, .int 0, .int 0, .int 0, .int 0, .int 0, .int 0, .int 0, .null, .null, .null, .null, .null, .null])), (q1, .inl (ty 2, 35, .inr (.inr (.inr (.inr f1_35))))), (q2, .inl (ty 2, 44, .inr (.inr (.inr (.inr (va_up f2_9 (9 : Int32).toNatClampNeg (some (cd 0 (msI 9)))))))))] H := hP
  have hD : va_D A [(h0, .inr (5, [.ref q1, .null, .int 0, .int 0, .int 0, .int 0, .int 0, .int 0, .int 0, .int 0, .null, .null, .null, .null, .null, .null])), (q1, .inl (ty 2, 35, .inr (.inr (.inr (.inr f1_35))))), (q2, .inl (ty 2, 44, .inr (.inr (.inr (.inr (va_up f2_9 (9 : Int32).toNatClampNeg (some (cd 0 (msI 9)))))))))] := hD
  rw [← hf2_10] at hP hD
  have gf2_10 := up_step (F := fun j => cd 0 (msI j)) gf2_9 (by decide) hf2_10
  clear hf2_10 gf2_9
  refine lv_dup hx hb d_Mod_init_277 rfl ?_
  refine lv_bipush (v := 10) hx hb d_Mod_init_278 (by decide) ?_
  refine cX_ldc (i := 45) hx hb hown hCx.1 (by decide +kernel) d_Mod_init_280 ?_
  refine va_astqM (D := D) hx hb hK hP hD hS 2 2 rfl rfl (cX_any hCx.1 (show 45 < nS by decide) hS) (show vp_in 10 44 by unfold vp_in; decide) d_Mod_init_282 (fun H locs hP hD hS => ?_)
  obtain ⟨f2_11, hf2_11⟩ : ∃ z, z = va_up f2_10 (10 : Int32).toNatClampNeg (some (cd 0 (msI 10))) := ⟨_, rfl⟩
  have hP : va_P D vwCl [(h0, .inr (5, [.ref q1, .null, .int 0, .int 0, .int 0, .int 0, .int 0, .int 0, .int 0, .int 0, .null, .null, .null, .null, .null, .null])), (q1, .inl (ty 2, 35, .inr (.inr (.inr (.inr f1_35))))), (q2, .inl (ty 2, 44, .inr (.inr (.inr (.inr (va_up f2_10 (10 : Int32).toNatClampNeg (some (cd 0 (msI 10)))))))))] H := hP
  have hD : va_D A [(h0, .inr (5, [.ref q1, .null, .int 0, .int 0, .int 0, .int 0, .int 0, .int 0, .int 0, .int 0, .null, .null, .null, .null, .null, .null])), (q1, .inl (ty 2, 35, .inr (.inr (.inr (.inr f1_35))))), (q2, .inl (ty 2, 44, .inr (.inr (.inr (.inr (va_up f2_10 (10 : Int32).toNatClampNeg (some (cd 0 (msI 10)))))))))] := hD
  rw [← hf2_11] at hP hD
  have gf2_11 := up_step (F := fun j => cd 0 (msI j)) gf2_10 (by decide) hf2_11
  clear hf2_11 gf2_10
  refine lv_dup hx hb d_Mod_init_283 rfl ?_
  refine lv_bipush (v := 11) hx hb d_Mod_init_284 (by decide) ?_
  refine cX_ldc (i := 46) hx hb hown hCx.1 (by decide +kernel) d_Mod_init_286 ?_
  refine va_astqM (D := D) hx hb hK hP hD hS 2 2 rfl rfl (cX_any hCx.1 (show 46 < nS by decide) hS) (show vp_in 11 44 by unfold vp_in; decide) d_Mod_init_288 (fun H locs hP hD hS => ?_)
  obtain ⟨f2_12, hf2_12⟩ : ∃ z, z = va_up f2_11 (11 : Int32).toNatClampNeg (some (cd 0 (msI 11))) := ⟨_, rfl⟩
  have hP : va_P D vwCl [(h0, .inr (5, [.ref q1, .null, .int 0, .int 0, .int 0, .int 0, .int 0, .int 0, .int 0, .int 0, .null, .null, .null, .null, .null, .null])), (q1, .inl (ty 2, 35, .inr (.inr (.inr (.inr f1_35))))), (q2, .inl (ty 2, 44, .inr (.inr (.inr (.inr (va_up f2_11 (11 : Int32).toNatClampNeg (some (cd 0 (msI 11)))))))))] H := hP
  have hD : va_D A [(h0, .inr (5, [.ref q1, .null, .int 0, .int 0, .int 0, .int 0, .int 0, .int 0, .int 0, .int 0, .null, .null, .null, .null, .null, .null])), (q1, .inl (ty 2, 35, .inr (.inr (.inr (.inr f1_35))))), (q2, .inl (ty 2, 44, .inr (.inr (.inr (.inr (va_up f2_11 (11 : Int32).toNatClampNeg (some (cd 0 (msI 11)))))))))] := hD
  rw [← hf2_12] at hP hD
  have gf2_12 := up_step (F := fun j => cd 0 (msI j)) gf2_11 (by decide) hf2_12
  clear hf2_12 gf2_11
  refine lv_dup hx hb d_Mod_init_289 rfl ?_
  refine lv_bipush (v := 12) hx hb d_Mod_init_290 (by decide) ?_
  refine cX_ldc (i := 47) hx hb hown hCx.1 (by decide +kernel) d_Mod_init_292 ?_
  refine va_astqM (D := D) hx hb hK hP hD hS 2 2 rfl rfl (cX_any hCx.1 (show 47 < nS by decide) hS) (show vp_in 12 44 by unfold vp_in; decide) d_Mod_init_294 (fun H locs hP hD hS => ?_)
  obtain ⟨f2_13, hf2_13⟩ : ∃ z, z = va_up f2_12 (12 : Int32).toNatClampNeg (some (cd 0 (msI 12))) := ⟨_, rfl⟩
  have hP : va_P D vwCl [(h0, .inr (5, [.ref q1, .null, .int 0, .int 0, .int 0, .int 0, .int 0, .int 0, .int 0, .int 0, .null, .null, .null, .null, .null, .null])), (q1, .inl (ty 2, 35, .inr (.inr (.inr (.inr f1_35))))), (q2, .inl (ty 2, 44, .inr (.inr (.inr (.inr (va_up f2_12 (12 : Int32).toNatClampNeg (some (cd 0 (msI 12)))))))))] H := hP
  have hD : va_D A [(h0, .inr (5, [.ref q1, .null, .int 0, .int 0, .int 0, .int 0, .int 0, .int 0, .int 0, .int 0, .null, .null, .null, .null, .null, .null])), (q1, .inl (ty 2, 35, .inr (.inr (.inr (.inr f1_35))))), (q2, .inl (ty 2, 44, .inr (.inr (.inr (.inr (va_up f2_12 (12 : Int32).toNatClampNeg (some (cd 0 (msI 12)))))))))] := hD
  rw [← hf2_13] at hP hD
  have gf2_13 := up_step (F := fun j => cd 0 (msI j)) gf2_12 (by decide) hf2_13
  clear hf2_13 gf2_12
  refine lv_dup hx hb d_Mod_init_295 rfl ?_
  refine lv_bipush (v := 13) hx hb d_Mod_init_296 (by decide) ?_
  refine cX_ldc (i := 48) hx hb hown hCx.1 (by decide +kernel) d_Mod_init_298 ?_
  refine va_astqM (D := D) hx hb hK hP hD hS 2 2 rfl rfl (cX_any hCx.1 (show 48 < nS by decide) hS) (show vp_in 13 44 by unfold vp_in; decide) d_Mod_init_300 (fun H locs hP hD hS => ?_)
  obtain ⟨f2_14, hf2_14⟩ : ∃ z, z = va_up f2_13 (13 : Int32).toNatClampNeg (some (cd 0 (msI 13))) := ⟨_, rfl⟩
  have hP : va_P D vwCl [(h0, .inr (5, [.ref q1, .null, .int 0, .int 0, .int 0, .int 0, .int 0, .int 0, .int 0, .int 0, .null, .null, .null, .null, .null, .null])), (q1, .inl (ty 2, 35, .inr (.inr (.inr (.inr f1_35))))), (q2, .inl (ty 2, 44, .inr (.inr (.inr (.inr (va_up f2_13 (13 : Int32).toNatClampNeg (some (cd 0 (msI 13)))))))))] H := hP
  have hD : va_D A [(h0, .inr (5, [.ref q1, .null, .int 0, .int 0, .int 0, .int 0, .int 0, .int 0, .int 0, .int 0, .null, .null, .null, .null, .null, .null])), (q1, .inl (ty 2, 35, .inr (.inr (.inr (.inr f1_35))))), (q2, .inl (ty 2, 44, .inr (.inr (.inr (.inr (va_up f2_13 (13 : Int32).toNatClampNeg (some (cd 0 (msI 13)))))))))] := hD
  rw [← hf2_14] at hP hD
  have gf2_14 := up_step (F := fun j => cd 0 (msI j)) gf2_13 (by decide) hf2_14
  clear hf2_14 gf2_13
  refine lv_dup hx hb d_Mod_init_301 rfl ?_
  refine lv_bipush (v := 14) hx hb d_Mod_init_302 (by decide) ?_
  refine cX_ldc (i := 49) hx hb hown hCx.1 (by decide +kernel) d_Mod_init_304 ?_
  refine va_astqM (D := D) hx hb hK hP hD hS 2 2 rfl rfl (cX_any hCx.1 (show 49 < nS by decide) hS) (show vp_in 14 44 by unfold vp_in; decide) d_Mod_init_306 (fun H locs hP hD hS => ?_)
  obtain ⟨f2_15, hf2_15⟩ : ∃ z, z = va_up f2_14 (14 : Int32).toNatClampNeg (some (cd 0 (msI 14))) := ⟨_, rfl⟩
  have hP : va_P D vwCl [(h0, .inr (5, [.ref q1, .null, .int 0, .int 0, .int 0, .int 0, .int 0, .int 0, .int 0, .int 0, .null, .null, .null, .null, .null, .null])), (q1, .inl (ty 2, 35, .inr (.inr (.inr (.inr f1_35))))), (q2, .inl (ty 2, 44, .inr (.inr (.inr (.inr (va_up f2_14 (14 : Int32).toNatClampNeg (some (cd 0 (msI 14)))))))))] H := hP
  have hD : va_D A [(h0, .inr (5, [.ref q1, .null, .int 0, .int 0, .int 0, .int 0, .int 0, .int 0, .int 0, .int 0, .null, .null, .null, .null, .null, .null])), (q1, .inl (ty 2, 35, .inr (.inr (.inr (.inr f1_35))))), (q2, .inl (ty 2, 44, .inr (.inr (.inr (.inr (va_up f2_14 (14 : Int32).toNatClampNeg (some (cd 0 (msI 14)))))))))] := hD
  rw [← hf2_15] at hP hD
  have gf2_15 := up_step (F := fun j => cd 0 (msI j)) gf2_14 (by decide) hf2_15
  clear hf2_15 gf2_14
  refine lv_dup hx hb d_Mod_init_307 rfl ?_
  refine lv_bipush (v := 15) hx hb d_Mod_init_308 (by decide) ?_
  refine cX_ldc (i := 50) hx hb hown hCx.1 (by decide +kernel) d_Mod_init_310 ?_
  refine va_astqM (D := D) hx hb hK hP hD hS 2 2 rfl rfl (cX_any hCx.1 (show 50 < nS by decide) hS) (show vp_in 15 44 by unfold vp_in; decide) d_Mod_init_312 (fun H locs hP hD hS => ?_)
  obtain ⟨f2_16, hf2_16⟩ : ∃ z, z = va_up f2_15 (15 : Int32).toNatClampNeg (some (cd 0 (msI 15))) := ⟨_, rfl⟩
  have hP : va_P D vwCl [(h0, .inr (5, [.ref q1, .null, .int 0, .int 0, .int 0, .int 0, .int 0, .int 0, .int 0, .int 0, .null, .null, .null, .null, .null, .null])), (q1, .inl (ty 2, 35, .inr (.inr (.inr (.inr f1_35))))), (q2, .inl (ty 2, 44, .inr (.inr (.inr (.inr (va_up f2_15 (15 : Int32).toNatClampNeg (some (cd 0 (msI 15)))))))))] H := hP
  have hD : va_D A [(h0, .inr (5, [.ref q1, .null, .int 0, .int 0, .int 0, .int 0, .int 0, .int 0, .int 0, .int 0, .null, .null, .null, .null, .null, .null])), (q1, .inl (ty 2, 35, .inr (.inr (.inr (.inr f1_35))))), (q2, .inl (ty 2, 44, .inr (.inr (.inr (.inr (va_up f2_15 (15 : Int32).toNatClampNeg (some (cd 0 (msI 15)))))))))] := hD
  rw [← hf2_16] at hP hD
  have gf2_16 := up_step (F := fun j => cd 0 (msI j)) gf2_15 (by decide) hf2_16
  clear hf2_16 gf2_15
  refine lv_dup hx hb d_Mod_init_313 rfl ?_
  refine lv_bipush (v := 16) hx hb d_Mod_init_314 (by decide) ?_
  refine cX_ldc (i := 51) hx hb hown hCx.1 (by decide +kernel) d_Mod_init_316 ?_
  refine va_astqM (D := D) hx hb hK hP hD hS 2 2 rfl rfl (cX_any hCx.1 (show 51 < nS by decide) hS) (show vp_in 16 44 by unfold vp_in; decide) d_Mod_init_318 (fun H locs hP hD hS => ?_)
  obtain ⟨f2_17, hf2_17⟩ : ∃ z, z = va_up f2_16 (16 : Int32).toNatClampNeg (some (cd 0 (msI 16))) := ⟨_, rfl⟩
  have hP : va_P D vwCl [(h0, .inr (5, [.ref q1, .null, .int 0, .int 0, .int 0, .int 0, .int 0, .int 0, .int 0, .int 0, .null, .null, .null, .null, .null, .null])), (q1, .inl (ty 2, 35, .inr (.inr (.inr (.inr f1_35))))), (q2, .inl (ty 2, 44, .inr (.inr (.inr (.inr (va_up f2_16 (16 : Int32).toNatClampNeg (some (cd 0 (msI 16)))))))))] H := hP
  have hD : va_D A [(h0, .inr (5, [.ref q1, .null, .int 0, .int 0, .int 0, .int 0, .int 0, .int 0, .int 0, .int 0, .null, .null, .null, .null, .null, .null])), (q1, .inl (ty 2, 35, .inr (.inr (.inr (.inr f1_35))))), (q2, .inl (ty 2, 44, .inr (.inr (.inr (.inr (va_up f2_16 (16 : Int32).toNatClampNeg (some (cd 0 (msI 16)))))))))] := hD
  rw [← hf2_17] at hP hD
  have gf2_17 := up_step (F := fun j => cd 0 (msI j)) gf2_16 (by decide) hf2_17
  clear hf2_17 gf2_16
  refine lv_dup hx hb d_Mod_init_319 rfl ?_
  refine lv_bipush (v := 17) hx hb d_Mod_init_320 (by decide) ?_
  refine cX_ldc (i := 52) hx hb hown hCx.1 (by decide +kernel) d_Mod_init_322 ?_
  refine va_astqM (D := D) hx hb hK hP hD hS 2 2 rfl rfl (cX_any hCx.1 (show 52 < nS by decide) hS) (show vp_in 17 44 by unfold vp_in; decide) d_Mod_init_324 (fun H locs hP hD hS => ?_)
  obtain ⟨f2_18, hf2_18⟩ : ∃ z, z = va_up f2_17 (17 : Int32).toNatClampNeg (some (cd 0 (msI 17))) := ⟨_, rfl⟩
  have hP : va_P D vwCl [(h0, .inr (5, [.ref q1, .null, .int 0, .int 0, .int 0, .int 0, .int 0, .int 0, .int 0, .int 0, .null, .null, .null, .null, .null, .null])), (q1, .inl (ty 2, 35, .inr (.inr (.inr (.inr f1_35))))), (q2, .inl (ty 2, 44, .inr (.inr (.inr (.inr (va_up f2_17 (17 : Int32).toNatClampNeg (some (cd 0 (msI 17)))))))))] H := hP
  have hD : va_D A [(h0, .inr (5, [.ref q1, .null, .int 0, .int 0, .int 0, .int 0, .int 0, .int 0, .int 0, .int 0, .null, .null, .null, .null, .null, .null])), (q1, .inl (ty 2, 35, .inr (.inr (.inr (.inr f1_35))))), (q2, .inl (ty 2, 44, .inr (.inr (.inr (.inr (va_up f2_17 (17 : Int32).toNatClampNeg (some (cd 0 (msI 17)))))))))] := hD
  rw [← hf2_18] at hP hD
  have gf2_18 := up_step (F := fun j => cd 0 (msI j)) gf2_17 (by decide) hf2_18
  clear hf2_18 gf2_17
  refine lv_dup hx hb d_Mod_init_325 rfl ?_
  refine lv_bipush (v := 18) hx hb d_Mod_init_326 (by decide) ?_
  refine cX_ldc (i := 53) hx hb hown hCx.1 (by decide +kernel) d_Mod_init_328 ?_
  refine va_astqM (D := D) hx hb hK hP hD hS 2 2 rfl rfl (cX_any hCx.1 (show 53 < nS by decide) hS) (show vp_in 18 44 by unfold vp_in; decide) d_Mod_init_330 (fun H locs hP hD hS => ?_)
  obtain ⟨f2_19, hf2_19⟩ : ∃ z, z = va_up f2_18 (18 : Int32).toNatClampNeg (some (cd 0 (msI 18))) := ⟨_, rfl⟩
  have hP : va_P D vwCl [(h0, .inr (5, [.ref q1, .null, .int 0, .int 0, .int 0, .int 0, .int 0, .int 0, .int 0, .int 0, .null, .null, .null, .null, .null, .null])), (q1, .inl (ty 2, 35, .inr (.inr (.inr (.inr f1_35))))), (q2, .inl (ty 2, 44, .inr (.inr (.inr (.inr (va_up f2_18 (18 : Int32).toNatClampNeg (some (cd 0 (msI 18)))))))))] H := hP
  have hD : va_D A [(h0, .inr (5, [.ref q1, .null, .int 0, .int 0, .int 0, .int 0, .int 0, .int 0, .int 0, .int 0, .null, .null, .null, .null, .null, .null])), (q1, .inl (ty 2, 35, .inr (.inr (.inr (.inr f1_35))))), (q2, .inl (ty 2, 44, .inr (.inr (.inr (.inr (va_up f2_18 (18 : Int32).toNatClampNeg (some (cd 0 (msI 18)))))))))] := hD
  rw [← hf2_19] at hP hD
  have gf2_19 := up_step (F := fun j => cd 0 (msI j)) gf2_18 (by decide) hf2_19
  clear hf2_19 gf2_18
  refine lv_dup hx hb d_Mod_init_331 rfl ?_
  refine lv_bipush (v := 19) hx hb d_Mod_init_332 (by decide) ?_
  refine cX_ldc (i := 54) hx hb hown hCx.1 (by decide +kernel) d_Mod_init_334 ?_
  refine va_astqM (D := D) hx hb hK hP hD hS 2 2 rfl rfl (cX_any hCx.1 (show 54 < nS by decide) hS) (show vp_in 19 44 by unfold vp_in; decide) d_Mod_init_336 (fun H locs hP hD hS => ?_)
  obtain ⟨f2_20, hf2_20⟩ : ∃ z, z = va_up f2_19 (19 : Int32).toNatClampNeg (some (cd 0 (msI 19))) := ⟨_, rfl⟩
  have hP : va_P D vwCl [(h0, .inr (5, [.ref q1, .null, .int 0, .int 0, .int 0, .int 0, .int 0, .int 0, .int 0, .int 0, .null, .null, .null, .null, .null, .null])), (q1, .inl (ty 2, 35, .inr (.inr (.inr (.inr f1_35))))), (q2, .inl (ty 2, 44, .inr (.inr (.inr (.inr (va_up f2_19 (19 : Int32).toNatClampNeg (some (cd 0 (msI 19)))))))))] H := hP
  have hD : va_D A [(h0, .inr (5, [.ref q1, .null, .int 0, .int 0, .int 0, .int 0, .int 0, .int 0, .int 0, .int 0, .null, .null, .null, .null, .null, .null])), (q1, .inl (ty 2, 35, .inr (.inr (.inr (.inr f1_35))))), (q2, .inl (ty 2, 44, .inr (.inr (.inr (.inr (va_up f2_19 (19 : Int32).toNatClampNeg (some (cd 0 (msI 19)))))))))] := hD
  rw [← hf2_20] at hP hD
  have gf2_20 := up_step (F := fun j => cd 0 (msI j)) gf2_19 (by decide) hf2_20
  clear hf2_20 gf2_19
  refine lv_dup hx hb d_Mod_init_337 rfl ?_
  refine lv_bipush (v := 20) hx hb d_Mod_init_338 (by decide) ?_
  refine cX_ldc (i := 55) hx hb hown hCx.1 (by decide +kernel) d_Mod_init_340 ?_
  refine va_astqM (D := D) hx hb hK hP hD hS 2 2 rfl rfl (cX_any hCx.1 (show 55 < nS by decide) hS) (show vp_in 20 44 by unfold vp_in; decide) d_Mod_init_342 (fun H locs hP hD hS => ?_)
  obtain ⟨f2_21, hf2_21⟩ : ∃ z, z = va_up f2_20 (20 : Int32).toNatClampNeg (some (cd 0 (msI 20))) := ⟨_, rfl⟩
  have hP : va_P D vwCl [(h0, .inr (5, [.ref q1, .null, .int 0, .int 0, .int 0, .int 0, .int 0, .int 0, .int 0, .int 0, .null, .null, .null, .null, .null, .null])), (q1, .inl (ty 2, 35, .inr (.inr (.inr (.inr f1_35))))), (q2, .inl (ty 2, 44, .inr (.inr (.inr (.inr (va_up f2_20 (20 : Int32).toNatClampNeg (some (cd 0 (msI 20)))))))))] H := hP
  have hD : va_D A [(h0, .inr (5, [.ref q1, .null, .int 0, .int 0, .int 0, .int 0, .int 0, .int 0, .int 0, .int 0, .null, .null, .null, .null, .null, .null])), (q1, .inl (ty 2, 35, .inr (.inr (.inr (.inr f1_35))))), (q2, .inl (ty 2, 44, .inr (.inr (.inr (.inr (va_up f2_20 (20 : Int32).toNatClampNeg (some (cd 0 (msI 20)))))))))] := hD
  rw [← hf2_21] at hP hD
  have gf2_21 := up_step (F := fun j => cd 0 (msI j)) gf2_20 (by decide) hf2_21
  clear hf2_21 gf2_20
  refine lv_dup hx hb d_Mod_init_343 rfl ?_
  refine lv_bipush (v := 21) hx hb d_Mod_init_344 (by decide) ?_
  refine cX_ldc (i := 56) hx hb hown hCx.1 (by decide +kernel) d_Mod_init_346 ?_
  refine va_astqM (D := D) hx hb hK hP hD hS 2 2 rfl rfl (cX_any hCx.1 (show 56 < nS by decide) hS) (show vp_in 21 44 by unfold vp_in; decide) d_Mod_init_348 (fun H locs hP hD hS => ?_)
  obtain ⟨f2_22, hf2_22⟩ : ∃ z, z = va_up f2_21 (21 : Int32).toNatClampNeg (some (cd 0 (msI 21))) := ⟨_, rfl⟩
  have hP : va_P D vwCl [(h0, .inr (5, [.ref q1, .null, .int 0, .int 0, .int 0, .int 0, .int 0, .int 0, .int 0, .int 0, .null, .null, .null, .null, .null, .null])), (q1, .inl (ty 2, 35, .inr (.inr (.inr (.inr f1_35))))), (q2, .inl (ty 2, 44, .inr (.inr (.inr (.inr (va_up f2_21 (21 : Int32).toNatClampNeg (some (cd 0 (msI 21)))))))))] H := hP
  have hD : va_D A [(h0, .inr (5, [.ref q1, .null, .int 0, .int 0, .int 0, .int 0, .int 0, .int 0, .int 0, .int 0, .null, .null, .null, .null, .null, .null])), (q1, .inl (ty 2, 35, .inr (.inr (.inr (.inr f1_35))))), (q2, .inl (ty 2, 44, .inr (.inr (.inr (.inr (va_up f2_21 (21 : Int32).toNatClampNeg (some (cd 0 (msI 21)))))))))] := hD
  rw [← hf2_22] at hP hD
  have gf2_22 := up_step (F := fun j => cd 0 (msI j)) gf2_21 (by decide) hf2_22
  clear hf2_22 gf2_21
  refine lv_dup hx hb d_Mod_init_349 rfl ?_
  refine lv_bipush (v := 22) hx hb d_Mod_init_350 (by decide) ?_
  refine cX_ldc (i := 57) hx hb hown hCx.1 (by decide +kernel) d_Mod_init_352 ?_
  refine va_astqM (D := D) hx hb hK hP hD hS 2 2 rfl rfl (cX_any hCx.1 (show 57 < nS by decide) hS) (show vp_in 22 44 by unfold vp_in; decide) d_Mod_init_354 (fun H locs hP hD hS => ?_)
  obtain ⟨f2_23, hf2_23⟩ : ∃ z, z = va_up f2_22 (22 : Int32).toNatClampNeg (some (cd 0 (msI 22))) := ⟨_, rfl⟩
  have hP : va_P D vwCl [(h0, .inr (5, [.ref q1, .null, .int 0, .int 0, .int 0, .int 0, .int 0, .int 0, .int 0, .int 0, .null, .null, .null, .null, .null, .null])), (q1, .inl (ty 2, 35, .inr (.inr (.inr (.inr f1_35))))), (q2, .inl (ty 2, 44, .inr (.inr (.inr (.inr (va_up f2_22 (22 : Int32).toNatClampNeg (some (cd 0 (msI 22)))))))))] H := hP
  have hD : va_D A [(h0, .inr (5, [.ref q1, .null, .int 0, .int 0, .int 0, .int 0, .int 0, .int 0, .int 0, .int 0, .null, .null, .null, .null, .null, .null])), (q1, .inl (ty 2, 35, .inr (.inr (.inr (.inr f1_35))))), (q2, .inl (ty 2, 44, .inr (.inr (.inr (.inr (va_up f2_22 (22 : Int32).toNatClampNeg (some (cd 0 (msI 22)))))))))] := hD
  rw [← hf2_23] at hP hD
  have gf2_23 := up_step (F := fun j => cd 0 (msI j)) gf2_22 (by decide) hf2_23
  clear hf2_23 gf2_22
  refine lv_dup hx hb d_Mod_init_355 rfl ?_
  refine lv_bipush (v := 23) hx hb d_Mod_init_356 (by decide) ?_
  refine cX_ldc (i := 58) hx hb hown hCx.1 (by decide +kernel) d_Mod_init_358 ?_
  refine va_astqM (D := D) hx hb hK hP hD hS 2 2 rfl rfl (cX_any hCx.1 (show 58 < nS by decide) hS) (show vp_in 23 44 by unfold vp_in; decide) d_Mod_init_360 (fun H locs hP hD hS => ?_)
  obtain ⟨f2_24, hf2_24⟩ : ∃ z, z = va_up f2_23 (23 : Int32).toNatClampNeg (some (cd 0 (msI 23))) := ⟨_, rfl⟩
  have hP : va_P D vwCl [(h0, .inr (5, [.ref q1, .null, .int 0, .int 0, .int 0, .int 0, .int 0, .int 0, .int 0, .int 0, .null, .null, .null, .null, .null, .null])), (q1, .inl (ty 2, 35, .inr (.inr (.inr (.inr f1_35))))), (q2, .inl (ty 2, 44, .inr (.inr (.inr (.inr (va_up f2_23 (23 : Int32).toNatClampNeg (some (cd 0 (msI 23)))))))))] H := hP
  have hD : va_D A [(h0, .inr (5, [.ref q1, .null, .int 0, .int 0, .int 0, .int 0, .int 0, .int 0, .int 0, .int 0, .null, .null, .null, .null, .null, .null])), (q1, .inl (ty 2, 35, .inr (.inr (.inr (.inr f1_35))))), (q2, .inl (ty 2, 44, .inr (.inr (.inr (.inr (va_up f2_23 (23 : Int32).toNatClampNeg (some (cd 0 (msI 23)))))))))] := hD
  rw [← hf2_24] at hP hD
  have gf2_24 := up_step (F := fun j => cd 0 (msI j)) gf2_23 (by decide) hf2_24
  clear hf2_24 gf2_23
  refine lv_dup hx hb d_Mod_init_361 rfl ?_
  refine lv_bipush (v := 24) hx hb d_Mod_init_362 (by decide) ?_
  refine cX_ldc (i := 59) hx hb hown hCx.1 (by decide +kernel) d_Mod_init_364 ?_
  refine va_astqM (D := D) hx hb hK hP hD hS 2 2 rfl rfl (cX_any hCx.1 (show 59 < nS by decide) hS) (show vp_in 24 44 by unfold vp_in; decide) d_Mod_init_366 (fun H locs hP hD hS => ?_)
  obtain ⟨f2_25, hf2_25⟩ : ∃ z, z = va_up f2_24 (24 : Int32).toNatClampNeg (some (cd 0 (msI 24))) := ⟨_, rfl⟩
  have hP : va_P D vwCl [(h0, .inr (5, [.ref q1, .null, .int 0, .int 0, .int 0, .int 0, .int 0, .int 0, .int 0, .int 0, .null, .null, .null, .null, .null, .null])), (q1, .inl (ty 2, 35, .inr (.inr (.inr (.inr f1_35))))), (q2, .inl (ty 2, 44, .inr (.inr (.inr (.inr (va_up f2_24 (24 : Int32).toNatClampNeg (some (cd 0 (msI 24)))))))))] H := hP
  have hD : va_D A [(h0, .inr (5, [.ref q1, .null, .int 0, .int 0, .int 0, .int 0, .int 0, .int 0, .int 0, .int 0, .null, .null, .null, .null, .null, .null])), (q1, .inl (ty 2, 35, .inr (.inr (.inr (.inr f1_35))))), (q2, .inl (ty 2, 44, .inr (.inr (.inr (.inr (va_up f2_24 (24 : Int32).toNatClampNeg (some (cd 0 (msI 24)))))))))] := hD
  rw [← hf2_25] at hP hD
  have gf2_25 := up_step (F := fun j => cd 0 (msI j)) gf2_24 (by decide) hf2_25
  clear hf2_25 gf2_24
  refine lv_dup hx hb d_Mod_init_367 rfl ?_
  refine lv_bipush (v := 25) hx hb d_Mod_init_368 (by decide) ?_
  refine cX_ldc (i := 60) hx hb hown hCx.1 (by decide +kernel) d_Mod_init_370 ?_
  refine va_astqM (D := D) hx hb hK hP hD hS 2 2 rfl rfl (cX_any hCx.1 (show 60 < nS by decide) hS) (show vp_in 25 44 by unfold vp_in; decide) d_Mod_init_372 (fun H locs hP hD hS => ?_)
  obtain ⟨f2_26, hf2_26⟩ : ∃ z, z = va_up f2_25 (25 : Int32).toNatClampNeg (some (cd 0 (msI 25))) := ⟨_, rfl⟩
  have hP : va_P D vwCl [(h0, .inr (5, [.ref q1, .null, .int 0, .int 0, .int 0, .int 0, .int 0, .int 0, .int 0, .int 0, .null, .null, .null, .null, .null, .null])), (q1, .inl (ty 2, 35, .inr (.inr (.inr (.inr f1_35))))), (q2, .inl (ty 2, 44, .inr (.inr (.inr (.inr (va_up f2_25 (25 : Int32).toNatClampNeg (some (cd 0 (msI 25)))))))))] H := hP
  have hD : va_D A [(h0, .inr (5, [.ref q1, .null, .int 0, .int 0, .int 0, .int 0, .int 0, .int 0, .int 0, .int 0, .null, .null, .null, .null, .null, .null])), (q1, .inl (ty 2, 35, .inr (.inr (.inr (.inr f1_35))))), (q2, .inl (ty 2, 44, .inr (.inr (.inr (.inr (va_up f2_25 (25 : Int32).toNatClampNeg (some (cd 0 (msI 25)))))))))] := hD
  rw [← hf2_26] at hP hD
  have gf2_26 := up_step (F := fun j => cd 0 (msI j)) gf2_25 (by decide) hf2_26
  clear hf2_26 gf2_25
  refine lv_dup hx hb d_Mod_init_373 rfl ?_
  refine lv_bipush (v := 26) hx hb d_Mod_init_374 (by decide) ?_
  refine cX_ldc (i := 61) hx hb hown hCx.1 (by decide +kernel) d_Mod_init_376 ?_
  refine va_astqM (D := D) hx hb hK hP hD hS 2 2 rfl rfl (cX_any hCx.1 (show 61 < nS by decide) hS) (show vp_in 26 44 by unfold vp_in; decide) d_Mod_init_378 (fun H locs hP hD hS => ?_)
  obtain ⟨f2_27, hf2_27⟩ : ∃ z, z = va_up f2_26 (26 : Int32).toNatClampNeg (some (cd 0 (msI 26))) := ⟨_, rfl⟩
  have hP : va_P D vwCl [(h0, .inr (5, [.ref q1, .null, .int 0, .int 0, .int 0, .int 0, .int 0, .int 0, .int 0, .int 0, .null, .null, .null, .null, .null, .null])), (q1, .inl (ty 2, 35, .inr (.inr (.inr (.inr f1_35))))), (q2, .inl (ty 2, 44, .inr (.inr (.inr (.inr (va_up f2_26 (26 : Int32).toNatClampNeg (some (cd 0 (msI 26)))))))))] H := hP
  have hD : va_D A [(h0, .inr (5, [.ref q1, .null, .int 0, .int 0, .int 0, .int 0, .int 0, .int 0, .int 0, .int 0, .null, .null, .null, .null, .null, .null])), (q1, .inl (ty 2, 35, .inr (.inr (.inr (.inr f1_35))))), (q2, .inl (ty 2, 44, .inr (.inr (.inr (.inr (va_up f2_26 (26 : Int32).toNatClampNeg (some (cd 0 (msI 26)))))))))] := hD
  rw [← hf2_27] at hP hD
  have gf2_27 := up_step (F := fun j => cd 0 (msI j)) gf2_26 (by decide) hf2_27
  clear hf2_27 gf2_26
  refine lv_dup hx hb d_Mod_init_379 rfl ?_
  refine lv_bipush (v := 27) hx hb d_Mod_init_380 (by decide) ?_
  refine cX_ldc (i := 62) hx hb hown hCx.1 (by decide +kernel) d_Mod_init_382 ?_
  refine va_astqM (D := D) hx hb hK hP hD hS 2 2 rfl rfl (cX_any hCx.1 (show 62 < nS by decide) hS) (show vp_in 27 44 by unfold vp_in; decide) d_Mod_init_384 (fun H locs hP hD hS => ?_)
  obtain ⟨f2_28, hf2_28⟩ : ∃ z, z = va_up f2_27 (27 : Int32).toNatClampNeg (some (cd 0 (msI 27))) := ⟨_, rfl⟩
  have hP : va_P D vwCl [(h0, .inr (5, [.ref q1, .null, .int 0, .int 0, .int 0, .int 0, .int 0, .int 0, .int 0, .int 0, .null, .null, .null, .null, .null, .null])), (q1, .inl (ty 2, 35, .inr (.inr (.inr (.inr f1_35))))), (q2, .inl (ty 2, 44, .inr (.inr (.inr (.inr (va_up f2_27 (27 : Int32).toNatClampNeg (some (cd 0 (msI 27)))))))))] H := hP
  have hD : va_D A [(h0, .inr (5, [.ref q1, .null, .int 0, .int 0, .int 0, .int 0, .int 0, .int 0, .int 0, .int 0, .null, .null, .null, .null, .null, .null])), (q1, .inl (ty 2, 35, .inr (.inr (.inr (.inr f1_35))))), (q2, .inl (ty 2, 44, .inr (.inr (.inr (.inr (va_up f2_27 (27 : Int32).toNatClampNeg (some (cd 0 (msI 27)))))))))] := hD
  rw [← hf2_28] at hP hD
  have gf2_28 := up_step (F := fun j => cd 0 (msI j)) gf2_27 (by decide) hf2_28
  clear hf2_28 gf2_27
  refine lv_dup hx hb d_Mod_init_385 rfl ?_
  refine lv_bipush (v := 28) hx hb d_Mod_init_386 (by decide) ?_
  refine cX_ldc (i := 63) hx hb hown hCx.1 (by decide +kernel) d_Mod_init_388 ?_
  refine va_astqM (D := D) hx hb hK hP hD hS 2 2 rfl rfl (cX_any hCx.1 (show 63 < nS by decide) hS) (show vp_in 28 44 by unfold vp_in; decide) d_Mod_init_390 (fun H locs hP hD hS => ?_)
  obtain ⟨f2_29, hf2_29⟩ : ∃ z, z = va_up f2_28 (28 : Int32).toNatClampNeg (some (cd 0 (msI 28))) := ⟨_, rfl⟩
  have hP : va_P D vwCl [(h0, .inr (5, [.ref q1, .null, .int 0, .int 0, .int 0, .int 0, .int 0, .int 0, .int 0, .int 0, .null, .null, .null, .null, .null, .null])), (q1, .inl (ty 2, 35, .inr (.inr (.inr (.inr f1_35))))), (q2, .inl (ty 2, 44, .inr (.inr (.inr (.inr (va_up f2_28 (28 : Int32).toNatClampNeg (some (cd 0 (msI 28)))))))))] H := hP
  have hD : va_D A [(h0, .inr (5, [.ref q1, .null, .int 0, .int 0, .int 0, .int 0, .int 0, .int 0, .int 0, .int 0, .null, .null, .null, .null, .null, .null])), (q1, .inl (ty 2, 35, .inr (.inr (.inr (.inr f1_35))))), (q2, .inl (ty 2, 44, .inr (.inr (.inr (.inr (va_up f2_28 (28 : Int32).toNatClampNeg (some (cd 0 (msI 28)))))))))] := hD
  rw [← hf2_29] at hP hD
  have gf2_29 := up_step (F := fun j => cd 0 (msI j)) gf2_28 (by decide) hf2_29
  clear hf2_29 gf2_28
  refine lv_dup hx hb d_Mod_init_391 rfl ?_
  refine lv_bipush (v := 29) hx hb d_Mod_init_392 (by decide) ?_
  refine cX_ldc (i := 64) hx hb hown hCx.1 (by decide +kernel) d_Mod_init_394 ?_
  refine va_astqM (D := D) hx hb hK hP hD hS 2 2 rfl rfl (cX_any hCx.1 (show 64 < nS by decide) hS) (show vp_in 29 44 by unfold vp_in; decide) d_Mod_init_396 (fun H locs hP hD hS => ?_)
  obtain ⟨f2_30, hf2_30⟩ : ∃ z, z = va_up f2_29 (29 : Int32).toNatClampNeg (some (cd 0 (msI 29))) := ⟨_, rfl⟩
  have hP : va_P D vwCl [(h0, .inr (5, [.ref q1, .null, .int 0, .int 0, .int 0, .int 0, .int 0, .int 0, .int 0, .int 0, .null, .null, .null, .null, .null, .null])), (q1, .inl (ty 2, 35, .inr (.inr (.inr (.inr f1_35))))), (q2, .inl (ty 2, 44, .inr (.inr (.inr (.inr (va_up f2_29 (29 : Int32).toNatClampNeg (some (cd 0 (msI 29)))))))))] H := hP
  have hD : va_D A [(h0, .inr (5, [.ref q1, .null, .int 0, .int 0, .int 0, .int 0, .int 0, .int 0, .int 0, .int 0, .null, .null, .null, .null, .null, .null])), (q1, .inl (ty 2, 35, .inr (.inr (.inr (.inr f1_35))))), (q2, .inl (ty 2, 44, .inr (.inr (.inr (.inr (va_up f2_29 (29 : Int32).toNatClampNeg (some (cd 0 (msI 29)))))))))] := hD
  rw [← hf2_30] at hP hD
  have gf2_30 := up_step (F := fun j => cd 0 (msI j)) gf2_29 (by decide) hf2_30
  clear hf2_30 gf2_29
  refine lv_dup hx hb d_Mod_init_397 rfl ?_
  refine lv_bipush (v := 30) hx hb d_Mod_init_398 (by decide) ?_
  refine cX_ldc (i := 65) hx hb hown hCx.1 (by decide +kernel) d_Mod_init_400 ?_
  refine va_astqM (D := D) hx hb hK hP hD hS 2 2 rfl rfl (cX_any hCx.1 (show 65 < nS by decide) hS) (show vp_in 30 44 by unfold vp_in; decide) d_Mod_init_402 (fun H locs hP hD hS => ?_)
  obtain ⟨f2_31, hf2_31⟩ : ∃ z, z = va_up f2_30 (30 : Int32).toNatClampNeg (some (cd 0 (msI 30))) := ⟨_, rfl⟩
  have hP : va_P D vwCl [(h0, .inr (5, [.ref q1, .null, .int 0, .int 0, .int 0, .int 0, .int 0, .int 0, .int 0, .int 0, .null, .null, .null, .null, .null, .null])), (q1, .inl (ty 2, 35, .inr (.inr (.inr (.inr f1_35))))), (q2, .inl (ty 2, 44, .inr (.inr (.inr (.inr (va_up f2_30 (30 : Int32).toNatClampNeg (some (cd 0 (msI 30)))))))))] H := hP
  have hD : va_D A [(h0, .inr (5, [.ref q1, .null, .int 0, .int 0, .int 0, .int 0, .int 0, .int 0, .int 0, .int 0, .null, .null, .null, .null, .null, .null])), (q1, .inl (ty 2, 35, .inr (.inr (.inr (.inr f1_35))))), (q2, .inl (ty 2, 44, .inr (.inr (.inr (.inr (va_up f2_30 (30 : Int32).toNatClampNeg (some (cd 0 (msI 30)))))))))] := hD
  rw [← hf2_31] at hP hD
  have gf2_31 := up_step (F := fun j => cd 0 (msI j)) gf2_30 (by decide) hf2_31
  clear hf2_31 gf2_30
  refine lv_dup hx hb d_Mod_init_403 rfl ?_
  refine lv_bipush (v := 31) hx hb d_Mod_init_404 (by decide) ?_
  refine cX_ldc (i := 66) hx hb hown hCx.1 (by decide +kernel) d_Mod_init_406 ?_
  refine va_astqM (D := D) hx hb hK hP hD hS 2 2 rfl rfl (cX_any hCx.1 (show 66 < nS by decide) hS) (show vp_in 31 44 by unfold vp_in; decide) d_Mod_init_408 (fun H locs hP hD hS => ?_)
  obtain ⟨f2_32, hf2_32⟩ : ∃ z, z = va_up f2_31 (31 : Int32).toNatClampNeg (some (cd 0 (msI 31))) := ⟨_, rfl⟩
  have hP : va_P D vwCl [(h0, .inr (5, [.ref q1, .null, .int 0, .int 0, .int 0, .int 0, .int 0, .int 0, .int 0, .int 0, .null, .null, .null, .null, .null, .null])), (q1, .inl (ty 2, 35, .inr (.inr (.inr (.inr f1_35))))), (q2, .inl (ty 2, 44, .inr (.inr (.inr (.inr (va_up f2_31 (31 : Int32).toNatClampNeg (some (cd 0 (msI 31)))))))))] H := hP
  have hD : va_D A [(h0, .inr (5, [.ref q1, .null, .int 0, .int 0, .int 0, .int 0, .int 0, .int 0, .int 0, .int 0, .null, .null, .null, .null, .null, .null])), (q1, .inl (ty 2, 35, .inr (.inr (.inr (.inr f1_35))))), (q2, .inl (ty 2, 44, .inr (.inr (.inr (.inr (va_up f2_31 (31 : Int32).toNatClampNeg (some (cd 0 (msI 31)))))))))] := hD
  rw [← hf2_32] at hP hD
  have gf2_32 := up_step (F := fun j => cd 0 (msI j)) gf2_31 (by decide) hf2_32
  clear hf2_32 gf2_31
  refine lv_dup hx hb d_Mod_init_409 rfl ?_
  refine lv_bipush (v := 32) hx hb d_Mod_init_410 (by decide) ?_
  refine cX_ldc (i := 67) hx hb hown hCx.1 (by decide +kernel) d_Mod_init_412 ?_
  refine va_astqM (D := D) hx hb hK hP hD hS 2 2 rfl rfl (cX_any hCx.1 (show 67 < nS by decide) hS) (show vp_in 32 44 by unfold vp_in; decide) d_Mod_init_414 (fun H locs hP hD hS => ?_)
  obtain ⟨f2_33, hf2_33⟩ : ∃ z, z = va_up f2_32 (32 : Int32).toNatClampNeg (some (cd 0 (msI 32))) := ⟨_, rfl⟩
  have hP : va_P D vwCl [(h0, .inr (5, [.ref q1, .null, .int 0, .int 0, .int 0, .int 0, .int 0, .int 0, .int 0, .int 0, .null, .null, .null, .null, .null, .null])), (q1, .inl (ty 2, 35, .inr (.inr (.inr (.inr f1_35))))), (q2, .inl (ty 2, 44, .inr (.inr (.inr (.inr (va_up f2_32 (32 : Int32).toNatClampNeg (some (cd 0 (msI 32)))))))))] H := hP
  have hD : va_D A [(h0, .inr (5, [.ref q1, .null, .int 0, .int 0, .int 0, .int 0, .int 0, .int 0, .int 0, .int 0, .null, .null, .null, .null, .null, .null])), (q1, .inl (ty 2, 35, .inr (.inr (.inr (.inr f1_35))))), (q2, .inl (ty 2, 44, .inr (.inr (.inr (.inr (va_up f2_32 (32 : Int32).toNatClampNeg (some (cd 0 (msI 32)))))))))] := hD
  rw [← hf2_33] at hP hD
  have gf2_33 := up_step (F := fun j => cd 0 (msI j)) gf2_32 (by decide) hf2_33
  clear hf2_33 gf2_32
  refine lv_dup hx hb d_Mod_init_415 rfl ?_
  refine lv_bipush (v := 33) hx hb d_Mod_init_416 (by decide) ?_
  refine cX_ldc (i := 68) hx hb hown hCx.1 (by decide +kernel) d_Mod_init_418 ?_
  refine va_astqM (D := D) hx hb hK hP hD hS 2 2 rfl rfl (cX_any hCx.1 (show 68 < nS by decide) hS) (show vp_in 33 44 by unfold vp_in; decide) d_Mod_init_420 (fun H locs hP hD hS => ?_)
  obtain ⟨f2_34, hf2_34⟩ : ∃ z, z = va_up f2_33 (33 : Int32).toNatClampNeg (some (cd 0 (msI 33))) := ⟨_, rfl⟩
  have hP : va_P D vwCl [(h0, .inr (5, [.ref q1, .null, .int 0, .int 0, .int 0, .int 0, .int 0, .int 0, .int 0, .int 0, .null, .null, .null, .null, .null, .null])), (q1, .inl (ty 2, 35, .inr (.inr (.inr (.inr f1_35))))), (q2, .inl (ty 2, 44, .inr (.inr (.inr (.inr (va_up f2_33 (33 : Int32).toNatClampNeg (some (cd 0 (msI 33)))))))))] H := hP
  have hD : va_D A [(h0, .inr (5, [.ref q1, .null, .int 0, .int 0, .int 0, .int 0, .int 0, .int 0, .int 0, .int 0, .null, .null, .null, .null, .null, .null])), (q1, .inl (ty 2, 35, .inr (.inr (.inr (.inr f1_35))))), (q2, .inl (ty 2, 44, .inr (.inr (.inr (.inr (va_up f2_33 (33 : Int32).toNatClampNeg (some (cd 0 (msI 33)))))))))] := hD
  rw [← hf2_34] at hP hD
  have gf2_34 := up_step (F := fun j => cd 0 (msI j)) gf2_33 (by decide) hf2_34
  clear hf2_34 gf2_33
  refine lv_dup hx hb d_Mod_init_421 rfl ?_
  refine lv_bipush (v := 34) hx hb d_Mod_init_422 (by decide) ?_
  refine cX_ldc (i := 69) hx hb hown hCx.1 (by decide +kernel) d_Mod_init_424 ?_
  refine va_astqM (D := D) hx hb hK hP hD hS 2 2 rfl rfl (cX_any hCx.1 (show 69 < nS by decide) hS) (show vp_in 34 44 by unfold vp_in; decide) d_Mod_init_426 (fun H locs hP hD hS => ?_)
  obtain ⟨f2_35, hf2_35⟩ : ∃ z, z = va_up f2_34 (34 : Int32).toNatClampNeg (some (cd 0 (msI 34))) := ⟨_, rfl⟩
  have hP : va_P D vwCl [(h0, .inr (5, [.ref q1, .null, .int 0, .int 0, .int 0, .int 0, .int 0, .int 0, .int 0, .int 0, .null, .null, .null, .null, .null, .null])), (q1, .inl (ty 2, 35, .inr (.inr (.inr (.inr f1_35))))), (q2, .inl (ty 2, 44, .inr (.inr (.inr (.inr (va_up f2_34 (34 : Int32).toNatClampNeg (some (cd 0 (msI 34)))))))))] H := hP
  have hD : va_D A [(h0, .inr (5, [.ref q1, .null, .int 0, .int 0, .int 0, .int 0, .int 0, .int 0, .int 0, .int 0, .null, .null, .null, .null, .null, .null])), (q1, .inl (ty 2, 35, .inr (.inr (.inr (.inr f1_35))))), (q2, .inl (ty 2, 44, .inr (.inr (.inr (.inr (va_up f2_34 (34 : Int32).toNatClampNeg (some (cd 0 (msI 34)))))))))] := hD
  rw [← hf2_35] at hP hD
  have gf2_35 := up_step (F := fun j => cd 0 (msI j)) gf2_34 (by decide) hf2_35
  clear hf2_35 gf2_34
  refine lv_dup hx hb d_Mod_init_427 rfl ?_
  refine lv_bipush (v := 35) hx hb d_Mod_init_428 (by decide) ?_
  refine cX_ldc (i := 70) hx hb hown hCx.1 (by decide +kernel) d_Mod_init_430 ?_
  refine va_astqM (D := D) hx hb hK hP hD hS 2 2 rfl rfl (cX_any hCx.1 (show 70 < nS by decide) hS) (show vp_in 35 44 by unfold vp_in; decide) d_Mod_init_432 (fun H locs hP hD hS => ?_)
  obtain ⟨f2_36, hf2_36⟩ : ∃ z, z = va_up f2_35 (35 : Int32).toNatClampNeg (some (cd 0 (msI 35))) := ⟨_, rfl⟩
  have hP : va_P D vwCl [(h0, .inr (5, [.ref q1, .null, .int 0, .int 0, .int 0, .int 0, .int 0, .int 0, .int 0, .int 0, .null, .null, .null, .null, .null, .null])), (q1, .inl (ty 2, 35, .inr (.inr (.inr (.inr f1_35))))), (q2, .inl (ty 2, 44, .inr (.inr (.inr (.inr (va_up f2_35 (35 : Int32).toNatClampNeg (some (cd 0 (msI 35)))))))))] H := hP
  have hD : va_D A [(h0, .inr (5, [.ref q1, .null, .int 0, .int 0, .int 0, .int 0, .int 0, .int 0, .int 0, .int 0, .null, .null, .null, .null, .null, .null])), (q1, .inl (ty 2, 35, .inr (.inr (.inr (.inr f1_35))))), (q2, .inl (ty 2, 44, .inr (.inr (.inr (.inr (va_up f2_35 (35 : Int32).toNatClampNeg (some (cd 0 (msI 35)))))))))] := hD
  rw [← hf2_36] at hP hD
  have gf2_36 := up_step (F := fun j => cd 0 (msI j)) gf2_35 (by decide) hf2_36
  clear hf2_36 gf2_35
  refine lv_dup hx hb d_Mod_init_433 rfl ?_
  refine lv_bipush (v := 36) hx hb d_Mod_init_434 (by decide) ?_
  refine cX_ldc (i := 71) hx hb hown hCx.1 (by decide +kernel) d_Mod_init_436 ?_
  refine va_astqM (D := D) hx hb hK hP hD hS 2 2 rfl rfl (cX_any hCx.1 (show 71 < nS by decide) hS) (show vp_in 36 44 by unfold vp_in; decide) d_Mod_init_438 (fun H locs hP hD hS => ?_)
  obtain ⟨f2_37, hf2_37⟩ : ∃ z, z = va_up f2_36 (36 : Int32).toNatClampNeg (some (cd 0 (msI 36))) := ⟨_, rfl⟩
  have hP : va_P D vwCl [(h0, .inr (5, [.ref q1, .null, .int 0, .int 0, .int 0, .int 0, .int 0, .int 0, .int 0, .int 0, .null, .null, .null, .null, .null, .null])), (q1, .inl (ty 2, 35, .inr (.inr (.inr (.inr f1_35))))), (q2, .inl (ty 2, 44, .inr (.inr (.inr (.inr (va_up f2_36 (36 : Int32).toNatClampNeg (some (cd 0 (msI 36)))))))))] H := hP
  have hD : va_D A [(h0, .inr (5, [.ref q1, .null, .int 0, .int 0, .int 0, .int 0, .int 0, .int 0, .int 0, .int 0, .null, .null, .null, .null, .null, .null])), (q1, .inl (ty 2, 35, .inr (.inr (.inr (.inr f1_35))))), (q2, .inl (ty 2, 44, .inr (.inr (.inr (.inr (va_up f2_36 (36 : Int32).toNatClampNeg (some (cd 0 (msI 36)))))))))] := hD
  rw [← hf2_37] at hP hD
  have gf2_37 := up_step (F := fun j => cd 0 (msI j)) gf2_36 (by decide) hf2_37
  clear hf2_37 gf2_36
  refine lv_dup hx hb d_Mod_init_439 rfl ?_
  refine lv_bipush (v := 37) hx hb d_Mod_init_440 (by decide) ?_
  refine cX_ldc (i := 72) hx hb hown hCx.1 (by decide +kernel) d_Mod_init_442 ?_
  refine va_astqM (D := D) hx hb hK hP hD hS 2 2 rfl rfl (cX_any hCx.1 (show 72 < nS by decide) hS) (show vp_in 37 44 by unfold vp_in; decide) d_Mod_init_444 (fun H locs hP hD hS => ?_)
  obtain ⟨f2_38, hf2_38⟩ : ∃ z, z = va_up f2_37 (37 : Int32).toNatClampNeg (some (cd 0 (msI 37))) := ⟨_, rfl⟩
  have hP : va_P D vwCl [(h0, .inr (5, [.ref q1, .null, .int 0, .int 0, .int 0, .int 0, .int 0, .int 0, .int 0, .int 0, .null, .null, .null, .null, .null, .null])), (q1, .inl (ty 2, 35, .inr (.inr (.inr (.inr f1_35))))), (q2, .inl (ty 2, 44, .inr (.inr (.inr (.inr (va_up f2_37 (37 : Int32).toNatClampNeg (some (cd 0 (msI 37)))))))))] H := hP
  have hD : va_D A [(h0, .inr (5, [.ref q1, .null, .int 0, .int 0, .int 0, .int 0, .int 0, .int 0, .int 0, .int 0, .null, .null, .null, .null, .null, .null])), (q1, .inl (ty 2, 35, .inr (.inr (.inr (.inr f1_35))))), (q2, .inl (ty 2, 44, .inr (.inr (.inr (.inr (va_up f2_37 (37 : Int32).toNatClampNeg (some (cd 0 (msI 37)))))))))] := hD
  rw [← hf2_38] at hP hD
  have gf2_38 := up_step (F := fun j => cd 0 (msI j)) gf2_37 (by decide) hf2_38
  clear hf2_38 gf2_37
  refine lv_dup hx hb d_Mod_init_445 rfl ?_
  refine lv_bipush (v := 38) hx hb d_Mod_init_446 (by decide) ?_
  refine cX_ldc (i := 73) hx hb hown hCx.1 (by decide +kernel) d_Mod_init_448 ?_
  refine va_astqM (D := D) hx hb hK hP hD hS 2 2 rfl rfl (cX_any hCx.1 (show 73 < nS by decide) hS) (show vp_in 38 44 by unfold vp_in; decide) d_Mod_init_450 (fun H locs hP hD hS => ?_)
  obtain ⟨f2_39, hf2_39⟩ : ∃ z, z = va_up f2_38 (38 : Int32).toNatClampNeg (some (cd 0 (msI 38))) := ⟨_, rfl⟩
  have hP : va_P D vwCl [(h0, .inr (5, [.ref q1, .null, .int 0, .int 0, .int 0, .int 0, .int 0, .int 0, .int 0, .int 0, .null, .null, .null, .null, .null, .null])), (q1, .inl (ty 2, 35, .inr (.inr (.inr (.inr f1_35))))), (q2, .inl (ty 2, 44, .inr (.inr (.inr (.inr (va_up f2_38 (38 : Int32).toNatClampNeg (some (cd 0 (msI 38)))))))))] H := hP
  have hD : va_D A [(h0, .inr (5, [.ref q1, .null, .int 0, .int 0, .int 0, .int 0, .int 0, .int 0, .int 0, .int 0, .null, .null, .null, .null, .null, .null])), (q1, .inl (ty 2, 35, .inr (.inr (.inr (.inr f1_35))))), (q2, .inl (ty 2, 44, .inr (.inr (.inr (.inr (va_up f2_38 (38 : Int32).toNatClampNeg (some (cd 0 (msI 38)))))))))] := hD
  rw [← hf2_39] at hP hD
  have gf2_39 := up_step (F := fun j => cd 0 (msI j)) gf2_38 (by decide) hf2_39
  clear hf2_39 gf2_38
  refine lv_dup hx hb d_Mod_init_451 rfl ?_
  refine lv_bipush (v := 39) hx hb d_Mod_init_452 (by decide) ?_
  refine cX_ldc (i := 74) hx hb hown hCx.1 (by decide +kernel) d_Mod_init_454 ?_
  refine va_astqM (D := D) hx hb hK hP hD hS 2 2 rfl rfl (cX_any hCx.1 (show 74 < nS by decide) hS) (show vp_in 39 44 by unfold vp_in; decide) d_Mod_init_456 (fun H locs hP hD hS => ?_)
  obtain ⟨f2_40, hf2_40⟩ : ∃ z, z = va_up f2_39 (39 : Int32).toNatClampNeg (some (cd 0 (msI 39))) := ⟨_, rfl⟩
  have hP : va_P D vwCl [(h0, .inr (5, [.ref q1, .null, .int 0, .int 0, .int 0, .int 0, .int 0, .int 0, .int 0, .int 0, .null, .null, .null, .null, .null, .null])), (q1, .inl (ty 2, 35, .inr (.inr (.inr (.inr f1_35))))), (q2, .inl (ty 2, 44, .inr (.inr (.inr (.inr (va_up f2_39 (39 : Int32).toNatClampNeg (some (cd 0 (msI 39)))))))))] H := hP
  have hD : va_D A [(h0, .inr (5, [.ref q1, .null, .int 0, .int 0, .int 0, .int 0, .int 0, .int 0, .int 0, .int 0, .null, .null, .null, .null, .null, .null])), (q1, .inl (ty 2, 35, .inr (.inr (.inr (.inr f1_35))))), (q2, .inl (ty 2, 44, .inr (.inr (.inr (.inr (va_up f2_39 (39 : Int32).toNatClampNeg (some (cd 0 (msI 39)))))))))] := hD
  rw [← hf2_40] at hP hD
  have gf2_40 := up_step (F := fun j => cd 0 (msI j)) gf2_39 (by decide) hf2_40
  clear hf2_40 gf2_39
  refine lv_dup hx hb d_Mod_init_457 rfl ?_
  refine lv_bipush (v := 40) hx hb d_Mod_init_458 (by decide) ?_
  refine cX_ldc (i := 75) hx hb hown hCx.1 (by decide +kernel) d_Mod_init_460 ?_
  refine va_astqM (D := D) hx hb hK hP hD hS 2 2 rfl rfl (cX_any hCx.1 (show 75 < nS by decide) hS) (show vp_in 40 44 by unfold vp_in; decide) d_Mod_init_462 (fun H locs hP hD hS => ?_)
  obtain ⟨f2_41, hf2_41⟩ : ∃ z, z = va_up f2_40 (40 : Int32).toNatClampNeg (some (cd 0 (msI 40))) := ⟨_, rfl⟩
  have hP : va_P D vwCl [(h0, .inr (5, [.ref q1, .null, .int 0, .int 0, .int 0, .int 0, .int 0, .int 0, .int 0, .int 0, .null, .null, .null, .null, .null, .null])), (q1, .inl (ty 2, 35, .inr (.inr (.inr (.inr f1_35))))), (q2, .inl (ty 2, 44, .inr (.inr (.inr (.inr (va_up f2_40 (40 : Int32).toNatClampNeg (some (cd 0 (msI 40)))))))))] H := hP
  have hD : va_D A [(h0, .inr (5, [.ref q1, .null, .int 0, .int 0, .int 0, .int 0, .int 0, .int 0, .int 0, .int 0, .null, .null, .null, .null, .null, .null])), (q1, .inl (ty 2, 35, .inr (.inr (.inr (.inr f1_35))))), (q2, .inl (ty 2, 44, .inr (.inr (.inr (.inr (va_up f2_40 (40 : Int32).toNatClampNeg (some (cd 0 (msI 40)))))))))] := hD
  rw [← hf2_41] at hP hD
  have gf2_41 := up_step (F := fun j => cd 0 (msI j)) gf2_40 (by decide) hf2_41
  clear hf2_41 gf2_40
  refine lv_dup hx hb d_Mod_init_463 rfl ?_
  refine lv_bipush (v := 41) hx hb d_Mod_init_464 (by decide) ?_
  refine cX_ldc (i := 76) hx hb hown hCx.1 (by decide +kernel) d_Mod_init_466 ?_
  refine va_astqM (D := D) hx hb hK hP hD hS 2 2 rfl rfl (cX_any hCx.1 (show 76 < nS by decide) hS) (show vp_in 41 44 by unfold vp_in; decide) d_Mod_init_468 (fun H locs hP hD hS => ?_)
  obtain ⟨f2_42, hf2_42⟩ : ∃ z, z = va_up f2_41 (41 : Int32).toNatClampNeg (some (cd 0 (msI 41))) := ⟨_, rfl⟩
  have hP : va_P D vwCl [(h0, .inr (5, [.ref q1, .null, .int 0, .int 0, .int 0, .int 0, .int 0, .int 0, .int 0, .int 0, .null, .null, .null, .null, .null, .null])), (q1, .inl (ty 2, 35, .inr (.inr (.inr (.inr f1_35))))), (q2, .inl (ty 2, 44, .inr (.inr (.inr (.inr (va_up f2_41 (41 : Int32).toNatClampNeg (some (cd 0 (msI 41)))))))))] H := hP
  have hD : va_D A [(h0, .inr (5, [.ref q1, .null, .int 0, .int 0, .int 0, .int 0, .int 0, .int 0, .int 0, .int 0, .null, .null, .null, .null, .null, .null])), (q1, .inl (ty 2, 35, .inr (.inr (.inr (.inr f1_35))))), (q2, .inl (ty 2, 44, .inr (.inr (.inr (.inr (va_up f2_41 (41 : Int32).toNatClampNeg (some (cd 0 (msI 41)))))))))] := hD
  rw [← hf2_42] at hP hD
  have gf2_42 := up_step (F := fun j => cd 0 (msI j)) gf2_41 (by decide) hf2_42
  clear hf2_42 gf2_41
  refine lv_dup hx hb d_Mod_init_469 rfl ?_
  refine lv_bipush (v := 42) hx hb d_Mod_init_470 (by decide) ?_
  refine cX_ldc (i := 77) hx hb hown hCx.1 (by decide +kernel) d_Mod_init_472 ?_
  refine va_astqM (D := D) hx hb hK hP hD hS 2 2 rfl rfl (cX_any hCx.1 (show 77 < nS by decide) hS) (show vp_in 42 44 by unfold vp_in; decide) d_Mod_init_474 (fun H locs hP hD hS => ?_)
  obtain ⟨f2_43, hf2_43⟩ : ∃ z, z = va_up f2_42 (42 : Int32).toNatClampNeg (some (cd 0 (msI 42))) := ⟨_, rfl⟩
  have hP : va_P D vwCl [(h0, .inr (5, [.ref q1, .null, .int 0, .int 0, .int 0, .int 0, .int 0, .int 0, .int 0, .int 0, .null, .null, .null, .null, .null, .null])), (q1, .inl (ty 2, 35, .inr (.inr (.inr (.inr f1_35))))), (q2, .inl (ty 2, 44, .inr (.inr (.inr (.inr (va_up f2_42 (42 : Int32).toNatClampNeg (some (cd 0 (msI 42)))))))))] H := hP
  have hD : va_D A [(h0, .inr (5, [.ref q1, .null, .int 0, .int 0, .int 0, .int 0, .int 0, .int 0, .int 0, .int 0, .null, .null, .null, .null, .null, .null])), (q1, .inl (ty 2, 35, .inr (.inr (.inr (.inr f1_35))))), (q2, .inl (ty 2, 44, .inr (.inr (.inr (.inr (va_up f2_42 (42 : Int32).toNatClampNeg (some (cd 0 (msI 42)))))))))] := hD
  rw [← hf2_43] at hP hD
  have gf2_43 := up_step (F := fun j => cd 0 (msI j)) gf2_42 (by decide) hf2_43
  clear hf2_43 gf2_42
  refine lv_dup hx hb d_Mod_init_475 rfl ?_
  refine lv_bipush (v := 43) hx hb d_Mod_init_476 (by decide) ?_
  refine cX_ldc (i := 78) hx hb hown hCx.1 (by decide +kernel) d_Mod_init_478 ?_
  refine va_astqM (D := D) hx hb hK hP hD hS 2 2 rfl rfl (cX_any hCx.1 (show 78 < nS by decide) hS) (show vp_in 43 44 by unfold vp_in; decide) d_Mod_init_480 (fun H locs hP hD hS => ?_)
  obtain ⟨f2_44, hf2_44⟩ : ∃ z, z = va_up f2_43 (43 : Int32).toNatClampNeg (some (cd 0 (msI 43))) := ⟨_, rfl⟩
  have hP : va_P D vwCl [(h0, .inr (5, [.ref q1, .null, .int 0, .int 0, .int 0, .int 0, .int 0, .int 0, .int 0, .int 0, .null, .null, .null, .null, .null, .null])), (q1, .inl (ty 2, 35, .inr (.inr (.inr (.inr f1_35))))), (q2, .inl (ty 2, 44, .inr (.inr (.inr (.inr (va_up f2_43 (43 : Int32).toNatClampNeg (some (cd 0 (msI 43)))))))))] H := hP
  have hD : va_D A [(h0, .inr (5, [.ref q1, .null, .int 0, .int 0, .int 0, .int 0, .int 0, .int 0, .int 0, .int 0, .null, .null, .null, .null, .null, .null])), (q1, .inl (ty 2, 35, .inr (.inr (.inr (.inr f1_35))))), (q2, .inl (ty 2, 44, .inr (.inr (.inr (.inr (va_up f2_43 (43 : Int32).toNatClampNeg (some (cd 0 (msI 43)))))))))] := hD
  rw [← hf2_44] at hP hD
  have gf2_44 := up_step (F := fun j => cd 0 (msI j)) gf2_43 (by decide) hf2_44
  clear hf2_44 gf2_43
  refine va_putF (D := D) (ci := 5) (v := .ref q2) (ty := .array (.object "java/lang/String")) (C := R_Mod) (T := T_Mod) (N := 16) hx hb hts in_Mod t_Mod tk_Mod n_Mod hown hK hP hD hS 0 rfl rfl 1 (by decide) (hts _ q_f_Mod_173) (fun _ h9 => h9) rfl hin rfl (by decide +kernel) rfl rfl (Nat.le_of_ble_eq_true rfl) d_Mod_init_481 (fun H locs hP hD hS => ?_)
  have hP : va_P D vwCl [(h0, .inr (5, [.ref q1, .ref q2, .int 0, .int 0, .int 0, .int 0, .int 0, .int 0, .int 0, .int 0, .null, .null, .null, .null, .null, .null])), (q1, .inl (ty 2, 35, .inr (.inr (.inr (.inr f1_35))))), (q2, .inl (ty 2, 44, .inr (.inr (.inr (.inr f2_44)))))] H := hP
  have hD : va_D A [(h0, .inr (5, [.ref q1, .ref q2, .int 0, .int 0, .int 0, .int 0, .int 0, .int 0, .int 0, .int 0, .null, .null, .null, .null, .null, .null])), (q1, .inl (ty 2, 35, .inr (.inr (.inr (.inr f1_35))))), (q2, .inl (ty 2, 44, .inr (.inr (.inr (.inr f2_44)))))] := hD
  refine lv_aload_n hx hb d_Mod_init_484 rfl (lv_at hl 0 rfl) ?_
  refine lv_iconst (v := -1) hx hb d_Mod_init_485 (by decide) ?_
  refine va_put (D := D) (ci := 5) (v := .int (-1)) (ty := .int) (C := R_Mod) (T := T_Mod) (N := 16) hx hb hts in_Mod t_Mod tk_Mod n_Mod hown hK hP hD hS 0 rfl rfl 5 (by decide) (hts _ q_f_Mod_176) (fun _ h9 => h9) rfl (by decide +kernel) rfl rfl (Nat.le_of_ble_eq_true rfl) d_Mod_init_486 (fun H locs hP hD hS => ?_)
  have hP : va_P D vwCl [(h0, .inr (5, [.ref q1, .ref q2, .int 0, .int 0, .int 0, .int (-1), .int 0, .int 0, .int 0, .int 0, .null, .null, .null, .null, .null, .null])), (q1, .inl (ty 2, 35, .inr (.inr (.inr (.inr f1_35))))), (q2, .inl (ty 2, 44, .inr (.inr (.inr (.inr f2_44)))))] H := hP
  have hD : va_D A [(h0, .inr (5, [.ref q1, .ref q2, .int 0, .int 0, .int 0, .int (-1), .int 0, .int 0, .int 0, .int 0, .null, .null, .null, .null, .null, .null])), (q1, .inl (ty 2, 35, .inr (.inr (.inr (.inr f1_35))))), (q2, .inl (ty 2, 44, .inr (.inr (.inr (.inr f2_44)))))] := hD
  refine lv_aload_n hx hb d_Mod_init_489 rfl (lv_at hl 0 rfl) ?_
  refine lv_sipush (v := 4100) hx hb d_Mod_init_490 (by decide) ?_
  refine va_newa (atype := .int) (ty := .int) (N' := 4100) (a0 := (4100, .inl (fun _ => 0))) hx hb (hts _ q_a_int) rfl hK hP hD hS hA (fun _ => rfl) (by decide) (by decide) (Nat.le_of_ble_eq_true rfl) (by rw [hR]; exact Nat.le_of_ble_eq_true rfl) (by rw [hR]; exact Nat.le_of_ble_eq_true rfl) d_Mod_init_493 (fun q3 cA H hK1 hP hD hS => ?_)
  obtain rfl := k_arrI hK1
  refine va_putF (D := D) (ci := 5) (v := .ref q3) (ty := .array .int) (C := R_Mod) (T := T_Mod) (N := 16) hx hb hts in_Mod t_Mod tk_Mod n_Mod hown hK hP hD hS 0 rfl rfl 10 (by decide) (hts _ q_f_Mod_180) (fun _ h9 => h9) rfl hin rfl (by decide +kernel) rfl rfl (Nat.le_of_ble_eq_true rfl) d_Mod_init_495 (fun H locs hP hD hS => ?_)
  have hP : va_P D vwCl [(h0, .inr (5, [.ref q1, .ref q2, .int 0, .int 0, .int 0, .int (-1), .int 0, .int 0, .int 0, .int 0, .ref q3, .null, .null, .null, .null, .null])), (q1, .inl (ty 2, 35, .inr (.inr (.inr (.inr f1_35))))), (q2, .inl (ty 2, 44, .inr (.inr (.inr (.inr f2_44))))), (q3, .inl (ty 0, 4100, .inl (fun _ => 0)))] H := hP
  have hD : va_D A [(h0, .inr (5, [.ref q1, .ref q2, .int 0, .int 0, .int 0, .int (-1), .int 0, .int 0, .int 0, .int 0, .ref q3, .null, .null, .null, .null, .null])), (q1, .inl (ty 2, 35, .inr (.inr (.inr (.inr f1_35))))), (q2, .inl (ty 2, 44, .inr (.inr (.inr (.inr f2_44))))), (q3, .inl (ty 0, 4100, .inl (fun _ => 0)))] := hD
  refine lv_aload_n hx hb d_Mod_init_498 rfl (lv_at hl 0 rfl) ?_
  refine lv_sipush (v := 4100) hx hb d_Mod_init_499 (by decide) ?_
  refine va_newa (atype := .int) (ty := .int) (N' := 4100) (a0 := (4100, .inl (fun _ => 0))) hx hb (hts _ q_a_int) rfl hK hP hD hS hA (fun _ => rfl) (by decide) (by decide) (Nat.le_of_ble_eq_true rfl) (by rw [hR]; exact Nat.le_of_ble_eq_true rfl) (by rw [hR]; exact Nat.le_of_ble_eq_true rfl) d_Mod_init_502 (fun q4 cA H hK1 hP hD hS => ?_)
  obtain rfl := k_arrI hK1
  refine va_putF (D := D) (ci := 5) (v := .ref q4) (ty := .array .int) (C := R_Mod) (T := T_Mod) (N := 16) hx hb hts in_Mod t_Mod tk_Mod n_Mod hown hK hP hD hS 0 rfl rfl 11 (by decide) (hts _ q_f_Mod_184) (fun _ h9 => h9) rfl hin rfl (by decide +kernel) rfl rfl (Nat.le_of_ble_eq_true rfl) d_Mod_init_504 (fun H locs hP hD hS => ?_)
  have hP : va_P D vwCl [(h0, .inr (5, [.ref q1, .ref q2, .int 0, .int 0, .int 0, .int (-1), .int 0, .int 0, .int 0, .int 0, .ref q3, .ref q4, .null, .null, .null, .null])), (q1, .inl (ty 2, 35, .inr (.inr (.inr (.inr f1_35))))), (q2, .inl (ty 2, 44, .inr (.inr (.inr (.inr f2_44))))), (q3, .inl (ty 0, 4100, .inl (fun _ => 0))), (q4, .inl (ty 0, 4100, .inl (fun _ => 0)))] H := hP
  have hD : va_D A [(h0, .inr (5, [.ref q1, .ref q2, .int 0, .int 0, .int 0, .int (-1), .int 0, .int 0, .int 0, .int 0, .ref q3, .ref q4, .null, .null, .null, .null])), (q1, .inl (ty 2, 35, .inr (.inr (.inr (.inr f1_35))))), (q2, .inl (ty 2, 44, .inr (.inr (.inr (.inr f2_44))))), (q3, .inl (ty 0, 4100, .inl (fun _ => 0))), (q4, .inl (ty 0, 4100, .inl (fun _ => 0)))] := hD
  refine lv_aload_n hx hb d_Mod_init_507 rfl (lv_at hl 0 rfl) ?_
  refine lv_sipush (v := 9000) hx hb d_Mod_init_508 (by decide) ?_
  refine va_newa (atype := .int) (ty := .int) (N' := 9000) (a0 := (9000, .inl (fun _ => 0))) hx hb (hts _ q_a_int) rfl hK hP hD hS hA (fun _ => rfl) (by decide) (by decide) (Nat.le_of_ble_eq_true rfl) (by rw [hR]; exact Nat.le_of_ble_eq_true rfl) (by rw [hR]; exact Nat.le_of_ble_eq_true rfl) d_Mod_init_511 (fun q5 cA H hK1 hP hD hS => ?_)
  obtain rfl := k_arrI hK1
  refine va_putF (D := D) (ci := 5) (v := .ref q5) (ty := .array .int) (C := R_Mod) (T := T_Mod) (N := 16) hx hb hts in_Mod t_Mod tk_Mod n_Mod hown hK hP hD hS 0 rfl rfl 12 (by decide) (hts _ q_f_Mod_187) (fun _ h9 => h9) rfl hin rfl (by decide +kernel) rfl rfl (Nat.le_of_ble_eq_true rfl) d_Mod_init_513 (fun H locs hP hD hS => ?_)
  have hP : va_P D vwCl [(h0, .inr (5, [.ref q1, .ref q2, .int 0, .int 0, .int 0, .int (-1), .int 0, .int 0, .int 0, .int 0, .ref q3, .ref q4, .ref q5, .null, .null, .null])), (q1, .inl (ty 2, 35, .inr (.inr (.inr (.inr f1_35))))), (q2, .inl (ty 2, 44, .inr (.inr (.inr (.inr f2_44))))), (q3, .inl (ty 0, 4100, .inl (fun _ => 0))), (q4, .inl (ty 0, 4100, .inl (fun _ => 0))), (q5, .inl (ty 0, 9000, .inl (fun _ => 0)))] H := hP
  have hD : va_D A [(h0, .inr (5, [.ref q1, .ref q2, .int 0, .int 0, .int 0, .int (-1), .int 0, .int 0, .int 0, .int 0, .ref q3, .ref q4, .ref q5, .null, .null, .null])), (q1, .inl (ty 2, 35, .inr (.inr (.inr (.inr f1_35))))), (q2, .inl (ty 2, 44, .inr (.inr (.inr (.inr f2_44))))), (q3, .inl (ty 0, 4100, .inl (fun _ => 0))), (q4, .inl (ty 0, 4100, .inl (fun _ => 0))), (q5, .inl (ty 0, 9000, .inl (fun _ => 0)))] := hD
  refine lv_aload_n hx hb d_Mod_init_516 rfl (lv_at hl 0 rfl) ?_
  refine lv_sipush (v := 9000) hx hb d_Mod_init_517 (by decide) ?_
  refine va_newa (atype := .int) (ty := .int) (N' := 9000) (a0 := (9000, .inl (fun _ => 0))) hx hb (hts _ q_a_int) rfl hK hP hD hS hA (fun _ => rfl) (by decide) (by decide) (Nat.le_of_ble_eq_true rfl) (by rw [hR]; exact Nat.le_of_ble_eq_true rfl) (by rw [hR]; exact Nat.le_of_ble_eq_true rfl) d_Mod_init_520 (fun q6 cA H hK1 hP hD hS => ?_)
  obtain rfl := k_arrI hK1
  refine va_putF (D := D) (ci := 5) (v := .ref q6) (ty := .array .int) (C := R_Mod) (T := T_Mod) (N := 16) hx hb hts in_Mod t_Mod tk_Mod n_Mod hown hK hP hD hS 0 rfl rfl 13 (by decide) (hts _ q_f_Mod_190) (fun _ h9 => h9) rfl hin rfl (by decide +kernel) rfl rfl (Nat.le_of_ble_eq_true rfl) d_Mod_init_522 (fun H locs hP hD hS => ?_)
  have hP : va_P D vwCl [(h0, .inr (5, [.ref q1, .ref q2, .int 0, .int 0, .int 0, .int (-1), .int 0, .int 0, .int 0, .int 0, .ref q3, .ref q4, .ref q5, .ref q6, .null, .null])), (q1, .inl (ty 2, 35, .inr (.inr (.inr (.inr f1_35))))), (q2, .inl (ty 2, 44, .inr (.inr (.inr (.inr f2_44))))), (q3, .inl (ty 0, 4100, .inl (fun _ => 0))), (q4, .inl (ty 0, 4100, .inl (fun _ => 0))), (q5, .inl (ty 0, 9000, .inl (fun _ => 0))), (q6, .inl (ty 0, 9000, .inl (fun _ => 0)))] H := hP
  have hD : va_D A [(h0, .inr (5, [.ref q1, .ref q2, .int 0, .int 0, .int 0, .int (-1), .int 0, .int 0, .int 0, .int 0, .ref q3, .ref q4, .ref q5, .ref q6, .null, .null])), (q1, .inl (ty 2, 35, .inr (.inr (.inr (.inr f1_35))))), (q2, .inl (ty 2, 44, .inr (.inr (.inr (.inr f2_44))))), (q3, .inl (ty 0, 4100, .inl (fun _ => 0))), (q4, .inl (ty 0, 4100, .inl (fun _ => 0))), (q5, .inl (ty 0, 9000, .inl (fun _ => 0))), (q6, .inl (ty 0, 9000, .inl (fun _ => 0)))] := hD
  refine lv_aload_n hx hb d_Mod_init_525 rfl (lv_at hl 0 rfl) ?_
  refine lv_sipush (v := 9000) hx hb d_Mod_init_526 (by decide) ?_
  refine va_newa (atype := .int) (ty := .int) (N' := 9000) (a0 := (9000, .inl (fun _ => 0))) hx hb (hts _ q_a_int) rfl hK hP hD hS hA (fun _ => rfl) (by decide) (by decide) (Nat.le_of_ble_eq_true rfl) (by rw [hR]; exact Nat.le_of_ble_eq_true rfl) (by rw [hR]; exact Nat.le_of_ble_eq_true rfl) d_Mod_init_529 (fun q7 cA H hK1 hP hD hS => ?_)
  obtain rfl := k_arrI hK1
  refine va_putF (D := D) (ci := 5) (v := .ref q7) (ty := .array .int) (C := R_Mod) (T := T_Mod) (N := 16) hx hb hts in_Mod t_Mod tk_Mod n_Mod hown hK hP hD hS 0 rfl rfl 14 (by decide) (hts _ q_f_Mod_192) (fun _ h9 => h9) rfl hin rfl (by decide +kernel) rfl rfl (Nat.le_of_ble_eq_true rfl) d_Mod_init_531 (fun H locs hP hD hS => ?_)
  have hP : va_P D vwCl [(h0, .inr (5, [.ref q1, .ref q2, .int 0, .int 0, .int 0, .int (-1), .int 0, .int 0, .int 0, .int 0, .ref q3, .ref q4, .ref q5, .ref q6, .ref q7, .null])), (q1, .inl (ty 2, 35, .inr (.inr (.inr (.inr f1_35))))), (q2, .inl (ty 2, 44, .inr (.inr (.inr (.inr f2_44))))), (q3, .inl (ty 0, 4100, .inl (fun _ => 0))), (q4, .inl (ty 0, 4100, .inl (fun _ => 0))), (q5, .inl (ty 0, 9000, .inl (fun _ => 0))), (q6, .inl (ty 0, 9000, .inl (fun _ => 0))), (q7, .inl (ty 0, 9000, .inl (fun _ => 0)))] H := hP
  have hD : va_D A [(h0, .inr (5, [.ref q1, .ref q2, .int 0, .int 0, .int 0, .int (-1), .int 0, .int 0, .int 0, .int 0, .ref q3, .ref q4, .ref q5, .ref q6, .ref q7, .null])), (q1, .inl (ty 2, 35, .inr (.inr (.inr (.inr f1_35))))), (q2, .inl (ty 2, 44, .inr (.inr (.inr (.inr f2_44))))), (q3, .inl (ty 0, 4100, .inl (fun _ => 0))), (q4, .inl (ty 0, 4100, .inl (fun _ => 0))), (q5, .inl (ty 0, 9000, .inl (fun _ => 0))), (q6, .inl (ty 0, 9000, .inl (fun _ => 0))), (q7, .inl (ty 0, 9000, .inl (fun _ => 0)))] := hD
  refine lv_aload_n hx hb d_Mod_init_534 rfl (lv_at hl 0 rfl) ?_
  refine lv_sipush (v := 4098) hx hb d_Mod_init_535 (by decide) ?_
  refine va_newa (atype := .int) (ty := .int) (N' := 4098) (a0 := (4098, .inl (fun _ => 0))) hx hb (hts _ q_a_int) rfl hK hP hD hS hA (fun _ => rfl) (by decide) (by decide) (Nat.le_of_ble_eq_true rfl) (by rw [hR]; exact Nat.le_of_ble_eq_true rfl) (by rw [hR]; exact Nat.le_of_ble_eq_true rfl) d_Mod_init_538 (fun q8 cA H hK1 hP hD hS => ?_)
  obtain rfl := k_arrI hK1
  refine va_putF (D := D) (ci := 5) (v := .ref q8) (ty := .array .int) (C := R_Mod) (T := T_Mod) (N := 16) hx hb hts in_Mod t_Mod tk_Mod n_Mod hown hK hP hD hS 0 rfl rfl 15 (by decide) (hts _ q_f_Mod_195) (fun _ h9 => h9) rfl hin rfl (by decide +kernel) rfl rfl (Nat.le_of_ble_eq_true rfl) d_Mod_init_540 (fun H locs hP hD hS => ?_)
  have hP : va_P D vwCl [(h0, .inr (5, [.ref q1, .ref q2, .int 0, .int 0, .int 0, .int (-1), .int 0, .int 0, .int 0, .int 0, .ref q3, .ref q4, .ref q5, .ref q6, .ref q7, .ref q8])), (q1, .inl (ty 2, 35, .inr (.inr (.inr (.inr f1_35))))), (q2, .inl (ty 2, 44, .inr (.inr (.inr (.inr f2_44))))), (q3, .inl (ty 0, 4100, .inl (fun _ => 0))), (q4, .inl (ty 0, 4100, .inl (fun _ => 0))), (q5, .inl (ty 0, 9000, .inl (fun _ => 0))), (q6, .inl (ty 0, 9000, .inl (fun _ => 0))), (q7, .inl (ty 0, 9000, .inl (fun _ => 0))), (q8, .inl (ty 0, 4098, .inl (fun _ => 0)))] H := hP
  have hD : va_D A [(h0, .inr (5, [.ref q1, .ref q2, .int 0, .int 0, .int 0, .int (-1), .int 0, .int 0, .int 0, .int 0, .ref q3, .ref q4, .ref q5, .ref q6, .ref q7, .ref q8])), (q1, .inl (ty 2, 35, .inr (.inr (.inr (.inr f1_35))))), (q2, .inl (ty 2, 44, .inr (.inr (.inr (.inr f2_44))))), (q3, .inl (ty 0, 4100, .inl (fun _ => 0))), (q4, .inl (ty 0, 4100, .inl (fun _ => 0))), (q5, .inl (ty 0, 9000, .inl (fun _ => 0))), (q6, .inl (ty 0, 9000, .inl (fun _ => 0))), (q7, .inl (ty 0, 9000, .inl (fun _ => 0))), (q8, .inl (ty 0, 4098, .inl (fun _ => 0)))] := hD
  have hP := p_arr (q0 := 1) (g := fun k => some (cd 0 (mwI k))) hP rfl gf1_35
  have hD := va_D.set (p := 1) (e := .inl (ty 2, 35, .inr (.inr (.inr (.inr (fun k => some (cd 0 (mwI k)))))))) hD rfl
  have hP := p_arr (q0 := 2) (g := fun k => some (cd 0 (msI k))) hP rfl gf2_44
  have hD := va_D.set (p := 2) (e := .inl (ty 2, 44, .inr (.inr (.inr (.inr (fun k => some (cd 0 (msI k)))))))) hD rfl
  exact hret (some (fun k => match k with | 0 => h0 | 1 => q1 | 2 => q2 | 3 => q3 | 4 => q4 | 5 => q5 | 6 => q6 | 7 => q7 | _ => q8)) _ _ _ _ ⟨_, rfl, rfl⟩ hP hD hS d_Mod_init_543
