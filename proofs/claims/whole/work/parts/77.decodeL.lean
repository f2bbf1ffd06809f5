theorem d_LW_law_0 : decode code 0 = .ok (.new 7, 3) := by decide +kernel
theorem d_LW_law_3 : decode code 3 = .ok (.dup, 1) := by decide +kernel
theorem d_LW_law_4 : decode code 4 = .ok (.invokespecial 9, 3) := by decide +kernel
theorem d_LW_law_7 : decode code 7 = .ok (.astore_n 1, 1) := by decide +kernel
theorem d_LW_law_8 : decode code 8 = .ok (.new 10, 3) := by decide +kernel
theorem d_LW_law_11 : decode code 11 = .ok (.dup, 1) := by decide +kernel
theorem d_LW_law_12 : decode code 12 = .ok (.invokespecial 12, 3) := by decide +kernel
theorem d_LW_law_15 : decode code 15 = .ok (.astore_n 2, 1) := by decide +kernel
theorem d_LW_law_16 : decode code 16 = .ok (.iconst 0, 1) := by decide +kernel
theorem d_LW_law_17 : decode code 17 = .ok (.istore_n 3, 1) := by decide +kernel
theorem d_LW_law_18 : decode code 18 = .ok (.iload_n 3, 1) := by decide +kernel
theorem d_LW_law_19 : decode code 19 = .ok (.aload_n 0, 1) := by decide +kernel
theorem d_LW_law_20 : decode code 20 = .ok (.arraylength, 1) := by decide +kernel
theorem d_LW_law_21 : decode code 21 = .ok (.bipush 6, 2) := by decide +kernel
theorem d_LW_law_23 : decode code 23 = .ok (.isub, 1) := by decide +kernel
theorem d_LW_law_24 : decode code 24 = .ok (.if_icmp .gt 420, 3) := by decide +kernel
theorem d_LW_law_27 : decode code 27 = .ok (.aload_n 0, 1) := by decide +kernel
theorem d_LW_law_28 : decode code 28 = .ok (.iload_n 3, 1) := by decide +kernel
theorem d_LW_law_29 : decode code 29 = .ok (.iaload, 1) := by decide +kernel
theorem d_LW_law_30 : decode code 30 = .ok (.bipush 15, 2) := by decide +kernel
theorem d_LW_law_32 : decode code 32 = .ok (.iand, 1) := by decide +kernel
theorem d_LW_law_33 : decode code 33 = .ok (.tableswitch 405 0 10 #[59, 122, 145, 169, 192, 215, 258, 302, 326, 359, 382], 59) := by decide +kernel
theorem d_LW_law_92 : decode code 92 = .ok (.aload_n 1, 1) := by decide +kernel
theorem d_LW_law_93 : decode code 93 = .ok (.aload_n 0, 1) := by decide +kernel
theorem d_LW_law_94 : decode code 94 = .ok (.iload_n 3, 1) := by decide +kernel
theorem d_LW_law_95 : decode code 95 = .ok (.iconst 1, 1) := by decide +kernel
theorem d_LW_law_96 : decode code 96 = .ok (.iadd, 1) := by decide +kernel
theorem d_LW_law_97 : decode code 97 = .ok (.iaload, 1) := by decide +kernel
theorem d_LW_law_98 : decode code 98 = .ok (.aload_n 0, 1) := by decide +kernel
theorem d_LW_law_99 : decode code 99 = .ok (.iload_n 3, 1) := by decide +kernel
theorem d_LW_law_100 : decode code 100 = .ok (.iconst 2, 1) := by decide +kernel
theorem d_LW_law_101 : decode code 101 = .ok (.iadd, 1) := by decide +kernel
theorem d_LW_law_102 : decode code 102 = .ok (.iaload, 1) := by decide +kernel
theorem d_LW_law_103 : decode code 103 = .ok (.aload_n 0, 1) := by decide +kernel
theorem d_LW_law_104 : decode code 104 = .ok (.iload_n 3, 1) := by decide +kernel
theorem d_LW_law_105 : decode code 105 = .ok (.iconst 3, 1) := by decide +kernel
theorem d_LW_law_106 : decode code 106 = .ok (.iadd, 1) := by decide +kernel
theorem d_LW_law_107 : decode code 107 = .ok (.iaload, 1) := by decide +kernel
theorem d_LW_law_108 : decode code 108 = .ok (.aload_n 0, 1) := by decide +kernel
theorem d_LW_law_109 : decode code 109 = .ok (.iload_n 3, 1) := by decide +kernel
theorem d_LW_law_110 : decode code 110 = .ok (.iconst 4, 1) := by decide +kernel
theorem d_LW_law_111 : decode code 111 = .ok (.iadd, 1) := by decide +kernel
theorem d_LW_law_112 : decode code 112 = .ok (.iaload, 1) := by decide +kernel
theorem d_LW_law_113 : decode code 113 = .ok (.aload_n 0, 1) := by decide +kernel
theorem d_LW_law_114 : decode code 114 = .ok (.iload_n 3, 1) := by decide +kernel
theorem d_LW_law_115 : decode code 115 = .ok (.iconst 5, 1) := by decide +kernel
theorem d_LW_law_116 : decode code 116 = .ok (.iadd, 1) := by decide +kernel
theorem d_LW_law_117 : decode code 117 = .ok (.iaload, 1) := by decide +kernel
theorem d_LW_law_118 : decode code 118 = .ok (.invokevirtual 13, 3) := by decide +kernel
theorem d_LW_law_121 : decode code 121 = .ok (.aload_n 2, 1) := by decide +kernel
theorem d_LW_law_122 : decode code 122 = .ok (.aload_n 0, 1) := by decide +kernel
theorem d_LW_law_123 : decode code 123 = .ok (.iload_n 3, 1) := by decide +kernel
theorem d_LW_law_124 : decode code 124 = .ok (.iconst 1, 1) := by decide +kernel
theorem d_LW_law_125 : decode code 125 = .ok (.iadd, 1) := by decide +kernel
theorem d_LW_law_126 : decode code 126 = .ok (.iaload, 1) := by decide +kernel
theorem d_LW_law_127 : decode code 127 = .ok (.aload_n 0, 1) := by decide +kernel
theorem d_LW_law_128 : decode code 128 = .ok (.iload_n 3, 1) := by decide +kernel
theorem d_LW_law_129 : decode code 129 = .ok (.iconst 2, 1) := by decide +kernel
theorem d_LW_law_130 : decode code 130 = .ok (.iadd, 1) := by decide +kernel
theorem d_LW_law_131 : decode code 131 = .ok (.iaload, 1) := by decide +kernel
theorem d_LW_law_132 : decode code 132 = .ok (.aload_n 0, 1) := by decide +kernel
theorem d_LW_law_133 : decode code 133 = .ok (.iload_n 3, 1) := by decide +kernel
theorem d_LW_law_134 : decode code 134 = .ok (.iconst 3, 1) := by decide +kernel
theorem d_LW_law_135 : decode code 135 = .ok (.iadd, 1) := by decide +kernel
theorem d_LW_law_136 : decode code 136 = .ok (.iaload, 1) := by decide +kernel
theorem d_LW_law_137 : decode code 137 = .ok (.aload_n 0, 1) := by decide +kernel
theorem d_LW_law_138 : decode code 138 = .ok (.iload_n 3, 1) := by decide +kernel
theorem d_LW_law_139 : decode code 139 = .ok (.iconst 4, 1) := by decide +kernel
theorem d_LW_law_140 : decode code 140 = .ok (.iadd, 1) := by decide +kernel
theorem d_LW_law_141 : decode code 141 = .ok (.iaload, 1) := by decide +kernel
theorem d_LW_law_142 : decode code 142 = .ok (.aload_n 0, 1) := by decide +kernel
theorem d_LW_law_143 : decode code 143 = .ok (.iload_n 3, 1) := by decide +kernel
theorem d_LW_law_144 : decode code 144 = .ok (.iconst 5, 1) := by decide +kernel
theorem d_LW_law_145 : decode code 145 = .ok (.iadd, 1) := by decide +kernel
theorem d_LW_law_146 : decode code 146 = .ok (.iaload, 1) := by decide +kernel
theorem d_LW_law_147 : decode code 147 = .ok (.invokevirtual 17, 3) := by decide +kernel
theorem d_LW_law_150 : decode code 150 = .ok (.if_icmp .eq 288, 3) := by decide +kernel
theorem d_LW_law_153 : decode code 153 = .ok (.iconst 0, 1) := by decide +kernel
theorem d_LW_law_154 : decode code 154 = .ok (.ireturn, 1) := by decide +kernel
theorem d_LW_law_155 : decode code 155 = .ok (.aload_n 1, 1) := by decide +kernel
theorem d_LW_law_156 : decode code 156 = .ok (.aload_n 0, 1) := by decide +kernel
theorem d_LW_law_157 : decode code 157 = .ok (.iload_n 3, 1) := by decide +kernel
theorem d_LW_law_158 : decode code 158 = .ok (.iconst 1, 1) := by decide +kernel
theorem d_LW_law_159 : decode code 159 = .ok (.iadd, 1) := by decide +kernel
theorem d_LW_law_160 : decode code 160 = .ok (.iaload, 1) := by decide +kernel
theorem d_LW_law_161 : decode code 161 = .ok (.invokevirtual 18, 3) := by decide +kernel
theorem d_LW_law_164 : decode code 164 = .ok (.aload_n 2, 1) := by decide +kernel
theorem d_LW_law_165 : decode code 165 = .ok (.aload_n 0, 1) := by decide +kernel
theorem d_LW_law_166 : decode code 166 = .ok (.iload_n 3, 1) := by decide +kernel
theorem d_LW_law_167 : decode code 167 = .ok (.iconst 1, 1) := by decide +kernel
theorem d_LW_law_168 : decode code 168 = .ok (.iadd, 1) := by decide +kernel
theorem d_LW_law_169 : decode code 169 = .ok (.iaload, 1) := by decide +kernel
theorem d_LW_law_170 : decode code 170 = .ok (.invokevirtual 22, 3) := by decide +kernel
theorem d_LW_law_173 : decode code 173 = .ok (.if_icmp .eq 265, 3) := by decide +kernel
theorem d_LW_law_176 : decode code 176 = .ok (.iconst 0, 1) := by decide +kernel
theorem d_LW_law_177 : decode code 177 = .ok (.ireturn, 1) := by decide +kernel
theorem d_LW_law_178 : decode code 178 = .ok (.aload_n 1, 1) := by decide +kernel
theorem d_LW_law_179 : decode code 179 = .ok (.aload_n 0, 1) := by decide +kernel
theorem d_LW_law_180 : decode code 180 = .ok (.iload_n 3, 1) := by decide +kernel
theorem d_LW_law_181 : decode code 181 = .ok (.iconst 1, 1) := by decide +kernel
theorem d_LW_law_182 : decode code 182 = .ok (.iadd, 1) := by decide +kernel
theorem d_LW_law_183 : decode code 183 = .ok (.iaload, 1) := by decide +kernel
theorem d_LW_law_184 : decode code 184 = .ok (.invokevirtual 23, 3) := by decide +kernel
theorem d_LW_law_187 : decode code 187 = .ok (.aload_n 2, 1) := by decide +kernel
theorem d_LW_law_188 : decode code 188 = .ok (.aload_n 0, 1) := by decide +kernel
theorem d_LW_law_189 : decode code 189 = .ok (.iload_n 3, 1) := by decide +kernel
theorem d_LW_law_190 : decode code 190 = .ok (.iconst 1, 1) := by decide +kernel
theorem d_LW_law_191 : decode code 191 = .ok (.iadd, 1) := by decide +kernel
theorem d_LW_law_192 : decode code 192 = .ok (.iaload, 1) := by decide +kernel
theorem d_LW_law_193 : decode code 193 = .ok (.invokevirtual 27, 3) := by decide +kernel
theorem d_LW_law_196 : decode code 196 = .ok (.lcmp, 1) := by decide +kernel
theorem d_LW_law_197 : decode code 197 = .ok (.ifCond .eq 241, 3) := by decide +kernel
theorem d_LW_law_200 : decode code 200 = .ok (.iconst 0, 1) := by decide +kernel
theorem d_LW_law_201 : decode code 201 = .ok (.ireturn, 1) := by decide +kernel
theorem d_LW_law_202 : decode code 202 = .ok (.aload_n 1, 1) := by decide +kernel
theorem d_LW_law_203 : decode code 203 = .ok (.aload_n 0, 1) := by decide +kernel
theorem d_LW_law_204 : decode code 204 = .ok (.iload_n 3, 1) := by decide +kernel
theorem d_LW_law_205 : decode code 205 = .ok (.iconst 1, 1) := by decide +kernel
theorem d_LW_law_206 : decode code 206 = .ok (.iadd, 1) := by decide +kernel
theorem d_LW_law_207 : decode code 207 = .ok (.iaload, 1) := by decide +kernel
theorem d_LW_law_208 : decode code 208 = .ok (.invokevirtual 28, 3) := by decide +kernel
theorem d_LW_law_211 : decode code 211 = .ok (.aload_n 2, 1) := by decide +kernel
theorem d_LW_law_212 : decode code 212 = .ok (.aload_n 0, 1) := by decide +kernel
theorem d_LW_law_213 : decode code 213 = .ok (.iload_n 3, 1) := by decide +kernel
theorem d_LW_law_214 : decode code 214 = .ok (.iconst 1, 1) := by decide +kernel
theorem d_LW_law_215 : decode code 215 = .ok (.iadd, 1) := by decide +kernel
theorem d_LW_law_216 : decode code 216 = .ok (.iaload, 1) := by decide +kernel
theorem d_LW_law_217 : decode code 217 = .ok (.invokevirtual 31, 3) := by decide +kernel
theorem d_LW_law_220 : decode code 220 = .ok (.if_icmp .eq 218, 3) := by decide +kernel
theorem d_LW_law_223 : decode code 223 = .ok (.iconst 0, 1) := by decide +kernel
theorem d_LW_law_224 : decode code 224 = .ok (.ireturn, 1) := by decide +kernel
theorem d_LW_law_225 : decode code 225 = .ok (.aload_n 1, 1) := by decide +kernel
theorem d_LW_law_226 : decode code 226 = .ok (.aload_n 0, 1) := by decide +kernel
theorem d_LW_law_227 : decode code 227 = .ok (.iload_n 3, 1) := by decide +kernel
theorem d_LW_law_228 : decode code 228 = .ok (.iconst 1, 1) := by decide +kernel
theorem d_LW_law_229 : decode code 229 = .ok (.iadd, 1) := by decide +kernel
theorem d_LW_law_230 : decode code 230 = .ok (.iaload, 1) := by decide +kernel
theorem d_LW_law_231 : decode code 231 = .ok (.invokevirtual 32, 3) := by decide +kernel
theorem d_LW_law_234 : decode code 234 = .ok (.aload_n 2, 1) := by decide +kernel
theorem d_LW_law_235 : decode code 235 = .ok (.aload_n 0, 1) := by decide +kernel
theorem d_LW_law_236 : decode code 236 = .ok (.iload_n 3, 1) := by decide +kernel
theorem d_LW_law_237 : decode code 237 = .ok (.iconst 1, 1) := by decide +kernel
theorem d_LW_law_238 : decode code 238 = .ok (.iadd, 1) := by decide +kernel
theorem d_LW_law_239 : decode code 239 = .ok (.iaload, 1) := by decide +kernel
theorem d_LW_law_240 : decode code 240 = .ok (.invokevirtual 35, 3) := by decide +kernel
theorem d_LW_law_243 : decode code 243 = .ok (.if_icmp .eq 195, 3) := by decide +kernel
theorem d_LW_law_246 : decode code 246 = .ok (.iconst 0, 1) := by decide +kernel
theorem d_LW_law_247 : decode code 247 = .ok (.ireturn, 1) := by decide +kernel
theorem d_LW_law_248 : decode code 248 = .ok (.aload_n 1, 1) := by decide +kernel
theorem d_LW_law_249 : decode code 249 = .ok (.aload_n 0, 1) := by decide +kernel
theorem d_LW_law_250 : decode code 250 = .ok (.iload_n 3, 1) := by decide +kernel
theorem d_LW_law_251 : decode code 251 = .ok (.iconst 1, 1) := by decide +kernel
theorem d_LW_law_252 : decode code 252 = .ok (.iadd, 1) := by decide +kernel
theorem d_LW_law_253 : decode code 253 = .ok (.iaload, 1) := by decide +kernel
theorem d_LW_law_254 : decode code 254 = .ok (.aload_n 0, 1) := by decide +kernel
theorem d_LW_law_255 : decode code 255 = .ok (.iload_n 3, 1) := by decide +kernel
theorem d_LW_law_256 : decode code 256 = .ok (.iconst 2, 1) := by decide +kernel
theorem d_LW_law_257 : decode code 257 = .ok (.iadd, 1) := by decide +kernel
theorem d_LW_law_258 : decode code 258 = .ok (.iaload, 1) := by decide +kernel
theorem d_LW_law_259 : decode code 259 = .ok (.aload_n 0, 1) := by decide +kernel
theorem d_LW_law_260 : decode code 260 = .ok (.iload_n 3, 1) := by decide +kernel
theorem d_LW_law_261 : decode code 261 = .ok (.iconst 3, 1) := by decide +kernel
theorem d_LW_law_262 : decode code 262 = .ok (.iadd, 1) := by decide +kernel
theorem d_LW_law_263 : decode code 263 = .ok (.iaload, 1) := by decide +kernel
theorem d_LW_law_264 : decode code 264 = .ok (.invokevirtual 36, 3) := by decide +kernel
theorem d_LW_law_267 : decode code 267 = .ok (.aload_n 2, 1) := by decide +kernel
theorem d_LW_law_268 : decode code 268 = .ok (.aload_n 0, 1) := by decide +kernel
theorem d_LW_law_269 : decode code 269 = .ok (.iload_n 3, 1) := by decide +kernel
theorem d_LW_law_270 : decode code 270 = .ok (.iconst 1, 1) := by decide +kernel
theorem d_LW_law_271 : decode code 271 = .ok (.iadd, 1) := by decide +kernel
theorem d_LW_law_272 : decode code 272 = .ok (.iaload, 1) := by decide +kernel
theorem d_LW_law_273 : decode code 273 = .ok (.aload_n 0, 1) := by decide +kernel
theorem d_LW_law_274 : decode code 274 = .ok (.iload_n 3, 1) := by decide +kernel
theorem d_LW_law_275 : decode code 275 = .ok (.iconst 2, 1) := by decide +kernel
theorem d_LW_law_276 : decode code 276 = .ok (.iadd, 1) := by decide +kernel
theorem d_LW_law_277 : decode code 277 = .ok (.iaload, 1) := by decide +kernel
theorem d_LW_law_278 : decode code 278 = .ok (.aload_n 0, 1) := by decide +kernel
theorem d_LW_law_279 : decode code 279 = .ok (.iload_n 3, 1) := by decide +kernel
theorem d_LW_law_280 : decode code 280 = .ok (.iconst 3, 1) := by decide +kernel
theorem d_LW_law_281 : decode code 281 = .ok (.iadd, 1) := by decide +kernel
theorem d_LW_law_282 : decode code 282 = .ok (.iaload, 1) := by decide +kernel
theorem d_LW_law_283 : decode code 283 = .ok (.invokevirtual 40, 3) := by decide +kernel
theorem d_LW_law_286 : decode code 286 = .ok (.if_icmp .eq 152, 3) := by decide +kernel
theorem d_LW_law_289 : decode code 289 = .ok (.iconst 0, 1) := by decide +kernel
theorem d_LW_law_290 : decode code 290 = .ok (.ireturn, 1) := by decide +kernel
theorem d_LW_law_291 : decode code 291 = .ok (.aload_n 1, 1) := by decide +kernel
theorem d_LW_law_292 : decode code 292 = .ok (.aload_n 0, 1) := by decide +kernel
theorem d_LW_law_293 : decode code 293 = .ok (.iload_n 3, 1) := by decide +kernel
theorem d_LW_law_294 : decode code 294 = .ok (.iconst 1, 1) := by decide +kernel
theorem d_LW_law_295 : decode code 295 = .ok (.iadd, 1) := by decide +kernel
theorem d_LW_law_296 : decode code 296 = .ok (.iaload, 1) := by decide +kernel
theorem d_LW_law_297 : decode code 297 = .ok (.aload_n 0, 1) := by decide +kernel
theorem d_LW_law_298 : decode code 298 = .ok (.iload_n 3, 1) := by decide +kernel
theorem d_LW_law_299 : decode code 299 = .ok (.iconst 2, 1) := by decide +kernel
theorem d_LW_law_300 : decode code 300 = .ok (.iadd, 1) := by decide +kernel
theorem d_LW_law_301 : decode code 301 = .ok (.iaload, 1) := by decide +kernel
theorem d_LW_law_302 : decode code 302 = .ok (.aload_n 0, 1) := by decide +kernel
theorem d_LW_law_303 : decode code 303 = .ok (.iload_n 3, 1) := by decide +kernel
theorem d_LW_law_304 : decode code 304 = .ok (.iconst 3, 1) := by decide +kernel
theorem d_LW_law_305 : decode code 305 = .ok (.iadd, 1) := by decide +kernel
theorem d_LW_law_306 : decode code 306 = .ok (.iaload, 1) := by decide +kernel
theorem d_LW_law_307 : decode code 307 = .ok (.invokevirtual 41, 3) := by decide +kernel
theorem d_LW_law_310 : decode code 310 = .ok (.aload_n 2, 1) := by decide +kernel
theorem d_LW_law_311 : decode code 311 = .ok (.aload_n 0, 1) := by decide +kernel
theorem d_LW_law_312 : decode code 312 = .ok (.iload_n 3, 1) := by decide +kernel
theorem d_LW_law_313 : decode code 313 = .ok (.iconst 1, 1) := by decide +kernel
theorem d_LW_law_314 : decode code 314 = .ok (.iadd, 1) := by decide +kernel
theorem d_LW_law_315 : decode code 315 = .ok (.iaload, 1) := by decide +kernel
theorem d_LW_law_316 : decode code 316 = .ok (.aload_n 0, 1) := by decide +kernel
theorem d_LW_law_317 : decode code 317 = .ok (.iload_n 3, 1) := by decide +kernel
theorem d_LW_law_318 : decode code 318 = .ok (.iconst 2, 1) := by decide +kernel
theorem d_LW_law_319 : decode code 319 = .ok (.iadd, 1) := by decide +kernel
theorem d_LW_law_320 : decode code 320 = .ok (.iaload, 1) := by decide +kernel
theorem d_LW_law_321 : decode code 321 = .ok (.aload_n 0, 1) := by decide +kernel
theorem d_LW_law_322 : decode code 322 = .ok (.iload_n 3, 1) := by decide +kernel
theorem d_LW_law_323 : decode code 323 = .ok (.iconst 3, 1) := by decide +kernel
theorem d_LW_law_324 : decode code 324 = .ok (.iadd, 1) := by decide +kernel
theorem d_LW_law_325 : decode code 325 = .ok (.iaload, 1) := by decide +kernel
theorem d_LW_law_326 : decode code 326 = .ok (.invokevirtual 45, 3) := by decide +kernel
theorem d_LW_law_329 : decode code 329 = .ok (.lcmp, 1) := by decide +kernel
theorem d_LW_law_330 : decode code 330 = .ok (.ifCond .eq 108, 3) := by decide +kernel
theorem d_LW_law_333 : decode code 333 = .ok (.iconst 0, 1) := by decide +kernel
theorem d_LW_law_334 : decode code 334 = .ok (.ireturn, 1) := by decide +kernel
theorem d_LW_law_335 : decode code 335 = .ok (.aload_n 1, 1) := by decide +kernel
theorem d_LW_law_336 : decode code 336 = .ok (.aload_n 0, 1) := by decide +kernel
theorem d_LW_law_337 : decode code 337 = .ok (.iload_n 3, 1) := by decide +kernel
theorem d_LW_law_338 : decode code 338 = .ok (.iconst 1, 1) := by decide +kernel
theorem d_LW_law_339 : decode code 339 = .ok (.iadd, 1) := by decide +kernel
theorem d_LW_law_340 : decode code 340 = .ok (.iaload, 1) := by decide +kernel
theorem d_LW_law_341 : decode code 341 = .ok (.invokevirtual 46, 3) := by decide +kernel
theorem d_LW_law_344 : decode code 344 = .ok (.aload_n 2, 1) := by decide +kernel
theorem d_LW_law_345 : decode code 345 = .ok (.aload_n 0, 1) := by decide +kernel
theorem d_LW_law_346 : decode code 346 = .ok (.iload_n 3, 1) := by decide +kernel
theorem d_LW_law_347 : decode code 347 = .ok (.iconst 1, 1) := by decide +kernel
theorem d_LW_law_348 : decode code 348 = .ok (.iadd, 1) := by decide +kernel
theorem d_LW_law_349 : decode code 349 = .ok (.iaload, 1) := by decide +kernel
theorem d_LW_law_350 : decode code 350 = .ok (.invokevirtual 49, 3) := by decide +kernel
theorem d_LW_law_353 : decode code 353 = .ok (.lcmp, 1) := by decide +kernel
theorem d_LW_law_354 : decode code 354 = .ok (.ifCond .eq 84, 3) := by decide +kernel
theorem d_LW_law_357 : decode code 357 = .ok (.iconst 0, 1) := by decide +kernel
theorem d_LW_law_358 : decode code 358 = .ok (.ireturn, 1) := by decide +kernel
theorem d_LW_law_359 : decode code 359 = .ok (.aload_n 1, 1) := by decide +kernel
theorem d_LW_law_360 : decode code 360 = .ok (.aload_n 0, 1) := by decide +kernel
theorem d_LW_law_361 : decode code 361 = .ok (.iload_n 3, 1) := by decide +kernel
theorem d_LW_law_362 : decode code 362 = .ok (.iconst 1, 1) := by decide +kernel
theorem d_LW_law_363 : decode code 363 = .ok (.iadd, 1) := by decide +kernel
theorem d_LW_law_364 : decode code 364 = .ok (.iaload, 1) := by decide +kernel
theorem d_LW_law_365 : decode code 365 = .ok (.aload_n 0, 1) := by decide +kernel
theorem d_LW_law_366 : decode code 366 = .ok (.iload_n 3, 1) := by decide +kernel
theorem d_LW_law_367 : decode code 367 = .ok (.iconst 2, 1) := by decide +kernel
theorem d_LW_law_368 : decode code 368 = .ok (.iadd, 1) := by decide +kernel
theorem d_LW_law_369 : decode code 369 = .ok (.iaload, 1) := by decide +kernel
theorem d_LW_law_370 : decode code 370 = .ok (.invokevirtual 50, 3) := by decide +kernel
theorem d_LW_law_373 : decode code 373 = .ok (.aload_n 2, 1) := by decide +kernel
theorem d_LW_law_374 : decode code 374 = .ok (.aload_n 0, 1) := by decide +kernel
theorem d_LW_law_375 : decode code 375 = .ok (.iload_n 3, 1) := by decide +kernel
theorem d_LW_law_376 : decode code 376 = .ok (.iconst 1, 1) := by decide +kernel
theorem d_LW_law_377 : decode code 377 = .ok (.iadd, 1) := by decide +kernel
theorem d_LW_law_378 : decode code 378 = .ok (.iaload, 1) := by decide +kernel
theorem d_LW_law_379 : decode code 379 = .ok (.aload_n 0, 1) := by decide +kernel
theorem d_LW_law_380 : decode code 380 = .ok (.iload_n 3, 1) := by decide +kernel
theorem d_LW_law_381 : decode code 381 = .ok (.iconst 2, 1) := by decide +kernel
theorem d_LW_law_382 : decode code 382 = .ok (.iadd, 1) := by decide +kernel
theorem d_LW_law_383 : decode code 383 = .ok (.iaload, 1) := by decide +kernel
theorem d_LW_law_384 : decode code 384 = .ok (.invokevirtual 54, 3) := by decide +kernel
theorem d_LW_law_387 : decode code 387 = .ok (.if_icmp .eq 51, 3) := by decide +kernel
theorem d_LW_law_390 : decode code 390 = .ok (.iconst 0, 1) := by decide +kernel
theorem d_LW_law_391 : decode code 391 = .ok (.ireturn, 1) := by decide +kernel
theorem d_LW_law_392 : decode code 392 = .ok (.aload_n 1, 1) := by decide +kernel
theorem d_LW_law_393 : decode code 393 = .ok (.aload_n 0, 1) := by decide +kernel
theorem d_LW_law_394 : decode code 394 = .ok (.iload_n 3, 1) := by decide +kernel
theorem d_LW_law_395 : decode code 395 = .ok (.iconst 1, 1) := by decide +kernel
theorem d_LW_law_396 : decode code 396 = .ok (.iadd, 1) := by decide +kernel
theorem d_LW_law_397 : decode code 397 = .ok (.iaload, 1) := by decide +kernel
theorem d_LW_law_398 : decode code 398 = .ok (.invokevirtual 55, 3) := by decide +kernel
theorem d_LW_law_401 : decode code 401 = .ok (.aload_n 2, 1) := by decide +kernel
theorem d_LW_law_402 : decode code 402 = .ok (.aload_n 0, 1) := by decide +kernel
theorem d_LW_law_403 : decode code 403 = .ok (.iload_n 3, 1) := by decide +kernel
theorem d_LW_law_404 : decode code 404 = .ok (.iconst 1, 1) := by decide +kernel
theorem d_LW_law_405 : decode code 405 = .ok (.iadd, 1) := by decide +kernel
theorem d_LW_law_406 : decode code 406 = .ok (.iaload, 1) := by decide +kernel
theorem d_LW_law_407 : decode code 407 = .ok (.invokevirtual 59, 3) := by decide +kernel
theorem d_LW_law_410 : decode code 410 = .ok (.if_icmp .eq 28, 3) := by decide +kernel
theorem d_LW_law_413 : decode code 413 = .ok (.iconst 0, 1) := by decide +kernel
theorem d_LW_law_414 : decode code 414 = .ok (.ireturn, 1) := by decide +kernel
theorem d_LW_law_415 : decode code 415 = .ok (.aload_n 1, 1) := by decide +kernel
theorem d_LW_law_416 : decode code 416 = .ok (.aload_n 0, 1) := by decide +kernel
theorem d_LW_law_417 : decode code 417 = .ok (.iload_n 3, 1) := by decide +kernel
theorem d_LW_law_418 : decode code 418 = .ok (.iconst 1, 1) := by decide +kernel
theorem d_LW_law_419 : decode code 419 = .ok (.iadd, 1) := by decide +kernel
theorem d_LW_law_420 : decode code 420 = .ok (.iaload, 1) := by decide +kernel
theorem d_LW_law_421 : decode code 421 = .ok (.invokevirtual 60, 3) := by decide +kernel
theorem d_LW_law_424 : decode code 424 = .ok (.aload_n 2, 1) := by decide +kernel
theorem d_LW_law_425 : decode code 425 = .ok (.aload_n 0, 1) := by decide +kernel
theorem d_LW_law_426 : decode code 426 = .ok (.iload_n 3, 1) := by decide +kernel
theorem d_LW_law_427 : decode code 427 = .ok (.iconst 1, 1) := by decide +kernel
theorem d_LW_law_428 : decode code 428 = .ok (.iadd, 1) := by decide +kernel
theorem d_LW_law_429 : decode code 429 = .ok (.iaload, 1) := by decide +kernel
theorem d_LW_law_430 : decode code 430 = .ok (.invokevirtual 63, 3) := by decide +kernel
theorem d_LW_law_433 : decode code 433 = .ok (.if_icmp .eq 5, 3) := by decide +kernel
theorem d_LW_law_436 : decode code 436 = .ok (.iconst 0, 1) := by decide +kernel
theorem d_LW_law_437 : decode code 437 = .ok (.ireturn, 1) := by decide +kernel
theorem d_LW_law_438 : decode code 438 = .ok (.iinc 3 6, 3) := by decide +kernel
theorem d_LW_law_441 : decode code 441 = .ok (.goto (-423), 3) := by decide +kernel
theorem d_LW_law_444 : decode code 444 = .ok (.iconst 1, 1) := by decide +kernel
theorem d_LW_law_445 : decode code 445 = .ok (.ireturn, 1) := by decide +kernel
