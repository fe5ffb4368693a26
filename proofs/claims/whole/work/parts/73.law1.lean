/-! the law's steps -/
theorem dL_law_0 : decode cL_law 0 = .ok (.new 7, 3) := by decide +kernel
theorem dL_law_3 : decode cL_law 3 = .ok (.dup, 1) := by decide +kernel
theorem dL_law_4 : decode cL_law 4 = .ok (.invokespecial 9, 3) := by decide +kernel
theorem dL_law_7 : decode cL_law 7 = .ok (.astore_n 1, 1) := by decide +kernel
theorem dL_law_8 : decode cL_law 8 = .ok (.new 10, 3) := by decide +kernel
theorem dL_law_11 : decode cL_law 11 = .ok (.dup, 1) := by decide +kernel
theorem dL_law_12 : decode cL_law 12 = .ok (.invokespecial 12, 3) := by decide +kernel
theorem dL_law_15 : decode cL_law 15 = .ok (.astore_n 2, 1) := by decide +kernel
theorem dL_law_16 : decode cL_law 16 = .ok (.iconst 0, 1) := by decide +kernel
theorem dL_law_17 : decode cL_law 17 = .ok (.istore_n 3, 1) := by decide +kernel
theorem dL_law_18 : decode cL_law 18 = .ok (.iload_n 3, 1) := by decide +kernel
theorem dL_law_19 : decode cL_law 19 = .ok (.aload_n 0, 1) := by decide +kernel
theorem dL_law_20 : decode cL_law 20 = .ok (.arraylength, 1) := by decide +kernel
theorem dL_law_21 : decode cL_law 21 = .ok (.bipush 7, 2) := by decide +kernel
theorem dL_law_23 : decode cL_law 23 = .ok (.isub, 1) := by decide +kernel
theorem dL_law_24 : decode cL_law 24 = .ok (.if_icmp .gt 643, 3) := by decide +kernel
theorem dL_law_27 : decode cL_law 27 = .ok (.aload_n 0, 1) := by decide +kernel
theorem dL_law_28 : decode cL_law 28 = .ok (.iload_n 3, 1) := by decide +kernel
theorem dL_law_29 : decode cL_law 29 = .ok (.iaload, 1) := by decide +kernel
theorem dL_law_30 : decode cL_law 30 = .ok (.bipush 15, 2) := by decide +kernel
theorem dL_law_32 : decode cL_law 32 = .ok (.iand, 1) := by decide +kernel
theorem dL_law_33 : decode cL_law 33 = .ok (.tableswitch 628 0 12 #[67, 100, 173, 207, 230, 305, 400, 433, 456, 519, 568, 582, 605], 67) := by decide +kernel
theorem dL_law_100 : decode cL_law 100 = .ok (.aload_n 1, 1) := by decide +kernel
theorem dL_law_101 : decode cL_law 101 = .ok (.aload_n 0, 1) := by decide +kernel
theorem dL_law_102 : decode cL_law 102 = .ok (.iload_n 3, 1) := by decide +kernel
theorem dL_law_103 : decode cL_law 103 = .ok (.iconst 1, 1) := by decide +kernel
theorem dL_law_104 : decode cL_law 104 = .ok (.iadd, 1) := by decide +kernel
theorem dL_law_105 : decode cL_law 105 = .ok (.iaload, 1) := by decide +kernel
theorem dL_law_106 : decode cL_law 106 = .ok (.aload_n 0, 1) := by decide +kernel
theorem dL_law_107 : decode cL_law 107 = .ok (.iload_n 3, 1) := by decide +kernel
theorem dL_law_108 : decode cL_law 108 = .ok (.iconst 2, 1) := by decide +kernel
theorem dL_law_109 : decode cL_law 109 = .ok (.iadd, 1) := by decide +kernel
theorem dL_law_110 : decode cL_law 110 = .ok (.iaload, 1) := by decide +kernel
theorem dL_law_111 : decode cL_law 111 = .ok (.invokevirtual 13, 3) := by decide +kernel
theorem dL_law_114 : decode cL_law 114 = .ok (.aload_n 2, 1) := by decide +kernel
theorem dL_law_115 : decode cL_law 115 = .ok (.aload_n 0, 1) := by decide +kernel
theorem dL_law_116 : decode cL_law 116 = .ok (.iload_n 3, 1) := by decide +kernel
theorem dL_law_117 : decode cL_law 117 = .ok (.iconst 1, 1) := by decide +kernel
theorem dL_law_118 : decode cL_law 118 = .ok (.iadd, 1) := by decide +kernel
theorem dL_law_119 : decode cL_law 119 = .ok (.iaload, 1) := by decide +kernel
theorem dL_law_120 : decode cL_law 120 = .ok (.aload_n 0, 1) := by decide +kernel
theorem dL_law_121 : decode cL_law 121 = .ok (.iload_n 3, 1) := by decide +kernel
theorem dL_law_122 : decode cL_law 122 = .ok (.iconst 2, 1) := by decide +kernel
theorem dL_law_123 : decode cL_law 123 = .ok (.iadd, 1) := by decide +kernel
theorem dL_law_124 : decode cL_law 124 = .ok (.iaload, 1) := by decide +kernel
theorem dL_law_125 : decode cL_law 125 = .ok (.invokevirtual 17, 3) := by decide +kernel
theorem dL_law_128 : decode cL_law 128 = .ok (.if_icmp .eq 533, 3) := by decide +kernel
theorem dL_law_131 : decode cL_law 131 = .ok (.iconst 0, 1) := by decide +kernel
theorem dL_law_132 : decode cL_law 132 = .ok (.ireturn, 1) := by decide +kernel
theorem dL_law_133 : decode cL_law 133 = .ok (.aload_n 1, 1) := by decide +kernel
theorem dL_law_134 : decode cL_law 134 = .ok (.aload_n 0, 1) := by decide +kernel
theorem dL_law_135 : decode cL_law 135 = .ok (.iload_n 3, 1) := by decide +kernel
theorem dL_law_136 : decode cL_law 136 = .ok (.iconst 1, 1) := by decide +kernel
theorem dL_law_137 : decode cL_law 137 = .ok (.iadd, 1) := by decide +kernel
theorem dL_law_138 : decode cL_law 138 = .ok (.iaload, 1) := by decide +kernel
theorem dL_law_139 : decode cL_law 139 = .ok (.aload_n 0, 1) := by decide +kernel
theorem dL_law_140 : decode cL_law 140 = .ok (.iload_n 3, 1) := by decide +kernel
theorem dL_law_141 : decode cL_law 141 = .ok (.iconst 2, 1) := by decide +kernel
theorem dL_law_142 : decode cL_law 142 = .ok (.iadd, 1) := by decide +kernel
theorem dL_law_143 : decode cL_law 143 = .ok (.iaload, 1) := by decide +kernel
theorem dL_law_144 : decode cL_law 144 = .ok (.aload_n 0, 1) := by decide +kernel
theorem dL_law_145 : decode cL_law 145 = .ok (.iload_n 3, 1) := by decide +kernel
theorem dL_law_146 : decode cL_law 146 = .ok (.iconst 3, 1) := by decide +kernel
theorem dL_law_147 : decode cL_law 147 = .ok (.iadd, 1) := by decide +kernel
theorem dL_law_148 : decode cL_law 148 = .ok (.iaload, 1) := by decide +kernel
theorem dL_law_149 : decode cL_law 149 = .ok (.i2l, 1) := by decide +kernel
theorem dL_law_150 : decode cL_law 150 = .ok (.bipush 32, 2) := by decide +kernel
theorem dL_law_152 : decode cL_law 152 = .ok (.lshl, 1) := by decide +kernel
theorem dL_law_153 : decode cL_law 153 = .ok (.aload_n 0, 1) := by decide +kernel
theorem dL_law_154 : decode cL_law 154 = .ok (.iload_n 3, 1) := by decide +kernel
theorem dL_law_155 : decode cL_law 155 = .ok (.iconst 4, 1) := by decide +kernel
theorem dL_law_156 : decode cL_law 156 = .ok (.iadd, 1) := by decide +kernel
theorem dL_law_157 : decode cL_law 157 = .ok (.iaload, 1) := by decide +kernel
theorem dL_law_158 : decode cL_law 158 = .ok (.i2l, 1) := by decide +kernel
theorem dL_law_159 : decode cL_law 159 = .ok (.ldc2_w 18, 3) := by decide +kernel
theorem dL_law_162 : decode cL_law 162 = .ok (.land, 1) := by decide +kernel
theorem dL_law_163 : decode cL_law 163 = .ok (.lor, 1) := by decide +kernel
theorem dL_law_164 : decode cL_law 164 = .ok (.invokevirtual 20, 3) := by decide +kernel
theorem dL_law_167 : decode cL_law 167 = .ok (.aload_n 2, 1) := by decide +kernel
theorem dL_law_168 : decode cL_law 168 = .ok (.aload_n 0, 1) := by decide +kernel
theorem dL_law_169 : decode cL_law 169 = .ok (.iload_n 3, 1) := by decide +kernel
theorem dL_law_170 : decode cL_law 170 = .ok (.iconst 1, 1) := by decide +kernel
theorem dL_law_171 : decode cL_law 171 = .ok (.iadd, 1) := by decide +kernel
theorem dL_law_172 : decode cL_law 172 = .ok (.iaload, 1) := by decide +kernel
theorem dL_law_173 : decode cL_law 173 = .ok (.aload_n 0, 1) := by decide +kernel
theorem dL_law_174 : decode cL_law 174 = .ok (.iload_n 3, 1) := by decide +kernel
theorem dL_law_175 : decode cL_law 175 = .ok (.iconst 2, 1) := by decide +kernel
theorem dL_law_176 : decode cL_law 176 = .ok (.iadd, 1) := by decide +kernel
theorem dL_law_177 : decode cL_law 177 = .ok (.iaload, 1) := by decide +kernel
theorem dL_law_178 : decode cL_law 178 = .ok (.aload_n 0, 1) := by decide +kernel
theorem dL_law_179 : decode cL_law 179 = .ok (.iload_n 3, 1) := by decide +kernel
theorem dL_law_180 : decode cL_law 180 = .ok (.iconst 3, 1) := by decide +kernel
theorem dL_law_181 : decode cL_law 181 = .ok (.iadd, 1) := by decide +kernel
theorem dL_law_182 : decode cL_law 182 = .ok (.iaload, 1) := by decide +kernel
theorem dL_law_183 : decode cL_law 183 = .ok (.i2l, 1) := by decide +kernel
theorem dL_law_184 : decode cL_law 184 = .ok (.bipush 32, 2) := by decide +kernel
theorem dL_law_186 : decode cL_law 186 = .ok (.lshl, 1) := by decide +kernel
theorem dL_law_187 : decode cL_law 187 = .ok (.aload_n 0, 1) := by decide +kernel
theorem dL_law_188 : decode cL_law 188 = .ok (.iload_n 3, 1) := by decide +kernel
theorem dL_law_189 : decode cL_law 189 = .ok (.iconst 4, 1) := by decide +kernel
theorem dL_law_190 : decode cL_law 190 = .ok (.iadd, 1) := by decide +kernel
theorem dL_law_191 : decode cL_law 191 = .ok (.iaload, 1) := by decide +kernel
theorem dL_law_192 : decode cL_law 192 = .ok (.i2l, 1) := by decide +kernel
theorem dL_law_193 : decode cL_law 193 = .ok (.ldc2_w 18, 3) := by decide +kernel
theorem dL_law_196 : decode cL_law 196 = .ok (.land, 1) := by decide +kernel
theorem dL_law_197 : decode cL_law 197 = .ok (.lor, 1) := by decide +kernel
theorem dL_law_198 : decode cL_law 198 = .ok (.invokevirtual 24, 3) := by decide +kernel
theorem dL_law_201 : decode cL_law 201 = .ok (.if_icmp .eq 460, 3) := by decide +kernel
theorem dL_law_204 : decode cL_law 204 = .ok (.iconst 0, 1) := by decide +kernel
theorem dL_law_205 : decode cL_law 205 = .ok (.ireturn, 1) := by decide +kernel
theorem dL_law_206 : decode cL_law 206 = .ok (.aload_n 1, 1) := by decide +kernel
theorem dL_law_207 : decode cL_law 207 = .ok (.aload_n 0, 1) := by decide +kernel
theorem dL_law_208 : decode cL_law 208 = .ok (.iload_n 3, 1) := by decide +kernel
theorem dL_law_209 : decode cL_law 209 = .ok (.iconst 1, 1) := by decide +kernel
theorem dL_law_210 : decode cL_law 210 = .ok (.iadd, 1) := by decide +kernel
theorem dL_law_211 : decode cL_law 211 = .ok (.iaload, 1) := by decide +kernel
theorem dL_law_212 : decode cL_law 212 = .ok (.aload_n 0, 1) := by decide +kernel
theorem dL_law_213 : decode cL_law 213 = .ok (.iload_n 3, 1) := by decide +kernel
theorem dL_law_214 : decode cL_law 214 = .ok (.iconst 2, 1) := by decide +kernel
theorem dL_law_215 : decode cL_law 215 = .ok (.iadd, 1) := by decide +kernel
theorem dL_law_216 : decode cL_law 216 = .ok (.iaload, 1) := by decide +kernel
theorem dL_law_217 : decode cL_law 217 = .ok (.invokevirtual 25, 3) := by decide +kernel
theorem dL_law_220 : decode cL_law 220 = .ok (.aload_n 2, 1) := by decide +kernel
theorem dL_law_221 : decode cL_law 221 = .ok (.aload_n 0, 1) := by decide +kernel
theorem dL_law_222 : decode cL_law 222 = .ok (.iload_n 3, 1) := by decide +kernel
theorem dL_law_223 : decode cL_law 223 = .ok (.iconst 1, 1) := by decide +kernel
theorem dL_law_224 : decode cL_law 224 = .ok (.iadd, 1) := by decide +kernel
theorem dL_law_225 : decode cL_law 225 = .ok (.iaload, 1) := by decide +kernel
theorem dL_law_226 : decode cL_law 226 = .ok (.aload_n 0, 1) := by decide +kernel
theorem dL_law_227 : decode cL_law 227 = .ok (.iload_n 3, 1) := by decide +kernel
theorem dL_law_228 : decode cL_law 228 = .ok (.iconst 2, 1) := by decide +kernel
theorem dL_law_229 : decode cL_law 229 = .ok (.iadd, 1) := by decide +kernel
theorem dL_law_230 : decode cL_law 230 = .ok (.iaload, 1) := by decide +kernel
theorem dL_law_231 : decode cL_law 231 = .ok (.invokevirtual 29, 3) := by decide +kernel
theorem dL_law_234 : decode cL_law 234 = .ok (.lcmp, 1) := by decide +kernel
theorem dL_law_235 : decode cL_law 235 = .ok (.ifCond .eq 426, 3) := by decide +kernel
theorem dL_law_238 : decode cL_law 238 = .ok (.iconst 0, 1) := by decide +kernel
theorem dL_law_239 : decode cL_law 239 = .ok (.ireturn, 1) := by decide +kernel
theorem dL_law_240 : decode cL_law 240 = .ok (.aload_n 1, 1) := by decide +kernel
theorem dL_law_241 : decode cL_law 241 = .ok (.aload_n 0, 1) := by decide +kernel
theorem dL_law_242 : decode cL_law 242 = .ok (.iload_n 3, 1) := by decide +kernel
theorem dL_law_243 : decode cL_law 243 = .ok (.iconst 1, 1) := by decide +kernel
theorem dL_law_244 : decode cL_law 244 = .ok (.iadd, 1) := by decide +kernel
theorem dL_law_245 : decode cL_law 245 = .ok (.iaload, 1) := by decide +kernel
theorem dL_law_246 : decode cL_law 246 = .ok (.invokevirtual 30, 3) := by decide +kernel
theorem dL_law_249 : decode cL_law 249 = .ok (.aload_n 2, 1) := by decide +kernel
theorem dL_law_250 : decode cL_law 250 = .ok (.aload_n 0, 1) := by decide +kernel
theorem dL_law_251 : decode cL_law 251 = .ok (.iload_n 3, 1) := by decide +kernel
theorem dL_law_252 : decode cL_law 252 = .ok (.iconst 1, 1) := by decide +kernel
theorem dL_law_253 : decode cL_law 253 = .ok (.iadd, 1) := by decide +kernel
theorem dL_law_254 : decode cL_law 254 = .ok (.iaload, 1) := by decide +kernel
theorem dL_law_255 : decode cL_law 255 = .ok (.invokevirtual 34, 3) := by decide +kernel
theorem dL_law_258 : decode cL_law 258 = .ok (.if_icmp .eq 403, 3) := by decide +kernel
theorem dL_law_261 : decode cL_law 261 = .ok (.iconst 0, 1) := by decide +kernel
theorem dL_law_262 : decode cL_law 262 = .ok (.ireturn, 1) := by decide +kernel
theorem dL_law_263 : decode cL_law 263 = .ok (.aload_n 1, 1) := by decide +kernel
theorem dL_law_264 : decode cL_law 264 = .ok (.aload_n 0, 1) := by decide +kernel
theorem dL_law_265 : decode cL_law 265 = .ok (.iload_n 3, 1) := by decide +kernel
theorem dL_law_266 : decode cL_law 266 = .ok (.iconst 1, 1) := by decide +kernel
theorem dL_law_267 : decode cL_law 267 = .ok (.iadd, 1) := by decide +kernel
theorem dL_law_268 : decode cL_law 268 = .ok (.iaload, 1) := by decide +kernel
theorem dL_law_269 : decode cL_law 269 = .ok (.aload_n 0, 1) := by decide +kernel
theorem dL_law_270 : decode cL_law 270 = .ok (.iload_n 3, 1) := by decide +kernel
theorem dL_law_271 : decode cL_law 271 = .ok (.iconst 2, 1) := by decide +kernel
theorem dL_law_272 : decode cL_law 272 = .ok (.iadd, 1) := by decide +kernel
theorem dL_law_273 : decode cL_law 273 = .ok (.iaload, 1) := by decide +kernel
theorem dL_law_274 : decode cL_law 274 = .ok (.aload_n 0, 1) := by decide +kernel
theorem dL_law_275 : decode cL_law 275 = .ok (.iload_n 3, 1) := by decide +kernel
theorem dL_law_276 : decode cL_law 276 = .ok (.iconst 3, 1) := by decide +kernel
theorem dL_law_277 : decode cL_law 277 = .ok (.iadd, 1) := by decide +kernel
theorem dL_law_278 : decode cL_law 278 = .ok (.iaload, 1) := by decide +kernel
theorem dL_law_279 : decode cL_law 279 = .ok (.aload_n 0, 1) := by decide +kernel
theorem dL_law_280 : decode cL_law 280 = .ok (.iload_n 3, 1) := by decide +kernel
theorem dL_law_281 : decode cL_law 281 = .ok (.iconst 4, 1) := by decide +kernel
theorem dL_law_282 : decode cL_law 282 = .ok (.iadd, 1) := by decide +kernel
theorem dL_law_283 : decode cL_law 283 = .ok (.iaload, 1) := by decide +kernel
theorem dL_law_284 : decode cL_law 284 = .ok (.aload_n 0, 1) := by decide +kernel
theorem dL_law_285 : decode cL_law 285 = .ok (.iload_n 3, 1) := by decide +kernel
theorem dL_law_286 : decode cL_law 286 = .ok (.iconst 5, 1) := by decide +kernel
theorem dL_law_287 : decode cL_law 287 = .ok (.iadd, 1) := by decide +kernel
theorem dL_law_288 : decode cL_law 288 = .ok (.iaload, 1) := by decide +kernel
theorem dL_law_289 : decode cL_law 289 = .ok (.aload_n 0, 1) := by decide +kernel
theorem dL_law_290 : decode cL_law 290 = .ok (.iload_n 3, 1) := by decide +kernel
theorem dL_law_291 : decode cL_law 291 = .ok (.bipush 6, 2) := by decide +kernel
theorem dL_law_293 : decode cL_law 293 = .ok (.iadd, 1) := by decide +kernel
theorem dL_law_294 : decode cL_law 294 = .ok (.iaload, 1) := by decide +kernel
theorem dL_law_295 : decode cL_law 295 = .ok (.invokevirtual 35, 3) := by decide +kernel
theorem dL_law_298 : decode cL_law 298 = .ok (.aload_n 2, 1) := by decide +kernel
theorem dL_law_299 : decode cL_law 299 = .ok (.aload_n 0, 1) := by decide +kernel
theorem dL_law_300 : decode cL_law 300 = .ok (.iload_n 3, 1) := by decide +kernel
theorem dL_law_301 : decode cL_law 301 = .ok (.iconst 1, 1) := by decide +kernel
theorem dL_law_302 : decode cL_law 302 = .ok (.iadd, 1) := by decide +kernel
theorem dL_law_303 : decode cL_law 303 = .ok (.iaload, 1) := by decide +kernel
theorem dL_law_304 : decode cL_law 304 = .ok (.aload_n 0, 1) := by decide +kernel
theorem dL_law_305 : decode cL_law 305 = .ok (.iload_n 3, 1) := by decide +kernel
theorem dL_law_306 : decode cL_law 306 = .ok (.iconst 2, 1) := by decide +kernel
theorem dL_law_307 : decode cL_law 307 = .ok (.iadd, 1) := by decide +kernel
theorem dL_law_308 : decode cL_law 308 = .ok (.iaload, 1) := by decide +kernel
theorem dL_law_309 : decode cL_law 309 = .ok (.aload_n 0, 1) := by decide +kernel
theorem dL_law_310 : decode cL_law 310 = .ok (.iload_n 3, 1) := by decide +kernel
theorem dL_law_311 : decode cL_law 311 = .ok (.iconst 3, 1) := by decide +kernel
theorem dL_law_312 : decode cL_law 312 = .ok (.iadd, 1) := by decide +kernel
theorem dL_law_313 : decode cL_law 313 = .ok (.iaload, 1) := by decide +kernel
theorem dL_law_314 : decode cL_law 314 = .ok (.aload_n 0, 1) := by decide +kernel
theorem dL_law_315 : decode cL_law 315 = .ok (.iload_n 3, 1) := by decide +kernel
theorem dL_law_316 : decode cL_law 316 = .ok (.iconst 4, 1) := by decide +kernel
theorem dL_law_317 : decode cL_law 317 = .ok (.iadd, 1) := by decide +kernel
theorem dL_law_318 : decode cL_law 318 = .ok (.iaload, 1) := by decide +kernel
theorem dL_law_319 : decode cL_law 319 = .ok (.aload_n 0, 1) := by decide +kernel
theorem dL_law_320 : decode cL_law 320 = .ok (.iload_n 3, 1) := by decide +kernel
theorem dL_law_321 : decode cL_law 321 = .ok (.iconst 5, 1) := by decide +kernel
theorem dL_law_322 : decode cL_law 322 = .ok (.iadd, 1) := by decide +kernel
theorem dL_law_323 : decode cL_law 323 = .ok (.iaload, 1) := by decide +kernel
theorem dL_law_324 : decode cL_law 324 = .ok (.aload_n 0, 1) := by decide +kernel
theorem dL_law_325 : decode cL_law 325 = .ok (.iload_n 3, 1) := by decide +kernel
theorem dL_law_326 : decode cL_law 326 = .ok (.bipush 6, 2) := by decide +kernel
theorem dL_law_328 : decode cL_law 328 = .ok (.iadd, 1) := by decide +kernel
theorem dL_law_329 : decode cL_law 329 = .ok (.iaload, 1) := by decide +kernel
theorem dL_law_330 : decode cL_law 330 = .ok (.invokevirtual 39, 3) := by decide +kernel
theorem dL_law_333 : decode cL_law 333 = .ok (.if_icmp .eq 328, 3) := by decide +kernel
theorem dL_law_336 : decode cL_law 336 = .ok (.iconst 0, 1) := by decide +kernel
theorem dL_law_337 : decode cL_law 337 = .ok (.ireturn, 1) := by decide +kernel
theorem dL_law_338 : decode cL_law 338 = .ok (.aload_n 1, 1) := by decide +kernel
theorem dL_law_339 : decode cL_law 339 = .ok (.aload_n 0, 1) := by decide +kernel
theorem dL_law_340 : decode cL_law 340 = .ok (.iload_n 3, 1) := by decide +kernel
theorem dL_law_341 : decode cL_law 341 = .ok (.iconst 1, 1) := by decide +kernel
theorem dL_law_342 : decode cL_law 342 = .ok (.iadd, 1) := by decide +kernel
theorem dL_law_343 : decode cL_law 343 = .ok (.iaload, 1) := by decide +kernel
theorem dL_law_344 : decode cL_law 344 = .ok (.aload_n 0, 1) := by decide +kernel
theorem dL_law_345 : decode cL_law 345 = .ok (.iload_n 3, 1) := by decide +kernel
theorem dL_law_346 : decode cL_law 346 = .ok (.iconst 2, 1) := by decide +kernel
theorem dL_law_347 : decode cL_law 347 = .ok (.iadd, 1) := by decide +kernel
theorem dL_law_348 : decode cL_law 348 = .ok (.iaload, 1) := by decide +kernel
theorem dL_law_349 : decode cL_law 349 = .ok (.aload_n 0, 1) := by decide +kernel
theorem dL_law_350 : decode cL_law 350 = .ok (.iload_n 3, 1) := by decide +kernel
theorem dL_law_351 : decode cL_law 351 = .ok (.iconst 3, 1) := by decide +kernel
theorem dL_law_352 : decode cL_law 352 = .ok (.iadd, 1) := by decide +kernel
theorem dL_law_353 : decode cL_law 353 = .ok (.iaload, 1) := by decide +kernel
theorem dL_law_354 : decode cL_law 354 = .ok (.aload_n 0, 1) := by decide +kernel
theorem dL_law_355 : decode cL_law 355 = .ok (.iload_n 3, 1) := by decide +kernel
theorem dL_law_356 : decode cL_law 356 = .ok (.iconst 4, 1) := by decide +kernel
theorem dL_law_357 : decode cL_law 357 = .ok (.iadd, 1) := by decide +kernel
theorem dL_law_358 : decode cL_law 358 = .ok (.iaload, 1) := by decide +kernel
theorem dL_law_359 : decode cL_law 359 = .ok (.aload_n 0, 1) := by decide +kernel
theorem dL_law_360 : decode cL_law 360 = .ok (.iload_n 3, 1) := by decide +kernel
theorem dL_law_361 : decode cL_law 361 = .ok (.iconst 5, 1) := by decide +kernel
theorem dL_law_362 : decode cL_law 362 = .ok (.iadd, 1) := by decide +kernel
theorem dL_law_363 : decode cL_law 363 = .ok (.iaload, 1) := by decide +kernel
theorem dL_law_364 : decode cL_law 364 = .ok (.i2l, 1) := by decide +kernel
theorem dL_law_365 : decode cL_law 365 = .ok (.bipush 32, 2) := by decide +kernel
theorem dL_law_367 : decode cL_law 367 = .ok (.lshl, 1) := by decide +kernel
theorem dL_law_368 : decode cL_law 368 = .ok (.aload_n 0, 1) := by decide +kernel
theorem dL_law_369 : decode cL_law 369 = .ok (.iload_n 3, 1) := by decide +kernel
theorem dL_law_370 : decode cL_law 370 = .ok (.bipush 6, 2) := by decide +kernel
theorem dL_law_372 : decode cL_law 372 = .ok (.iadd, 1) := by decide +kernel
theorem dL_law_373 : decode cL_law 373 = .ok (.iaload, 1) := by decide +kernel
theorem dL_law_374 : decode cL_law 374 = .ok (.i2l, 1) := by decide +kernel
theorem dL_law_375 : decode cL_law 375 = .ok (.ldc2_w 18, 3) := by decide +kernel
theorem dL_law_378 : decode cL_law 378 = .ok (.land, 1) := by decide +kernel
theorem dL_law_379 : decode cL_law 379 = .ok (.lor, 1) := by decide +kernel
theorem dL_law_380 : decode cL_law 380 = .ok (.invokevirtual 40, 3) := by decide +kernel
theorem dL_law_383 : decode cL_law 383 = .ok (.aload_n 2, 1) := by decide +kernel
theorem dL_law_384 : decode cL_law 384 = .ok (.aload_n 0, 1) := by decide +kernel
theorem dL_law_385 : decode cL_law 385 = .ok (.iload_n 3, 1) := by decide +kernel
theorem dL_law_386 : decode cL_law 386 = .ok (.iconst 1, 1) := by decide +kernel
theorem dL_law_387 : decode cL_law 387 = .ok (.iadd, 1) := by decide +kernel
theorem dL_law_388 : decode cL_law 388 = .ok (.iaload, 1) := by decide +kernel
theorem dL_law_389 : decode cL_law 389 = .ok (.aload_n 0, 1) := by decide +kernel
theorem dL_law_390 : decode cL_law 390 = .ok (.iload_n 3, 1) := by decide +kernel
theorem dL_law_391 : decode cL_law 391 = .ok (.iconst 2, 1) := by decide +kernel
theorem dL_law_392 : decode cL_law 392 = .ok (.iadd, 1) := by decide +kernel
theorem dL_law_393 : decode cL_law 393 = .ok (.iaload, 1) := by decide +kernel
theorem dL_law_394 : decode cL_law 394 = .ok (.aload_n 0, 1) := by decide +kernel
theorem dL_law_395 : decode cL_law 395 = .ok (.iload_n 3, 1) := by decide +kernel
theorem dL_law_396 : decode cL_law 396 = .ok (.iconst 3, 1) := by decide +kernel
theorem dL_law_397 : decode cL_law 397 = .ok (.iadd, 1) := by decide +kernel
theorem dL_law_398 : decode cL_law 398 = .ok (.iaload, 1) := by decide +kernel
theorem dL_law_399 : decode cL_law 399 = .ok (.aload_n 0, 1) := by decide +kernel
theorem dL_law_400 : decode cL_law 400 = .ok (.iload_n 3, 1) := by decide +kernel
theorem dL_law_401 : decode cL_law 401 = .ok (.iconst 4, 1) := by decide +kernel
theorem dL_law_402 : decode cL_law 402 = .ok (.iadd, 1) := by decide +kernel
theorem dL_law_403 : decode cL_law 403 = .ok (.iaload, 1) := by decide +kernel
theorem dL_law_404 : decode cL_law 404 = .ok (.aload_n 0, 1) := by decide +kernel
theorem dL_law_405 : decode cL_law 405 = .ok (.iload_n 3, 1) := by decide +kernel
theorem dL_law_406 : decode cL_law 406 = .ok (.iconst 5, 1) := by decide +kernel
theorem dL_law_407 : decode cL_law 407 = .ok (.iadd, 1) := by decide +kernel
theorem dL_law_408 : decode cL_law 408 = .ok (.iaload, 1) := by decide +kernel
theorem dL_law_409 : decode cL_law 409 = .ok (.i2l, 1) := by decide +kernel
theorem dL_law_410 : decode cL_law 410 = .ok (.bipush 32, 2) := by decide +kernel
theorem dL_law_412 : decode cL_law 412 = .ok (.lshl, 1) := by decide +kernel
theorem dL_law_413 : decode cL_law 413 = .ok (.aload_n 0, 1) := by decide +kernel
theorem dL_law_414 : decode cL_law 414 = .ok (.iload_n 3, 1) := by decide +kernel
theorem dL_law_415 : decode cL_law 415 = .ok (.bipush 6, 2) := by decide +kernel
theorem dL_law_417 : decode cL_law 417 = .ok (.iadd, 1) := by decide +kernel
theorem dL_law_418 : decode cL_law 418 = .ok (.iaload, 1) := by decide +kernel
theorem dL_law_419 : decode cL_law 419 = .ok (.i2l, 1) := by decide +kernel
theorem dL_law_420 : decode cL_law 420 = .ok (.ldc2_w 18, 3) := by decide +kernel
theorem dL_law_423 : decode cL_law 423 = .ok (.land, 1) := by decide +kernel
theorem dL_law_424 : decode cL_law 424 = .ok (.lor, 1) := by decide +kernel
theorem dL_law_425 : decode cL_law 425 = .ok (.invokevirtual 44, 3) := by decide +kernel
theorem dL_law_428 : decode cL_law 428 = .ok (.if_icmp .eq 233, 3) := by decide +kernel
theorem dL_law_431 : decode cL_law 431 = .ok (.iconst 0, 1) := by decide +kernel
theorem dL_law_432 : decode cL_law 432 = .ok (.ireturn, 1) := by decide +kernel
theorem dL_law_433 : decode cL_law 433 = .ok (.aload_n 1, 1) := by decide +kernel
theorem dL_law_434 : decode cL_law 434 = .ok (.aload_n 0, 1) := by decide +kernel
theorem dL_law_435 : decode cL_law 435 = .ok (.iload_n 3, 1) := by decide +kernel
theorem dL_law_436 : decode cL_law 436 = .ok (.iconst 1, 1) := by decide +kernel
theorem dL_law_437 : decode cL_law 437 = .ok (.iadd, 1) := by decide +kernel
theorem dL_law_438 : decode cL_law 438 = .ok (.iaload, 1) := by decide +kernel
theorem dL_law_439 : decode cL_law 439 = .ok (.aload_n 0, 1) := by decide +kernel
theorem dL_law_440 : decode cL_law 440 = .ok (.iload_n 3, 1) := by decide +kernel
theorem dL_law_441 : decode cL_law 441 = .ok (.iconst 2, 1) := by decide +kernel
theorem dL_law_442 : decode cL_law 442 = .ok (.iadd, 1) := by decide +kernel
theorem dL_law_443 : decode cL_law 443 = .ok (.iaload, 1) := by decide +kernel
theorem dL_law_444 : decode cL_law 444 = .ok (.invokevirtual 45, 3) := by decide +kernel
theorem dL_law_447 : decode cL_law 447 = .ok (.aload_n 2, 1) := by decide +kernel
theorem dL_law_448 : decode cL_law 448 = .ok (.aload_n 0, 1) := by decide +kernel
theorem dL_law_449 : decode cL_law 449 = .ok (.iload_n 3, 1) := by decide +kernel
theorem dL_law_450 : decode cL_law 450 = .ok (.iconst 1, 1) := by decide +kernel
theorem dL_law_451 : decode cL_law 451 = .ok (.iadd, 1) := by decide +kernel
theorem dL_law_452 : decode cL_law 452 = .ok (.iaload, 1) := by decide +kernel
theorem dL_law_453 : decode cL_law 453 = .ok (.aload_n 0, 1) := by decide +kernel
theorem dL_law_454 : decode cL_law 454 = .ok (.iload_n 3, 1) := by decide +kernel
theorem dL_law_455 : decode cL_law 455 = .ok (.iconst 2, 1) := by decide +kernel
theorem dL_law_456 : decode cL_law 456 = .ok (.iadd, 1) := by decide +kernel
theorem dL_law_457 : decode cL_law 457 = .ok (.iaload, 1) := by decide +kernel
theorem dL_law_458 : decode cL_law 458 = .ok (.invokevirtual 48, 3) := by decide +kernel
theorem dL_law_461 : decode cL_law 461 = .ok (.if_icmp .eq 200, 3) := by decide +kernel
theorem dL_law_464 : decode cL_law 464 = .ok (.iconst 0, 1) := by decide +kernel
theorem dL_law_465 : decode cL_law 465 = .ok (.ireturn, 1) := by decide +kernel
theorem dL_law_466 : decode cL_law 466 = .ok (.aload_n 1, 1) := by decide +kernel
theorem dL_law_467 : decode cL_law 467 = .ok (.aload_n 0, 1) := by decide +kernel
theorem dL_law_468 : decode cL_law 468 = .ok (.iload_n 3, 1) := by decide +kernel
theorem dL_law_469 : decode cL_law 469 = .ok (.iconst 1, 1) := by decide +kernel
theorem dL_law_470 : decode cL_law 470 = .ok (.iadd, 1) := by decide +kernel
theorem dL_law_471 : decode cL_law 471 = .ok (.iaload, 1) := by decide +kernel
theorem dL_law_472 : decode cL_law 472 = .ok (.invokevirtual 49, 3) := by decide +kernel
theorem dL_law_475 : decode cL_law 475 = .ok (.aload_n 2, 1) := by decide +kernel
theorem dL_law_476 : decode cL_law 476 = .ok (.aload_n 0, 1) := by decide +kernel
theorem dL_law_477 : decode cL_law 477 = .ok (.iload_n 3, 1) := by decide +kernel
theorem dL_law_478 : decode cL_law 478 = .ok (.iconst 1, 1) := by decide +kernel
theorem dL_law_479 : decode cL_law 479 = .ok (.iadd, 1) := by decide +kernel
theorem dL_law_480 : decode cL_law 480 = .ok (.iaload, 1) := by decide +kernel
theorem dL_law_481 : decode cL_law 481 = .ok (.invokevirtual 52, 3) := by decide +kernel
theorem dL_law_484 : decode cL_law 484 = .ok (.if_icmp .eq 177, 3) := by decide +kernel
theorem dL_law_487 : decode cL_law 487 = .ok (.iconst 0, 1) := by decide +kernel
theorem dL_law_488 : decode cL_law 488 = .ok (.ireturn, 1) := by decide +kernel
theorem dL_law_489 : decode cL_law 489 = .ok (.aload_n 1, 1) := by decide +kernel
theorem dL_law_490 : decode cL_law 490 = .ok (.aload_n 0, 1) := by decide +kernel
theorem dL_law_491 : decode cL_law 491 = .ok (.iload_n 3, 1) := by decide +kernel
theorem dL_law_492 : decode cL_law 492 = .ok (.iconst 1, 1) := by decide +kernel
theorem dL_law_493 : decode cL_law 493 = .ok (.iadd, 1) := by decide +kernel
theorem dL_law_494 : decode cL_law 494 = .ok (.iaload, 1) := by decide +kernel
theorem dL_law_495 : decode cL_law 495 = .ok (.aload_n 0, 1) := by decide +kernel
theorem dL_law_496 : decode cL_law 496 = .ok (.iload_n 3, 1) := by decide +kernel
theorem dL_law_497 : decode cL_law 497 = .ok (.iconst 2, 1) := by decide +kernel
theorem dL_law_498 : decode cL_law 498 = .ok (.iadd, 1) := by decide +kernel
theorem dL_law_499 : decode cL_law 499 = .ok (.iaload, 1) := by decide +kernel
theorem dL_law_500 : decode cL_law 500 = .ok (.i2l, 1) := by decide +kernel
theorem dL_law_501 : decode cL_law 501 = .ok (.bipush 32, 2) := by decide +kernel
theorem dL_law_503 : decode cL_law 503 = .ok (.lshl, 1) := by decide +kernel
theorem dL_law_504 : decode cL_law 504 = .ok (.aload_n 0, 1) := by decide +kernel
theorem dL_law_505 : decode cL_law 505 = .ok (.iload_n 3, 1) := by decide +kernel
theorem dL_law_506 : decode cL_law 506 = .ok (.iconst 3, 1) := by decide +kernel
theorem dL_law_507 : decode cL_law 507 = .ok (.iadd, 1) := by decide +kernel
theorem dL_law_508 : decode cL_law 508 = .ok (.iaload, 1) := by decide +kernel
theorem dL_law_509 : decode cL_law 509 = .ok (.i2l, 1) := by decide +kernel
theorem dL_law_510 : decode cL_law 510 = .ok (.ldc2_w 18, 3) := by decide +kernel
theorem dL_law_513 : decode cL_law 513 = .ok (.land, 1) := by decide +kernel
theorem dL_law_514 : decode cL_law 514 = .ok (.lor, 1) := by decide +kernel
theorem dL_law_515 : decode cL_law 515 = .ok (.invokevirtual 53, 3) := by decide +kernel
theorem dL_law_518 : decode cL_law 518 = .ok (.aload_n 2, 1) := by decide +kernel
theorem dL_law_519 : decode cL_law 519 = .ok (.aload_n 0, 1) := by decide +kernel
theorem dL_law_520 : decode cL_law 520 = .ok (.iload_n 3, 1) := by decide +kernel
theorem dL_law_521 : decode cL_law 521 = .ok (.iconst 1, 1) := by decide +kernel
theorem dL_law_522 : decode cL_law 522 = .ok (.iadd, 1) := by decide +kernel
theorem dL_law_523 : decode cL_law 523 = .ok (.iaload, 1) := by decide +kernel
theorem dL_law_524 : decode cL_law 524 = .ok (.aload_n 0, 1) := by decide +kernel
theorem dL_law_525 : decode cL_law 525 = .ok (.iload_n 3, 1) := by decide +kernel
theorem dL_law_526 : decode cL_law 526 = .ok (.iconst 2, 1) := by decide +kernel
theorem dL_law_527 : decode cL_law 527 = .ok (.iadd, 1) := by decide +kernel
theorem dL_law_528 : decode cL_law 528 = .ok (.iaload, 1) := by decide +kernel
theorem dL_law_529 : decode cL_law 529 = .ok (.i2l, 1) := by decide +kernel
theorem dL_law_530 : decode cL_law 530 = .ok (.bipush 32, 2) := by decide +kernel
theorem dL_law_532 : decode cL_law 532 = .ok (.lshl, 1) := by decide +kernel
theorem dL_law_533 : decode cL_law 533 = .ok (.aload_n 0, 1) := by decide +kernel
theorem dL_law_534 : decode cL_law 534 = .ok (.iload_n 3, 1) := by decide +kernel
theorem dL_law_535 : decode cL_law 535 = .ok (.iconst 3, 1) := by decide +kernel
theorem dL_law_536 : decode cL_law 536 = .ok (.iadd, 1) := by decide +kernel
theorem dL_law_537 : decode cL_law 537 = .ok (.iaload, 1) := by decide +kernel
theorem dL_law_538 : decode cL_law 538 = .ok (.i2l, 1) := by decide +kernel
theorem dL_law_539 : decode cL_law 539 = .ok (.ldc2_w 18, 3) := by decide +kernel
theorem dL_law_542 : decode cL_law 542 = .ok (.land, 1) := by decide +kernel
theorem dL_law_543 : decode cL_law 543 = .ok (.lor, 1) := by decide +kernel
theorem dL_law_544 : decode cL_law 544 = .ok (.invokevirtual 57, 3) := by decide +kernel
theorem dL_law_547 : decode cL_law 547 = .ok (.if_icmp .eq 114, 3) := by decide +kernel
theorem dL_law_550 : decode cL_law 550 = .ok (.iconst 0, 1) := by decide +kernel
theorem dL_law_551 : decode cL_law 551 = .ok (.ireturn, 1) := by decide +kernel
theorem dL_law_552 : decode cL_law 552 = .ok (.aload_n 1, 1) := by decide +kernel
theorem dL_law_553 : decode cL_law 553 = .ok (.aload_n 0, 1) := by decide +kernel
theorem dL_law_554 : decode cL_law 554 = .ok (.iload_n 3, 1) := by decide +kernel
theorem dL_law_555 : decode cL_law 555 = .ok (.iconst 1, 1) := by decide +kernel
theorem dL_law_556 : decode cL_law 556 = .ok (.iadd, 1) := by decide +kernel
theorem dL_law_557 : decode cL_law 557 = .ok (.iaload, 1) := by decide +kernel
theorem dL_law_558 : decode cL_law 558 = .ok (.aload_n 0, 1) := by decide +kernel
theorem dL_law_559 : decode cL_law 559 = .ok (.iload_n 3, 1) := by decide +kernel
theorem dL_law_560 : decode cL_law 560 = .ok (.iconst 2, 1) := by decide +kernel
theorem dL_law_561 : decode cL_law 561 = .ok (.iadd, 1) := by decide +kernel
theorem dL_law_562 : decode cL_law 562 = .ok (.iaload, 1) := by decide +kernel
theorem dL_law_563 : decode cL_law 563 = .ok (.ifCond .eq 7, 3) := by decide +kernel
theorem dL_law_566 : decode cL_law 566 = .ok (.iconst 1, 1) := by decide +kernel
theorem dL_law_567 : decode cL_law 567 = .ok (.goto 4, 3) := by decide +kernel
theorem dL_law_570 : decode cL_law 570 = .ok (.iconst 0, 1) := by decide +kernel
theorem dL_law_571 : decode cL_law 571 = .ok (.invokevirtual 58, 3) := by decide +kernel
theorem dL_law_574 : decode cL_law 574 = .ok (.aload_n 2, 1) := by decide +kernel
theorem dL_law_575 : decode cL_law 575 = .ok (.aload_n 0, 1) := by decide +kernel
theorem dL_law_576 : decode cL_law 576 = .ok (.iload_n 3, 1) := by decide +kernel
theorem dL_law_577 : decode cL_law 577 = .ok (.iconst 1, 1) := by decide +kernel
theorem dL_law_578 : decode cL_law 578 = .ok (.iadd, 1) := by decide +kernel
theorem dL_law_579 : decode cL_law 579 = .ok (.iaload, 1) := by decide +kernel
theorem dL_law_580 : decode cL_law 580 = .ok (.aload_n 0, 1) := by decide +kernel
theorem dL_law_581 : decode cL_law 581 = .ok (.iload_n 3, 1) := by decide +kernel
theorem dL_law_582 : decode cL_law 582 = .ok (.iconst 2, 1) := by decide +kernel
theorem dL_law_583 : decode cL_law 583 = .ok (.iadd, 1) := by decide +kernel
theorem dL_law_584 : decode cL_law 584 = .ok (.iaload, 1) := by decide +kernel
theorem dL_law_585 : decode cL_law 585 = .ok (.ifCond .eq 7, 3) := by decide +kernel
theorem dL_law_588 : decode cL_law 588 = .ok (.iconst 1, 1) := by decide +kernel
theorem dL_law_589 : decode cL_law 589 = .ok (.goto 4, 3) := by decide +kernel
theorem dL_law_592 : decode cL_law 592 = .ok (.iconst 0, 1) := by decide +kernel
theorem dL_law_593 : decode cL_law 593 = .ok (.invokevirtual 62, 3) := by decide +kernel
theorem dL_law_596 : decode cL_law 596 = .ok (.if_icmp .eq 65, 3) := by decide +kernel
theorem dL_law_599 : decode cL_law 599 = .ok (.iconst 0, 1) := by decide +kernel
theorem dL_law_600 : decode cL_law 600 = .ok (.ireturn, 1) := by decide +kernel
theorem dL_law_601 : decode cL_law 601 = .ok (.aload_n 1, 1) := by decide +kernel
theorem dL_law_602 : decode cL_law 602 = .ok (.invokevirtual 63, 3) := by decide +kernel
theorem dL_law_605 : decode cL_law 605 = .ok (.aload_n 2, 1) := by decide +kernel
theorem dL_law_606 : decode cL_law 606 = .ok (.invokevirtual 67, 3) := by decide +kernel
theorem dL_law_609 : decode cL_law 609 = .ok (.lcmp, 1) := by decide +kernel
theorem dL_law_610 : decode cL_law 610 = .ok (.ifCond .eq 51, 3) := by decide +kernel
theorem dL_law_613 : decode cL_law 613 = .ok (.iconst 0, 1) := by decide +kernel
theorem dL_law_614 : decode cL_law 614 = .ok (.ireturn, 1) := by decide +kernel
theorem dL_law_615 : decode cL_law 615 = .ok (.aload_n 1, 1) := by decide +kernel
theorem dL_law_616 : decode cL_law 616 = .ok (.aload_n 0, 1) := by decide +kernel
theorem dL_law_617 : decode cL_law 617 = .ok (.iload_n 3, 1) := by decide +kernel
theorem dL_law_618 : decode cL_law 618 = .ok (.iconst 1, 1) := by decide +kernel
theorem dL_law_619 : decode cL_law 619 = .ok (.iadd, 1) := by decide +kernel
theorem dL_law_620 : decode cL_law 620 = .ok (.iaload, 1) := by decide +kernel
theorem dL_law_621 : decode cL_law 621 = .ok (.invokevirtual 68, 3) := by decide +kernel
theorem dL_law_624 : decode cL_law 624 = .ok (.aload_n 2, 1) := by decide +kernel
theorem dL_law_625 : decode cL_law 625 = .ok (.aload_n 0, 1) := by decide +kernel
theorem dL_law_626 : decode cL_law 626 = .ok (.iload_n 3, 1) := by decide +kernel
theorem dL_law_627 : decode cL_law 627 = .ok (.iconst 1, 1) := by decide +kernel
theorem dL_law_628 : decode cL_law 628 = .ok (.iadd, 1) := by decide +kernel
theorem dL_law_629 : decode cL_law 629 = .ok (.iaload, 1) := by decide +kernel
theorem dL_law_630 : decode cL_law 630 = .ok (.invokevirtual 71, 3) := by decide +kernel
theorem dL_law_633 : decode cL_law 633 = .ok (.if_icmp .eq 28, 3) := by decide +kernel
theorem dL_law_636 : decode cL_law 636 = .ok (.iconst 0, 1) := by decide +kernel
theorem dL_law_637 : decode cL_law 637 = .ok (.ireturn, 1) := by decide +kernel
theorem dL_law_638 : decode cL_law 638 = .ok (.aload_n 1, 1) := by decide +kernel
theorem dL_law_639 : decode cL_law 639 = .ok (.aload_n 0, 1) := by decide +kernel
theorem dL_law_640 : decode cL_law 640 = .ok (.iload_n 3, 1) := by decide +kernel
theorem dL_law_641 : decode cL_law 641 = .ok (.iconst 1, 1) := by decide +kernel
theorem dL_law_642 : decode cL_law 642 = .ok (.iadd, 1) := by decide +kernel
theorem dL_law_643 : decode cL_law 643 = .ok (.iaload, 1) := by decide +kernel
theorem dL_law_644 : decode cL_law 644 = .ok (.invokevirtual 72, 3) := by decide +kernel
theorem dL_law_647 : decode cL_law 647 = .ok (.aload_n 2, 1) := by decide +kernel
theorem dL_law_648 : decode cL_law 648 = .ok (.aload_n 0, 1) := by decide +kernel
theorem dL_law_649 : decode cL_law 649 = .ok (.iload_n 3, 1) := by decide +kernel
theorem dL_law_650 : decode cL_law 650 = .ok (.iconst 1, 1) := by decide +kernel
theorem dL_law_651 : decode cL_law 651 = .ok (.iadd, 1) := by decide +kernel
theorem dL_law_652 : decode cL_law 652 = .ok (.iaload, 1) := by decide +kernel
theorem dL_law_653 : decode cL_law 653 = .ok (.invokevirtual 75, 3) := by decide +kernel
theorem dL_law_656 : decode cL_law 656 = .ok (.if_icmp .eq 5, 3) := by decide +kernel
theorem dL_law_659 : decode cL_law 659 = .ok (.iconst 0, 1) := by decide +kernel
theorem dL_law_660 : decode cL_law 660 = .ok (.ireturn, 1) := by decide +kernel
theorem dL_law_661 : decode cL_law 661 = .ok (.iinc 3 7, 3) := by decide +kernel
theorem dL_law_664 : decode cL_law 664 = .ok (.goto (-646), 3) := by decide +kernel
theorem dL_law_667 : decode cL_law 667 = .ok (.iconst 1, 1) := by decide +kernel
theorem dL_law_668 : decode cL_law 668 = .ok (.ireturn, 1) := by decide +kernel
section CASES
variable {p : Program} {l : Launch} {e : Env} {s : State} {m : MethodId} {below : List Frame} {meth : Method} {c : Code} {H : Heap} {locs : List Loc} {Q : State → Prop}
variable {D : va_G} {Y : Nat → ClassId} {aR : Nat → Nat} {nm : String} {rt : Option FieldType} {ls : Array Slot} {ad : Nat → Nat} {S0 S : wS} {σ : mS} {b L i q o : Nat} {xs : Nat → Int32}
theorem in_scr {k : Nat} (h : i + k < L) (hL : L ≤ 3584) : vp_in (nI i + nI k) L := by rw [nI_add]; exact vp_in_nI h (by omega)
theorem jInv.K (h : jInv o q S σ) : s_K S o = 9 := by
  obtain ⟨ad, C, ρ, Z, rfl, k, -⟩ := h
  exact k.1.2.2.2.1
set_option maxHeartbeats 4000000 in
set_option maxRecDepth 100000 in
theorem case_row (hX : jq_X D Y aR (lw_A s) p s m #[Value.ref b] meth c cL_law RL nm 4 rt) (hB : va_X b L xs s s.heap) (hbl : b < s.heap.size) (hn : s_nx S0 = s.heap.size) (hi : i + 7 ≤ L) (hL : L ≤ 3584) (hV : jInv o (q + 1) S σ) (hI : lwI D Y s S0 ad S σ H locs) (hl : lv_has ls 4 [(0, .ref b), (1, .ref o), (2, .ref (ad 0)), (3, .int (nI i))])
    (kk : ∀ (S1 : wS) (σ1 : mS) (H1 : Heap) (locs1 : List Loc), jInv o q S1 σ1 → lwI D Y s S0 ad S1 σ1 H1 locs1 → W p l e { frames := 2048, cells := s_lm S0 - s_nx S0, slots := s_sm S0 - s_sl S0, locals := 84000 } s m #[Value.ref b] below meth c H1 locs1 (s_nx S1 - s_nx S0) (s_sl S1 - s_sl S0) Q (F0 m 661 ls [])) : W p l e { frames := 2048, cells := s_lm S0 - s_nx S0, slots := s_sm S0 - s_sl S0, locals := 84000 } s m #[Value.ref b] below meth c H locs (s_nx S - s_nx S0) (s_sl S - s_sl S0) Q (F0 m 100 ls []) := by
  have hx := hX.1
  have hb := hX.2.1
  have hm := hX.2.2.1
  have ho := hX.2.2.2.1
  have ht := hX.2.2.2.2.1
  have hbA : ¬ lw_A s b := Nat.not_le.mpr hbl
  have hk := hV.K
  refine lv_aload_n hx hb dL_law_100 rfl (lv_at hl 1 rfl) ?_
  refine lv_aload_n hx hb dL_law_101 rfl (lv_at hl 0 rfl) ?_
  refine lv_iload_n hx hb dL_law_102 rfl (lv_at hl 3 rfl) ?_
  refine lv_iconst (v := 1) hx hb dL_law_103 (by decide) ?_
  refine lv_iadd hx hb dL_law_104 ?_
  refine va_sld hx hb hB hbl hbA hI.1.2.2 (in_scr (k := 1) (by omega) hL) dL_law_105 ?_
  refine lv_aload_n hx hb dL_law_106 rfl (lv_at hl 0 rfl) ?_
  refine lv_iload_n hx hb dL_law_107 rfl (lv_at hl 3 rfl) ?_
  refine lv_iconst (v := 2) hx hb dL_law_108 (by decide) ?_
  refine lv_iadd hx hb dL_law_109 ?_
  refine va_sld hx hb hB hbl hbA hI.1.2.2 (in_scr (k := 2) (by omega) hL) dL_law_110 ?_
  obtain ⟨r, S1, σ1, e1, e2, hV1⟩ := j_row hV ((xs (((nI i) + 1)).toNatClampNeg)) ((xs (((nI i) + 2)).toNatClampNeg))
  refine lw_doS hX hI (jq_okV (As := [.int (xs (((nI i) + 1)).toNatClampNeg), .int (xs (((nI i) + 2)).toNatClampNeg)]) (rest := []) hx hb hm ho ht (wJ.recv hX hI.1 (nz hk (by decide)) (wE_X10 hk) rfl) qw151 qw152 qw153 qw154 qw1 hy_X10_row rfl hl.1 (Nat.le_of_ble_eq_true rfl) dL_law_111) (fun A' => c_X10_row e1) (Nat.le_of_ble_eq_true rfl) (Nat.le_of_ble_eq_true rfl) (fun H locs hI' => ?_)
  clear hI
  have hI := hI'
  clear hI'
  refine lv_aload_n hx hb dL_law_114 rfl (lv_at hl 2 rfl) ?_
  refine lv_aload_n hx hb dL_law_115 rfl (lv_at hl 0 rfl) ?_
  refine lv_iload_n hx hb dL_law_116 rfl (lv_at hl 3 rfl) ?_
  refine lv_iconst (v := 1) hx hb dL_law_117 (by decide) ?_
  refine lv_iadd hx hb dL_law_118 ?_
  refine va_sld hx hb hB hbl hbA hI.1.2.2 (in_scr (k := 1) (by omega) hL) dL_law_119 ?_
  refine lv_aload_n hx hb dL_law_120 rfl (lv_at hl 0 rfl) ?_
  refine lv_iload_n hx hb dL_law_121 rfl (lv_at hl 3 rfl) ?_
  refine lv_iconst (v := 2) hx hb dL_law_122 (by decide) ?_
  refine lv_iadd hx hb dL_law_123 ?_
  refine va_sld hx hb hB hbl hbA hI.1.2.2 (in_scr (k := 2) (by omega) hL) dL_law_124 ?_
  refine lw_doM hX hI hn (jq_okV (As := [.int (xs (((nI i) + 1)).toNatClampNeg), .int (xs (((nI i) + 2)).toNatClampNeg)]) (rest := [.int r]) hx hb hm ho ht (mJ.recv hX ⟨hI.2.1, hI.1.2.2⟩) qw798 qw799 qw800 qw801 qw7 hy_X11_row rfl hl.1 (Nat.le_of_ble_eq_true rfl) dL_law_125) (fun A' => c_X11_row e2) (Nat.le_of_ble_eq_true rfl) (Nat.le_of_ble_eq_true rfl) (fun H locs hI' => ?_)
  clear hI
  have hI := hI'
  clear hI'
  refine lv_icmp_eq (tgt := 661) hx hb dL_law_128 (by decide) (fun _ => ?_) (fun z => absurd rfl z)
  exact kk S1 σ1 H locs hV1 hI
set_option maxHeartbeats 4000000 in
set_option maxRecDepth 100000 in
theorem case_put (hX : jq_X D Y aR (lw_A s) p s m #[Value.ref b] meth c cL_law RL nm 4 rt) (hB : va_X b L xs s s.heap) (hbl : b < s.heap.size) (hn : s_nx S0 = s.heap.size) (hi : i + 7 ≤ L) (hL : L ≤ 3584) (hV : jInv o (q + 1) S σ) (hI : lwI D Y s S0 ad S σ H locs) (hl : lv_has ls 4 [(0, .ref b), (1, .ref o), (2, .ref (ad 0)), (3, .int (nI i))])
    (kk : ∀ (S1 : wS) (σ1 : mS) (H1 : Heap) (locs1 : List Loc), jInv o q S1 σ1 → lwI D Y s S0 ad S1 σ1 H1 locs1 → W p l e { frames := 2048, cells := s_lm S0 - s_nx S0, slots := s_sm S0 - s_sl S0, locals := 84000 } s m #[Value.ref b] below meth c H1 locs1 (s_nx S1 - s_nx S0) (s_sl S1 - s_sl S0) Q (F0 m 661 ls [])) : W p l e { frames := 2048, cells := s_lm S0 - s_nx S0, slots := s_sm S0 - s_sl S0, locals := 84000 } s m #[Value.ref b] below meth c H locs (s_nx S - s_nx S0) (s_sl S - s_sl S0) Q (F0 m 133 ls []) := by
  have hx := hX.1
  have hb := hX.2.1
  have hm := hX.2.2.1
  have ho := hX.2.2.2.1
  have ht := hX.2.2.2.2.1
  have hbA : ¬ lw_A s b := Nat.not_le.mpr hbl
  have hk := hV.K
  refine lv_aload_n hx hb dL_law_133 rfl (lv_at hl 1 rfl) ?_
  refine lv_aload_n hx hb dL_law_134 rfl (lv_at hl 0 rfl) ?_
  refine lv_iload_n hx hb dL_law_135 rfl (lv_at hl 3 rfl) ?_
  refine lv_iconst (v := 1) hx hb dL_law_136 (by decide) ?_
  refine lv_iadd hx hb dL_law_137 ?_
  refine va_sld hx hb hB hbl hbA hI.1.2.2 (in_scr (k := 1) (by omega) hL) dL_law_138 ?_
  refine lv_aload_n hx hb dL_law_139 rfl (lv_at hl 0 rfl) ?_
  refine lv_iload_n hx hb dL_law_140 rfl (lv_at hl 3 rfl) ?_
  refine lv_iconst (v := 2) hx hb dL_law_141 (by decide) ?_
  refine lv_iadd hx hb dL_law_142 ?_
  refine va_sld hx hb hB hbl hbA hI.1.2.2 (in_scr (k := 2) (by omega) hL) dL_law_143 ?_
  refine lv_aload_n hx hb dL_law_144 rfl (lv_at hl 0 rfl) ?_
  refine lv_iload_n hx hb dL_law_145 rfl (lv_at hl 3 rfl) ?_
  refine lv_iconst (v := 3) hx hb dL_law_146 (by decide) ?_
  refine lv_iadd hx hb dL_law_147 ?_
  refine va_sld hx hb hB hbl hbA hI.1.2.2 (in_scr (k := 3) (by omega) hL) dL_law_148 ?_
  refine lv_i2l hx hb dL_law_149 rfl ?_
  refine lv_bipush (v := 32) hx hb dL_law_150 (by decide) ?_
  refine lv_lshl hx hb dL_law_152 rfl ?_
  refine lv_aload_n hx hb dL_law_153 rfl (lv_at hl 0 rfl) ?_
  refine lv_iload_n hx hb dL_law_154 rfl (lv_at hl 3 rfl) ?_
  refine lv_iconst (v := 4) hx hb dL_law_155 (by decide) ?_
  refine lv_iadd hx hb dL_law_156 ?_
  refine va_sld hx hb hB hbl hbA hI.1.2.2 (in_scr (k := 4) (by omega) hL) dL_law_157 ?_
  refine lv_i2l hx hb dL_law_158 rfl ?_
  refine lv_ldc2 (v := 4294967295) hx hb ho (ht _ qw1069) dL_law_159 ?_
  refine lv_land hx hb dL_law_162 ?_
  refine lv_lor hx hb dL_law_163 ?_
  obtain ⟨r, S1, σ1, e1, e2, hV1⟩ := j_put hV ((xs (((nI i) + 1)).toNatClampNeg)) ((xs (((nI i) + 2)).toNatClampNeg)) (((((xs (((nI i) + 3)).toNatClampNeg)).toInt64 <<< ((32 : Int32).toInt64 &&& 63)) ||| (((xs (((nI i) + 4)).toNatClampNeg)).toInt64 &&& 4294967295)))
  refine lw_doS hX hI (jq_okV (As := [.int (xs (((nI i) + 1)).toNatClampNeg), .int (xs (((nI i) + 2)).toNatClampNeg), .long ((((xs (((nI i) + 3)).toNatClampNeg)).toInt64 <<< ((32 : Int32).toInt64 &&& 63)) ||| (((xs (((nI i) + 4)).toNatClampNeg)).toInt64 &&& 4294967295))]) (rest := []) hx hb hm ho ht (wJ.recv hX hI.1 (nz hk (by decide)) (wE_X10 hk) rfl) qw182 qw183 qw184 qw185 qw1 hy_X10_put rfl hl.1 (Nat.le_of_ble_eq_true rfl) dL_law_164) (fun A' => c_X10_put e1) (Nat.le_of_ble_eq_true rfl) (Nat.le_of_ble_eq_true rfl) (fun H locs hI' => ?_)
  clear hI
  have hI := hI'
  clear hI'
  refine lv_aload_n hx hb dL_law_167 rfl (lv_at hl 2 rfl) ?_
  refine lv_aload_n hx hb dL_law_168 rfl (lv_at hl 0 rfl) ?_
  refine lv_iload_n hx hb dL_law_169 rfl (lv_at hl 3 rfl) ?_
  refine lv_iconst (v := 1) hx hb dL_law_170 (by decide) ?_
  refine lv_iadd hx hb dL_law_171 ?_
  refine va_sld hx hb hB hbl hbA hI.1.2.2 (in_scr (k := 1) (by omega) hL) dL_law_172 ?_
  refine lv_aload_n hx hb dL_law_173 rfl (lv_at hl 0 rfl) ?_
  refine lv_iload_n hx hb dL_law_174 rfl (lv_at hl 3 rfl) ?_
  refine lv_iconst (v := 2) hx hb dL_law_175 (by decide) ?_
  refine lv_iadd hx hb dL_law_176 ?_
  refine va_sld hx hb hB hbl hbA hI.1.2.2 (in_scr (k := 2) (by omega) hL) dL_law_177 ?_
  refine lv_aload_n hx hb dL_law_178 rfl (lv_at hl 0 rfl) ?_
  refine lv_iload_n hx hb dL_law_179 rfl (lv_at hl 3 rfl) ?_
  refine lv_iconst (v := 3) hx hb dL_law_180 (by decide) ?_
  refine lv_iadd hx hb dL_law_181 ?_
  refine va_sld hx hb hB hbl hbA hI.1.2.2 (in_scr (k := 3) (by omega) hL) dL_law_182 ?_
  refine lv_i2l hx hb dL_law_183 rfl ?_
  refine lv_bipush (v := 32) hx hb dL_law_184 (by decide) ?_
  refine lv_lshl hx hb dL_law_186 rfl ?_
  refine lv_aload_n hx hb dL_law_187 rfl (lv_at hl 0 rfl) ?_
  refine lv_iload_n hx hb dL_law_188 rfl (lv_at hl 3 rfl) ?_
  refine lv_iconst (v := 4) hx hb dL_law_189 (by decide) ?_
  refine lv_iadd hx hb dL_law_190 ?_
  refine va_sld hx hb hB hbl hbA hI.1.2.2 (in_scr (k := 4) (by omega) hL) dL_law_191 ?_
  refine lv_i2l hx hb dL_law_192 rfl ?_
  refine lv_ldc2 (v := 4294967295) hx hb ho (ht _ qw1069) dL_law_193 ?_
  refine lv_land hx hb dL_law_196 ?_
  refine lv_lor hx hb dL_law_197 ?_
  refine lw_doM hX hI hn (jq_okV (As := [.int (xs (((nI i) + 1)).toNatClampNeg), .int (xs (((nI i) + 2)).toNatClampNeg), .long ((((xs (((nI i) + 3)).toNatClampNeg)).toInt64 <<< ((32 : Int32).toInt64 &&& 63)) ||| (((xs (((nI i) + 4)).toNatClampNeg)).toInt64 &&& 4294967295))]) (rest := [.int r]) hx hb hm ho ht (mJ.recv hX ⟨hI.2.1, hI.1.2.2⟩) qw811 qw812 qw813 qw814 qw7 hy_X11_put rfl hl.1 (Nat.le_of_ble_eq_true rfl) dL_law_198) (fun A' => c_X11_put e2) (Nat.le_of_ble_eq_true rfl) (Nat.le_of_ble_eq_true rfl) (fun H locs hI' => ?_)
  clear hI
  have hI := hI'
  clear hI'
  refine lv_icmp_eq (tgt := 661) hx hb dL_law_201 (by decide) (fun _ => ?_) (fun z => absurd rfl z)
  exact kk S1 σ1 H locs hV1 hI
set_option maxHeartbeats 4000000 in
set_option maxRecDepth 100000 in
theorem case_item (hX : jq_X D Y aR (lw_A s) p s m #[Value.ref b] meth c cL_law RL nm 4 rt) (hB : va_X b L xs s s.heap) (hbl : b < s.heap.size) (hn : s_nx S0 = s.heap.size) (hi : i + 7 ≤ L) (hL : L ≤ 3584) (hV : jInv o (q + 1) S σ) (hI : lwI D Y s S0 ad S σ H locs) (hl : lv_has ls 4 [(0, .ref b), (1, .ref o), (2, .ref (ad 0)), (3, .int (nI i))])
    (kk : ∀ (S1 : wS) (σ1 : mS) (H1 : Heap) (locs1 : List Loc), jInv o q S1 σ1 → lwI D Y s S0 ad S1 σ1 H1 locs1 → W p l e { frames := 2048, cells := s_lm S0 - s_nx S0, slots := s_sm S0 - s_sl S0, locals := 84000 } s m #[Value.ref b] below meth c H1 locs1 (s_nx S1 - s_nx S0) (s_sl S1 - s_sl S0) Q (F0 m 661 ls [])) : W p l e { frames := 2048, cells := s_lm S0 - s_nx S0, slots := s_sm S0 - s_sl S0, locals := 84000 } s m #[Value.ref b] below meth c H locs (s_nx S - s_nx S0) (s_sl S - s_sl S0) Q (F0 m 206 ls []) := by
  have hx := hX.1
  have hb := hX.2.1
  have hm := hX.2.2.1
  have ho := hX.2.2.2.1
  have ht := hX.2.2.2.2.1
  have hbA : ¬ lw_A s b := Nat.not_le.mpr hbl
  have hk := hV.K
  refine lv_aload_n hx hb dL_law_206 rfl (lv_at hl 1 rfl) ?_
  refine lv_aload_n hx hb dL_law_207 rfl (lv_at hl 0 rfl) ?_
  refine lv_iload_n hx hb dL_law_208 rfl (lv_at hl 3 rfl) ?_
  refine lv_iconst (v := 1) hx hb dL_law_209 (by decide) ?_
  refine lv_iadd hx hb dL_law_210 ?_
  refine va_sld hx hb hB hbl hbA hI.1.2.2 (in_scr (k := 1) (by omega) hL) dL_law_211 ?_
  refine lv_aload_n hx hb dL_law_212 rfl (lv_at hl 0 rfl) ?_
  refine lv_iload_n hx hb dL_law_213 rfl (lv_at hl 3 rfl) ?_
  refine lv_iconst (v := 2) hx hb dL_law_214 (by decide) ?_
  refine lv_iadd hx hb dL_law_215 ?_
  refine va_sld hx hb hB hbl hbA hI.1.2.2 (in_scr (k := 2) (by omega) hL) dL_law_216 ?_
  obtain ⟨r, S1, σ1, e1, e2, hV1⟩ := j_item hV ((xs (((nI i) + 1)).toNatClampNeg)) ((xs (((nI i) + 2)).toNatClampNeg))
  refine lw_doS hX hI (jq_okV (As := [.int (xs (((nI i) + 1)).toNatClampNeg), .int (xs (((nI i) + 2)).toNatClampNeg)]) (rest := []) hx hb hm ho ht (wJ.recv hX hI.1 (nz hk (by decide)) (wE_X10 hk) rfl) qw228 qw229 qw230 qw231 qw1 hy_X10_item rfl hl.1 (Nat.le_of_ble_eq_true rfl) dL_law_217) (fun A' => c_X10_item e1) (Nat.le_of_ble_eq_true rfl) (Nat.le_of_ble_eq_true rfl) (fun H locs hI' => ?_)
  clear hI
  have hI := hI'
  clear hI'
  refine lv_aload_n hx hb dL_law_220 rfl (lv_at hl 2 rfl) ?_
  refine lv_aload_n hx hb dL_law_221 rfl (lv_at hl 0 rfl) ?_
  refine lv_iload_n hx hb dL_law_222 rfl (lv_at hl 3 rfl) ?_
  refine lv_iconst (v := 1) hx hb dL_law_223 (by decide) ?_
  refine lv_iadd hx hb dL_law_224 ?_
  refine va_sld hx hb hB hbl hbA hI.1.2.2 (in_scr (k := 1) (by omega) hL) dL_law_225 ?_
  refine lv_aload_n hx hb dL_law_226 rfl (lv_at hl 0 rfl) ?_
  refine lv_iload_n hx hb dL_law_227 rfl (lv_at hl 3 rfl) ?_
  refine lv_iconst (v := 2) hx hb dL_law_228 (by decide) ?_
  refine lv_iadd hx hb dL_law_229 ?_
  refine va_sld hx hb hB hbl hbA hI.1.2.2 (in_scr (k := 2) (by omega) hL) dL_law_230 ?_
  refine lw_doM hX hI hn (jq_okV (As := [.int (xs (((nI i) + 1)).toNatClampNeg), .int (xs (((nI i) + 2)).toNatClampNeg)]) (rest := [.long r]) hx hb hm ho ht (mJ.recv hX ⟨hI.2.1, hI.1.2.2⟩) qw832 qw833 qw834 qw835 qw7 hy_X11_item rfl hl.1 (Nat.le_of_ble_eq_true rfl) dL_law_231) (fun A' => c_X11_item e2) (Nat.le_of_ble_eq_true rfl) (Nat.le_of_ble_eq_true rfl) (fun H locs hI' => ?_)
  clear hI
  have hI := hI'
  clear hI'
  refine W.lcmp hx hb dL_law_234 ?_
  refine lv_if_eq (x := lg_cmp r r) (tgt := 661) hx hb dL_law_235 (by decide) (fun _ => ?_) (fun z => absurd (qc_eq.mpr rfl) z)
  exact kk S1 σ1 H locs hV1 hI
set_option maxHeartbeats 4000000 in
set_option maxRecDepth 100000 in
theorem case_size (hX : jq_X D Y aR (lw_A s) p s m #[Value.ref b] meth c cL_law RL nm 4 rt) (hB : va_X b L xs s s.heap) (hbl : b < s.heap.size) (hn : s_nx S0 = s.heap.size) (hi : i + 7 ≤ L) (hL : L ≤ 3584) (hV : jInv o (q + 1) S σ) (hI : lwI D Y s S0 ad S σ H locs) (hl : lv_has ls 4 [(0, .ref b), (1, .ref o), (2, .ref (ad 0)), (3, .int (nI i))])
    (kk : ∀ (S1 : wS) (σ1 : mS) (H1 : Heap) (locs1 : List Loc), jInv o q S1 σ1 → lwI D Y s S0 ad S1 σ1 H1 locs1 → W p l e { frames := 2048, cells := s_lm S0 - s_nx S0, slots := s_sm S0 - s_sl S0, locals := 84000 } s m #[Value.ref b] below meth c H1 locs1 (s_nx S1 - s_nx S0) (s_sl S1 - s_sl S0) Q (F0 m 661 ls [])) : W p l e { frames := 2048, cells := s_lm S0 - s_nx S0, slots := s_sm S0 - s_sl S0, locals := 84000 } s m #[Value.ref b] below meth c H locs (s_nx S - s_nx S0) (s_sl S - s_sl S0) Q (F0 m 240 ls []) := by
  have hx := hX.1
  have hb := hX.2.1
  have hm := hX.2.2.1
  have ho := hX.2.2.2.1
  have ht := hX.2.2.2.2.1
  have hbA : ¬ lw_A s b := Nat.not_le.mpr hbl
  have hk := hV.K
  refine lv_aload_n hx hb dL_law_240 rfl (lv_at hl 1 rfl) ?_
  refine lv_aload_n hx hb dL_law_241 rfl (lv_at hl 0 rfl) ?_
  refine lv_iload_n hx hb dL_law_242 rfl (lv_at hl 3 rfl) ?_
  refine lv_iconst (v := 1) hx hb dL_law_243 (by decide) ?_
  refine lv_iadd hx hb dL_law_244 ?_
  refine va_sld hx hb hB hbl hbA hI.1.2.2 (in_scr (k := 1) (by omega) hL) dL_law_245 ?_
  obtain ⟨r, S1, σ1, e1, e2, hV1⟩ := j_size hV ((xs (((nI i) + 1)).toNatClampNeg))
  refine lw_doS hX hI (jq_okV (As := [.int (xs (((nI i) + 1)).toNatClampNeg)]) (rest := []) hx hb hm ho ht (wJ.recv hX hI.1 (nz hk (by decide)) (wE_X10 hk) rfl) qw236 qw237 qw238 qw239 qw1 hy_X10_size rfl hl.1 (Nat.le_of_ble_eq_true rfl) dL_law_246) (fun A' => c_X10_size e1) (Nat.le_of_ble_eq_true rfl) (Nat.le_of_ble_eq_true rfl) (fun H locs hI' => ?_)
  clear hI
  have hI := hI'
  clear hI'
  refine lv_aload_n hx hb dL_law_249 rfl (lv_at hl 2 rfl) ?_
  refine lv_aload_n hx hb dL_law_250 rfl (lv_at hl 0 rfl) ?_
  refine lv_iload_n hx hb dL_law_251 rfl (lv_at hl 3 rfl) ?_
  refine lv_iconst (v := 1) hx hb dL_law_252 (by decide) ?_
  refine lv_iadd hx hb dL_law_253 ?_
  refine va_sld hx hb hB hbl hbA hI.1.2.2 (in_scr (k := 1) (by omega) hL) dL_law_254 ?_
  refine lw_doM hX hI hn (jq_okV (As := [.int (xs (((nI i) + 1)).toNatClampNeg)]) (rest := [.int r]) hx hb hm ho ht (mJ.recv hX ⟨hI.2.1, hI.1.2.2⟩) qw836 qw837 qw838 qw839 qw7 hy_X11_size rfl hl.1 (Nat.le_of_ble_eq_true rfl) dL_law_255) (fun A' => c_X11_size e2) (Nat.le_of_ble_eq_true rfl) (Nat.le_of_ble_eq_true rfl) (fun H locs hI' => ?_)
  clear hI
  have hI := hI'
  clear hI'
  refine lv_icmp_eq (tgt := 661) hx hb dL_law_258 (by decide) (fun _ => ?_) (fun z => absurd rfl z)
  exact kk S1 σ1 H locs hV1 hI
set_option maxHeartbeats 4000000 in
set_option maxRecDepth 100000 in
theorem case_type (hX : jq_X D Y aR (lw_A s) p s m #[Value.ref b] meth c cL_law RL nm 4 rt) (hB : va_X b L xs s s.heap) (hbl : b < s.heap.size) (hn : s_nx S0 = s.heap.size) (hi : i + 7 ≤ L) (hL : L ≤ 3584) (hV : jInv o (q + 1) S σ) (hI : lwI D Y s S0 ad S σ H locs) (hl : lv_has ls 4 [(0, .ref b), (1, .ref o), (2, .ref (ad 0)), (3, .int (nI i))])
    (kk : ∀ (S1 : wS) (σ1 : mS) (H1 : Heap) (locs1 : List Loc), jInv o q S1 σ1 → lwI D Y s S0 ad S1 σ1 H1 locs1 → W p l e { frames := 2048, cells := s_lm S0 - s_nx S0, slots := s_sm S0 - s_sl S0, locals := 84000 } s m #[Value.ref b] below meth c H1 locs1 (s_nx S1 - s_nx S0) (s_sl S1 - s_sl S0) Q (F0 m 661 ls [])) : W p l e { frames := 2048, cells := s_lm S0 - s_nx S0, slots := s_sm S0 - s_sl S0, locals := 84000 } s m #[Value.ref b] below meth c H locs (s_nx S - s_nx S0) (s_sl S - s_sl S0) Q (F0 m 263 ls []) := by
  have hx := hX.1
  have hb := hX.2.1
  have hm := hX.2.2.1
  have ho := hX.2.2.2.1
  have ht := hX.2.2.2.2.1
  have hbA : ¬ lw_A s b := Nat.not_le.mpr hbl
  have hk := hV.K
  refine lv_aload_n hx hb dL_law_263 rfl (lv_at hl 1 rfl) ?_
  refine lv_aload_n hx hb dL_law_264 rfl (lv_at hl 0 rfl) ?_
  refine lv_iload_n hx hb dL_law_265 rfl (lv_at hl 3 rfl) ?_
  refine lv_iconst (v := 1) hx hb dL_law_266 (by decide) ?_
  refine lv_iadd hx hb dL_law_267 ?_
  refine va_sld hx hb hB hbl hbA hI.1.2.2 (in_scr (k := 1) (by omega) hL) dL_law_268 ?_
  refine lv_aload_n hx hb dL_law_269 rfl (lv_at hl 0 rfl) ?_
  refine lv_iload_n hx hb dL_law_270 rfl (lv_at hl 3 rfl) ?_
  refine lv_iconst (v := 2) hx hb dL_law_271 (by decide) ?_
  refine lv_iadd hx hb dL_law_272 ?_
  refine va_sld hx hb hB hbl hbA hI.1.2.2 (in_scr (k := 2) (by omega) hL) dL_law_273 ?_
  refine lv_aload_n hx hb dL_law_274 rfl (lv_at hl 0 rfl) ?_
  refine lv_iload_n hx hb dL_law_275 rfl (lv_at hl 3 rfl) ?_
  refine lv_iconst (v := 3) hx hb dL_law_276 (by decide) ?_
  refine lv_iadd hx hb dL_law_277 ?_
  refine va_sld hx hb hB hbl hbA hI.1.2.2 (in_scr (k := 3) (by omega) hL) dL_law_278 ?_
  refine lv_aload_n hx hb dL_law_279 rfl (lv_at hl 0 rfl) ?_
  refine lv_iload_n hx hb dL_law_280 rfl (lv_at hl 3 rfl) ?_
  refine lv_iconst (v := 4) hx hb dL_law_281 (by decide) ?_
  refine lv_iadd hx hb dL_law_282 ?_
  refine va_sld hx hb hB hbl hbA hI.1.2.2 (in_scr (k := 4) (by omega) hL) dL_law_283 ?_
  refine lv_aload_n hx hb dL_law_284 rfl (lv_at hl 0 rfl) ?_
  refine lv_iload_n hx hb dL_law_285 rfl (lv_at hl 3 rfl) ?_
  refine lv_iconst (v := 5) hx hb dL_law_286 (by decide) ?_
  refine lv_iadd hx hb dL_law_287 ?_
  refine va_sld hx hb hB hbl hbA hI.1.2.2 (in_scr (k := 5) (by omega) hL) dL_law_288 ?_
  refine lv_aload_n hx hb dL_law_289 rfl (lv_at hl 0 rfl) ?_
  refine lv_iload_n hx hb dL_law_290 rfl (lv_at hl 3 rfl) ?_
  refine lv_bipush (v := 6) hx hb dL_law_291 (by decide) ?_
  refine lv_iadd hx hb dL_law_293 ?_
  refine va_sld hx hb hB hbl hbA hI.1.2.2 (in_scr (k := 6) (by omega) hL) dL_law_294 ?_
  obtain ⟨r, S1, σ1, e1, e2, hV1⟩ := j_type hV ((xs (((nI i) + 1)).toNatClampNeg)) ((xs (((nI i) + 2)).toNatClampNeg)) ((xs (((nI i) + 3)).toNatClampNeg)) ((xs (((nI i) + 4)).toNatClampNeg)) ((xs (((nI i) + 5)).toNatClampNeg)) ((xs (((nI i) + 6)).toNatClampNeg))
  refine lw_doS hX hI (jq_okV (As := [.int (xs (((nI i) + 1)).toNatClampNeg), .int (xs (((nI i) + 2)).toNatClampNeg), .int (xs (((nI i) + 3)).toNatClampNeg), .int (xs (((nI i) + 4)).toNatClampNeg), .int (xs (((nI i) + 5)).toNatClampNeg), .int (xs (((nI i) + 6)).toNatClampNeg)]) (rest := []) hx hb hm ho ht (wJ.recv hX hI.1 (nz hk (by decide)) (wE_X10 hk) rfl) qw244 qw245 qw246 qw247 qw1 hy_X10_type rfl hl.1 (Nat.le_of_ble_eq_true rfl) dL_law_295) (fun A' => c_X10_type e1) (Nat.le_of_ble_eq_true rfl) (Nat.le_of_ble_eq_true rfl) (fun H locs hI' => ?_)
  clear hI
  have hI := hI'
  clear hI'
  refine lv_aload_n hx hb dL_law_298 rfl (lv_at hl 2 rfl) ?_
  refine lv_aload_n hx hb dL_law_299 rfl (lv_at hl 0 rfl) ?_
  refine lv_iload_n hx hb dL_law_300 rfl (lv_at hl 3 rfl) ?_
  refine lv_iconst (v := 1) hx hb dL_law_301 (by decide) ?_
  refine lv_iadd hx hb dL_law_302 ?_
  refine va_sld hx hb hB hbl hbA hI.1.2.2 (in_scr (k := 1) (by omega) hL) dL_law_303 ?_
  refine lv_aload_n hx hb dL_law_304 rfl (lv_at hl 0 rfl) ?_
  refine lv_iload_n hx hb dL_law_305 rfl (lv_at hl 3 rfl) ?_
  refine lv_iconst (v := 2) hx hb dL_law_306 (by decide) ?_
  refine lv_iadd hx hb dL_law_307 ?_
  refine va_sld hx hb hB hbl hbA hI.1.2.2 (in_scr (k := 2) (by omega) hL) dL_law_308 ?_
  refine lv_aload_n hx hb dL_law_309 rfl (lv_at hl 0 rfl) ?_
  refine lv_iload_n hx hb dL_law_310 rfl (lv_at hl 3 rfl) ?_
  refine lv_iconst (v := 3) hx hb dL_law_311 (by decide) ?_
  refine lv_iadd hx hb dL_law_312 ?_
  refine va_sld hx hb hB hbl hbA hI.1.2.2 (in_scr (k := 3) (by omega) hL) dL_law_313 ?_
  refine lv_aload_n hx hb dL_law_314 rfl (lv_at hl 0 rfl) ?_
  refine lv_iload_n hx hb dL_law_315 rfl (lv_at hl 3 rfl) ?_
  refine lv_iconst (v := 4) hx hb dL_law_316 (by decide) ?_
  refine lv_iadd hx hb dL_law_317 ?_
  refine va_sld hx hb hB hbl hbA hI.1.2.2 (in_scr (k := 4) (by omega) hL) dL_law_318 ?_
  refine lv_aload_n hx hb dL_law_319 rfl (lv_at hl 0 rfl) ?_
  refine lv_iload_n hx hb dL_law_320 rfl (lv_at hl 3 rfl) ?_
  refine lv_iconst (v := 5) hx hb dL_law_321 (by decide) ?_
  refine lv_iadd hx hb dL_law_322 ?_
  refine va_sld hx hb hB hbl hbA hI.1.2.2 (in_scr (k := 5) (by omega) hL) dL_law_323 ?_
  refine lv_aload_n hx hb dL_law_324 rfl (lv_at hl 0 rfl) ?_
  refine lv_iload_n hx hb dL_law_325 rfl (lv_at hl 3 rfl) ?_
  refine lv_bipush (v := 6) hx hb dL_law_326 (by decide) ?_
  refine lv_iadd hx hb dL_law_328 ?_
  refine va_sld hx hb hB hbl hbA hI.1.2.2 (in_scr (k := 6) (by omega) hL) dL_law_329 ?_
  refine lw_doM hX hI hn (jq_okV (As := [.int (xs (((nI i) + 1)).toNatClampNeg), .int (xs (((nI i) + 2)).toNatClampNeg), .int (xs (((nI i) + 3)).toNatClampNeg), .int (xs (((nI i) + 4)).toNatClampNeg), .int (xs (((nI i) + 5)).toNatClampNeg), .int (xs (((nI i) + 6)).toNatClampNeg)]) (rest := [.int r]) hx hb hm ho ht (mJ.recv hX ⟨hI.2.1, hI.1.2.2⟩) qw840 qw841 qw842 qw843 qw7 hy_X11_type rfl hl.1 (Nat.le_of_ble_eq_true rfl) dL_law_330) (fun A' => c_X11_type e2) (Nat.le_of_ble_eq_true rfl) (Nat.le_of_ble_eq_true rfl) (fun H locs hI' => ?_)
  clear hI
  have hI := hI'
  clear hI'
  refine lv_icmp_eq (tgt := 661) hx hb dL_law_333 (by decide) (fun _ => ?_) (fun z => absurd rfl z)
  exact kk S1 σ1 H locs hV1 hI
set_option maxHeartbeats 4000000 in
set_option maxRecDepth 100000 in
theorem case_make (hX : jq_X D Y aR (lw_A s) p s m #[Value.ref b] meth c cL_law RL nm 4 rt) (hB : va_X b L xs s s.heap) (hbl : b < s.heap.size) (hn : s_nx S0 = s.heap.size) (hi : i + 7 ≤ L) (hL : L ≤ 3584) (hV : jInv o (q + 1) S σ) (hI : lwI D Y s S0 ad S σ H locs) (hl : lv_has ls 4 [(0, .ref b), (1, .ref o), (2, .ref (ad 0)), (3, .int (nI i))])
    (kk : ∀ (S1 : wS) (σ1 : mS) (H1 : Heap) (locs1 : List Loc), jInv o q S1 σ1 → lwI D Y s S0 ad S1 σ1 H1 locs1 → W p l e { frames := 2048, cells := s_lm S0 - s_nx S0, slots := s_sm S0 - s_sl S0, locals := 84000 } s m #[Value.ref b] below meth c H1 locs1 (s_nx S1 - s_nx S0) (s_sl S1 - s_sl S0) Q (F0 m 661 ls [])) : W p l e { frames := 2048, cells := s_lm S0 - s_nx S0, slots := s_sm S0 - s_sl S0, locals := 84000 } s m #[Value.ref b] below meth c H locs (s_nx S - s_nx S0) (s_sl S - s_sl S0) Q (F0 m 338 ls []) := by
  have hx := hX.1
  have hb := hX.2.1
  have hm := hX.2.2.1
  have ho := hX.2.2.2.1
  have ht := hX.2.2.2.2.1
  have hbA : ¬ lw_A s b := Nat.not_le.mpr hbl
  have hk := hV.K
  refine lv_aload_n hx hb dL_law_338 rfl (lv_at hl 1 rfl) ?_
  refine lv_aload_n hx hb dL_law_339 rfl (lv_at hl 0 rfl) ?_
  refine lv_iload_n hx hb dL_law_340 rfl (lv_at hl 3 rfl) ?_
  refine lv_iconst (v := 1) hx hb dL_law_341 (by decide) ?_
  refine lv_iadd hx hb dL_law_342 ?_
  refine va_sld hx hb hB hbl hbA hI.1.2.2 (in_scr (k := 1) (by omega) hL) dL_law_343 ?_
  refine lv_aload_n hx hb dL_law_344 rfl (lv_at hl 0 rfl) ?_
  refine lv_iload_n hx hb dL_law_345 rfl (lv_at hl 3 rfl) ?_
  refine lv_iconst (v := 2) hx hb dL_law_346 (by decide) ?_
  refine lv_iadd hx hb dL_law_347 ?_
  refine va_sld hx hb hB hbl hbA hI.1.2.2 (in_scr (k := 2) (by omega) hL) dL_law_348 ?_
  refine lv_aload_n hx hb dL_law_349 rfl (lv_at hl 0 rfl) ?_
  refine lv_iload_n hx hb dL_law_350 rfl (lv_at hl 3 rfl) ?_
  refine lv_iconst (v := 3) hx hb dL_law_351 (by decide) ?_
  refine lv_iadd hx hb dL_law_352 ?_
  refine va_sld hx hb hB hbl hbA hI.1.2.2 (in_scr (k := 3) (by omega) hL) dL_law_353 ?_
  refine lv_aload_n hx hb dL_law_354 rfl (lv_at hl 0 rfl) ?_
  refine lv_iload_n hx hb dL_law_355 rfl (lv_at hl 3 rfl) ?_
  refine lv_iconst (v := 4) hx hb dL_law_356 (by decide) ?_
  refine lv_iadd hx hb dL_law_357 ?_
  refine va_sld hx hb hB hbl hbA hI.1.2.2 (in_scr (k := 4) (by omega) hL) dL_law_358 ?_
  refine lv_aload_n hx hb dL_law_359 rfl (lv_at hl 0 rfl) ?_
  refine lv_iload_n hx hb dL_law_360 rfl (lv_at hl 3 rfl) ?_
  refine lv_iconst (v := 5) hx hb dL_law_361 (by decide) ?_
  refine lv_iadd hx hb dL_law_362 ?_
  refine va_sld hx hb hB hbl hbA hI.1.2.2 (in_scr (k := 5) (by omega) hL) dL_law_363 ?_
  refine lv_i2l hx hb dL_law_364 rfl ?_
  refine lv_bipush (v := 32) hx hb dL_law_365 (by decide) ?_
  refine lv_lshl hx hb dL_law_367 rfl ?_
  refine lv_aload_n hx hb dL_law_368 rfl (lv_at hl 0 rfl) ?_
  refine lv_iload_n hx hb dL_law_369 rfl (lv_at hl 3 rfl) ?_
  refine lv_bipush (v := 6) hx hb dL_law_370 (by decide) ?_
  refine lv_iadd hx hb dL_law_372 ?_
  refine va_sld hx hb hB hbl hbA hI.1.2.2 (in_scr (k := 6) (by omega) hL) dL_law_373 ?_
  refine lv_i2l hx hb dL_law_374 rfl ?_
  refine lv_ldc2 (v := 4294967295) hx hb ho (ht _ qw1069) dL_law_375 ?_
  refine lv_land hx hb dL_law_378 ?_
  refine lv_lor hx hb dL_law_379 ?_
  obtain ⟨r, S1, σ1, e1, e2, hV1⟩ := j_make hV ((xs (((nI i) + 1)).toNatClampNeg)) ((xs (((nI i) + 2)).toNatClampNeg)) ((xs (((nI i) + 3)).toNatClampNeg)) ((xs (((nI i) + 4)).toNatClampNeg)) (((((xs (((nI i) + 5)).toNatClampNeg)).toInt64 <<< ((32 : Int32).toInt64 &&& 63)) ||| (((xs (((nI i) + 6)).toNatClampNeg)).toInt64 &&& 4294967295)))
  refine lw_doS hX hI (jq_okV (As := [.int (xs (((nI i) + 1)).toNatClampNeg), .int (xs (((nI i) + 2)).toNatClampNeg), .int (xs (((nI i) + 3)).toNatClampNeg), .int (xs (((nI i) + 4)).toNatClampNeg), .long ((((xs (((nI i) + 5)).toNatClampNeg)).toInt64 <<< ((32 : Int32).toInt64 &&& 63)) ||| (((xs (((nI i) + 6)).toNatClampNeg)).toInt64 &&& 4294967295))]) (rest := []) hx hb hm ho ht (wJ.recv hX hI.1 (nz hk (by decide)) (wE_X10 hk) rfl) qw251 qw252 qw253 qw254 qw1 hy_X10_make rfl hl.1 (Nat.le_of_ble_eq_true rfl) dL_law_380) (fun A' => c_X10_make e1) (Nat.le_of_ble_eq_true rfl) (Nat.le_of_ble_eq_true rfl) (fun H locs hI' => ?_)
  clear hI
  have hI := hI'
  clear hI'
  refine lv_aload_n hx hb dL_law_383 rfl (lv_at hl 2 rfl) ?_
  refine lv_aload_n hx hb dL_law_384 rfl (lv_at hl 0 rfl) ?_
  refine lv_iload_n hx hb dL_law_385 rfl (lv_at hl 3 rfl) ?_
  refine lv_iconst (v := 1) hx hb dL_law_386 (by decide) ?_
  refine lv_iadd hx hb dL_law_387 ?_
  refine va_sld hx hb hB hbl hbA hI.1.2.2 (in_scr (k := 1) (by omega) hL) dL_law_388 ?_
  refine lv_aload_n hx hb dL_law_389 rfl (lv_at hl 0 rfl) ?_
  refine lv_iload_n hx hb dL_law_390 rfl (lv_at hl 3 rfl) ?_
  refine lv_iconst (v := 2) hx hb dL_law_391 (by decide) ?_
  refine lv_iadd hx hb dL_law_392 ?_
  refine va_sld hx hb hB hbl hbA hI.1.2.2 (in_scr (k := 2) (by omega) hL) dL_law_393 ?_
  refine lv_aload_n hx hb dL_law_394 rfl (lv_at hl 0 rfl) ?_
  refine lv_iload_n hx hb dL_law_395 rfl (lv_at hl 3 rfl) ?_
  refine lv_iconst (v := 3) hx hb dL_law_396 (by decide) ?_
  refine lv_iadd hx hb dL_law_397 ?_
  refine va_sld hx hb hB hbl hbA hI.1.2.2 (in_scr (k := 3) (by omega) hL) dL_law_398 ?_
  refine lv_aload_n hx hb dL_law_399 rfl (lv_at hl 0 rfl) ?_
  refine lv_iload_n hx hb dL_law_400 rfl (lv_at hl 3 rfl) ?_
  refine lv_iconst (v := 4) hx hb dL_law_401 (by decide) ?_
  refine lv_iadd hx hb dL_law_402 ?_
  refine va_sld hx hb hB hbl hbA hI.1.2.2 (in_scr (k := 4) (by omega) hL) dL_law_403 ?_
  refine lv_aload_n hx hb dL_law_404 rfl (lv_at hl 0 rfl) ?_
  refine lv_iload_n hx hb dL_law_405 rfl (lv_at hl 3 rfl) ?_
  refine lv_iconst (v := 5) hx hb dL_law_406 (by decide) ?_
  refine lv_iadd hx hb dL_law_407 ?_
  refine va_sld hx hb hB hbl hbA hI.1.2.2 (in_scr (k := 5) (by omega) hL) dL_law_408 ?_
  refine lv_i2l hx hb dL_law_409 rfl ?_
  refine lv_bipush (v := 32) hx hb dL_law_410 (by decide) ?_
  refine lv_lshl hx hb dL_law_412 rfl ?_
  refine lv_aload_n hx hb dL_law_413 rfl (lv_at hl 0 rfl) ?_
  refine lv_iload_n hx hb dL_law_414 rfl (lv_at hl 3 rfl) ?_
  refine lv_bipush (v := 6) hx hb dL_law_415 (by decide) ?_
  refine lv_iadd hx hb dL_law_417 ?_
  refine va_sld hx hb hB hbl hbA hI.1.2.2 (in_scr (k := 6) (by omega) hL) dL_law_418 ?_
  refine lv_i2l hx hb dL_law_419 rfl ?_
  refine lv_ldc2 (v := 4294967295) hx hb ho (ht _ qw1069) dL_law_420 ?_
  refine lv_land hx hb dL_law_423 ?_
  refine lv_lor hx hb dL_law_424 ?_
  refine lw_doM hX hI hn (jq_okV (As := [.int (xs (((nI i) + 1)).toNatClampNeg), .int (xs (((nI i) + 2)).toNatClampNeg), .int (xs (((nI i) + 3)).toNatClampNeg), .int (xs (((nI i) + 4)).toNatClampNeg), .long ((((xs (((nI i) + 5)).toNatClampNeg)).toInt64 <<< ((32 : Int32).toInt64 &&& 63)) ||| (((xs (((nI i) + 6)).toNatClampNeg)).toInt64 &&& 4294967295))]) (rest := [.int r]) hx hb hm ho ht (mJ.recv hX ⟨hI.2.1, hI.1.2.2⟩) qw849 qw850 qw851 qw852 qw7 hy_X11_make rfl hl.1 (Nat.le_of_ble_eq_true rfl) dL_law_425) (fun A' => c_X11_make e2) (Nat.le_of_ble_eq_true rfl) (Nat.le_of_ble_eq_true rfl) (fun H locs hI' => ?_)
  clear hI
  have hI := hI'
  clear hI'
  refine lv_icmp_eq (tgt := 661) hx hb dL_law_428 (by decide) (fun _ => ?_) (fun z => absurd rfl z)
  exact kk S1 σ1 H locs hV1 hI
set_option maxHeartbeats 4000000 in
set_option maxRecDepth 100000 in
theorem case_told (hX : jq_X D Y aR (lw_A s) p s m #[Value.ref b] meth c cL_law RL nm 4 rt) (hB : va_X b L xs s s.heap) (hbl : b < s.heap.size) (hn : s_nx S0 = s.heap.size) (hi : i + 7 ≤ L) (hL : L ≤ 3584) (hV : jInv o (q + 1) S σ) (hI : lwI D Y s S0 ad S σ H locs) (hl : lv_has ls 4 [(0, .ref b), (1, .ref o), (2, .ref (ad 0)), (3, .int (nI i))])
    (kk : ∀ (S1 : wS) (σ1 : mS) (H1 : Heap) (locs1 : List Loc), jInv o q S1 σ1 → lwI D Y s S0 ad S1 σ1 H1 locs1 → W p l e { frames := 2048, cells := s_lm S0 - s_nx S0, slots := s_sm S0 - s_sl S0, locals := 84000 } s m #[Value.ref b] below meth c H1 locs1 (s_nx S1 - s_nx S0) (s_sl S1 - s_sl S0) Q (F0 m 661 ls [])) : W p l e { frames := 2048, cells := s_lm S0 - s_nx S0, slots := s_sm S0 - s_sl S0, locals := 84000 } s m #[Value.ref b] below meth c H locs (s_nx S - s_nx S0) (s_sl S - s_sl S0) Q (F0 m 433 ls []) := by
  have hx := hX.1
  have hb := hX.2.1
  have hm := hX.2.2.1
  have ho := hX.2.2.2.1
  have ht := hX.2.2.2.2.1
  have hbA : ¬ lw_A s b := Nat.not_le.mpr hbl
  have hk := hV.K
  refine lv_aload_n hx hb dL_law_433 rfl (lv_at hl 1 rfl) ?_
  refine lv_aload_n hx hb dL_law_434 rfl (lv_at hl 0 rfl) ?_
  refine lv_iload_n hx hb dL_law_435 rfl (lv_at hl 3 rfl) ?_
  refine lv_iconst (v := 1) hx hb dL_law_436 (by decide) ?_
  refine lv_iadd hx hb dL_law_437 ?_
  refine va_sld hx hb hB hbl hbA hI.1.2.2 (in_scr (k := 1) (by omega) hL) dL_law_438 ?_
  refine lv_aload_n hx hb dL_law_439 rfl (lv_at hl 0 rfl) ?_
  refine lv_iload_n hx hb dL_law_440 rfl (lv_at hl 3 rfl) ?_
  refine lv_iconst (v := 2) hx hb dL_law_441 (by decide) ?_
  refine lv_iadd hx hb dL_law_442 ?_
  refine va_sld hx hb hB hbl hbA hI.1.2.2 (in_scr (k := 2) (by omega) hL) dL_law_443 ?_
  obtain ⟨r, S1, σ1, e1, e2, hV1⟩ := j_told hV ((xs (((nI i) + 1)).toNatClampNeg)) ((xs (((nI i) + 2)).toNatClampNeg))
  refine lw_doS hX hI (jq_okV (As := [.int (xs (((nI i) + 1)).toNatClampNeg), .int (xs (((nI i) + 2)).toNatClampNeg)]) (rest := []) hx hb hm ho ht (wJ.recv hX hI.1 (nz hk (by decide)) (wE_X10 hk) rfl) qw455 qw456 qw457 qw458 qw1 hy_X10_told rfl hl.1 (Nat.le_of_ble_eq_true rfl) dL_law_444) (fun A' => c_X10_told e1) (Nat.le_of_ble_eq_true rfl) (Nat.le_of_ble_eq_true rfl) (fun H locs hI' => ?_)
  clear hI
  have hI := hI'
  clear hI'
  refine lv_aload_n hx hb dL_law_447 rfl (lv_at hl 2 rfl) ?_
  refine lv_aload_n hx hb dL_law_448 rfl (lv_at hl 0 rfl) ?_
  refine lv_iload_n hx hb dL_law_449 rfl (lv_at hl 3 rfl) ?_
  refine lv_iconst (v := 1) hx hb dL_law_450 (by decide) ?_
  refine lv_iadd hx hb dL_law_451 ?_
  refine va_sld hx hb hB hbl hbA hI.1.2.2 (in_scr (k := 1) (by omega) hL) dL_law_452 ?_
  refine lv_aload_n hx hb dL_law_453 rfl (lv_at hl 0 rfl) ?_
  refine lv_iload_n hx hb dL_law_454 rfl (lv_at hl 3 rfl) ?_
  refine lv_iconst (v := 2) hx hb dL_law_455 (by decide) ?_
  refine lv_iadd hx hb dL_law_456 ?_
  refine va_sld hx hb hB hbl hbA hI.1.2.2 (in_scr (k := 2) (by omega) hL) dL_law_457 ?_
  refine lw_doM hX hI hn (jq_okV (As := [.int (xs (((nI i) + 1)).toNatClampNeg), .int (xs (((nI i) + 2)).toNatClampNeg)]) (rest := [.int r]) hx hb hm ho ht (mJ.recv hX ⟨hI.2.1, hI.1.2.2⟩) qw929 qw930 qw931 qw932 qw7 hy_X11_told rfl hl.1 (Nat.le_of_ble_eq_true rfl) dL_law_458) (fun A' => c_X11_told e2) (Nat.le_of_ble_eq_true rfl) (Nat.le_of_ble_eq_true rfl) (fun H locs hI' => ?_)
  clear hI
  have hI := hI'
  clear hI'
  refine lv_icmp_eq (tgt := 661) hx hb dL_law_461 (by decide) (fun _ => ?_) (fun z => absurd rfl z)
  exact kk S1 σ1 H locs hV1 hI
set_option maxHeartbeats 4000000 in
set_option maxRecDepth 100000 in
theorem case_fits (hX : jq_X D Y aR (lw_A s) p s m #[Value.ref b] meth c cL_law RL nm 4 rt) (hB : va_X b L xs s s.heap) (hbl : b < s.heap.size) (hn : s_nx S0 = s.heap.size) (hi : i + 7 ≤ L) (hL : L ≤ 3584) (hV : jInv o (q + 1) S σ) (hI : lwI D Y s S0 ad S σ H locs) (hl : lv_has ls 4 [(0, .ref b), (1, .ref o), (2, .ref (ad 0)), (3, .int (nI i))])
    (kk : ∀ (S1 : wS) (σ1 : mS) (H1 : Heap) (locs1 : List Loc), jInv o q S1 σ1 → lwI D Y s S0 ad S1 σ1 H1 locs1 → W p l e { frames := 2048, cells := s_lm S0 - s_nx S0, slots := s_sm S0 - s_sl S0, locals := 84000 } s m #[Value.ref b] below meth c H1 locs1 (s_nx S1 - s_nx S0) (s_sl S1 - s_sl S0) Q (F0 m 661 ls [])) : W p l e { frames := 2048, cells := s_lm S0 - s_nx S0, slots := s_sm S0 - s_sl S0, locals := 84000 } s m #[Value.ref b] below meth c H locs (s_nx S - s_nx S0) (s_sl S - s_sl S0) Q (F0 m 466 ls []) := by
  have hx := hX.1
  have hb := hX.2.1
  have hm := hX.2.2.1
  have ho := hX.2.2.2.1
  have ht := hX.2.2.2.2.1
  have hbA : ¬ lw_A s b := Nat.not_le.mpr hbl
  have hk := hV.K
  refine lv_aload_n hx hb dL_law_466 rfl (lv_at hl 1 rfl) ?_
  refine lv_aload_n hx hb dL_law_467 rfl (lv_at hl 0 rfl) ?_
  refine lv_iload_n hx hb dL_law_468 rfl (lv_at hl 3 rfl) ?_
  refine lv_iconst (v := 1) hx hb dL_law_469 (by decide) ?_
  refine lv_iadd hx hb dL_law_470 ?_
  refine va_sld hx hb hB hbl hbA hI.1.2.2 (in_scr (k := 1) (by omega) hL) dL_law_471 ?_
  obtain ⟨r, S1, σ1, e1, e2, hV1⟩ := j_fits hV ((xs (((nI i) + 1)).toNatClampNeg))
  refine lw_doS hX hI (jq_okV (As := [.int (xs (((nI i) + 1)).toNatClampNeg)]) (rest := []) hx hb hm ho ht (wJ.recv hX hI.1 (nz hk (by decide)) (wE_X10 hk) rfl) qw461 qw462 qw463 qw464 qw1 hy_X10_fits rfl hl.1 (Nat.le_of_ble_eq_true rfl) dL_law_472) (fun A' => c_X10_fits e1) (Nat.le_of_ble_eq_true rfl) (Nat.le_of_ble_eq_true rfl) (fun H locs hI' => ?_)
  clear hI
  have hI := hI'
  clear hI'
  refine lv_aload_n hx hb dL_law_475 rfl (lv_at hl 2 rfl) ?_
  refine lv_aload_n hx hb dL_law_476 rfl (lv_at hl 0 rfl) ?_
  refine lv_iload_n hx hb dL_law_477 rfl (lv_at hl 3 rfl) ?_
  refine lv_iconst (v := 1) hx hb dL_law_478 (by decide) ?_
  refine lv_iadd hx hb dL_law_479 ?_
  refine va_sld hx hb hB hbl hbA hI.1.2.2 (in_scr (k := 1) (by omega) hL) dL_law_480 ?_
  refine lw_doM hX hI hn (jq_okV (As := [.int (xs (((nI i) + 1)).toNatClampNeg)]) (rest := [.int r]) hx hb hm ho ht (mJ.recv hX ⟨hI.2.1, hI.1.2.2⟩) qw933 qw934 qw935 qw936 qw7 hy_X11_fits rfl hl.1 (Nat.le_of_ble_eq_true rfl) dL_law_481) (fun A' => c_X11_fits e2) (Nat.le_of_ble_eq_true rfl) (Nat.le_of_ble_eq_true rfl) (fun H locs hI' => ?_)
  clear hI
  have hI := hI'
  clear hI'
  refine lv_icmp_eq (tgt := 661) hx hb dL_law_484 (by decide) (fun _ => ?_) (fun z => absurd rfl z)
  exact kk S1 σ1 H locs hV1 hI
set_option maxHeartbeats 4000000 in
set_option maxRecDepth 100000 in
theorem case_give (hX : jq_X D Y aR (lw_A s) p s m #[Value.ref b] meth c cL_law RL nm 4 rt) (hB : va_X b L xs s s.heap) (hbl : b < s.heap.size) (hn : s_nx S0 = s.heap.size) (hi : i + 7 ≤ L) (hL : L ≤ 3584) (hV : jInv o (q + 1) S σ) (hI : lwI D Y s S0 ad S σ H locs) (hl : lv_has ls 4 [(0, .ref b), (1, .ref o), (2, .ref (ad 0)), (3, .int (nI i))])
    (kk : ∀ (S1 : wS) (σ1 : mS) (H1 : Heap) (locs1 : List Loc), jInv o q S1 σ1 → lwI D Y s S0 ad S1 σ1 H1 locs1 → W p l e { frames := 2048, cells := s_lm S0 - s_nx S0, slots := s_sm S0 - s_sl S0, locals := 84000 } s m #[Value.ref b] below meth c H1 locs1 (s_nx S1 - s_nx S0) (s_sl S1 - s_sl S0) Q (F0 m 661 ls [])) : W p l e { frames := 2048, cells := s_lm S0 - s_nx S0, slots := s_sm S0 - s_sl S0, locals := 84000 } s m #[Value.ref b] below meth c H locs (s_nx S - s_nx S0) (s_sl S - s_sl S0) Q (F0 m 489 ls []) := by
  have hx := hX.1
  have hb := hX.2.1
  have hm := hX.2.2.1
  have ho := hX.2.2.2.1
  have ht := hX.2.2.2.2.1
  have hbA : ¬ lw_A s b := Nat.not_le.mpr hbl
  have hk := hV.K
  refine lv_aload_n hx hb dL_law_489 rfl (lv_at hl 1 rfl) ?_
  refine lv_aload_n hx hb dL_law_490 rfl (lv_at hl 0 rfl) ?_
  refine lv_iload_n hx hb dL_law_491 rfl (lv_at hl 3 rfl) ?_
  refine lv_iconst (v := 1) hx hb dL_law_492 (by decide) ?_
  refine lv_iadd hx hb dL_law_493 ?_
  refine va_sld hx hb hB hbl hbA hI.1.2.2 (in_scr (k := 1) (by omega) hL) dL_law_494 ?_
  refine lv_aload_n hx hb dL_law_495 rfl (lv_at hl 0 rfl) ?_
  refine lv_iload_n hx hb dL_law_496 rfl (lv_at hl 3 rfl) ?_
  refine lv_iconst (v := 2) hx hb dL_law_497 (by decide) ?_
  refine lv_iadd hx hb dL_law_498 ?_
  refine va_sld hx hb hB hbl hbA hI.1.2.2 (in_scr (k := 2) (by omega) hL) dL_law_499 ?_
  refine lv_i2l hx hb dL_law_500 rfl ?_
  refine lv_bipush (v := 32) hx hb dL_law_501 (by decide) ?_
  refine lv_lshl hx hb dL_law_503 rfl ?_
  refine lv_aload_n hx hb dL_law_504 rfl (lv_at hl 0 rfl) ?_
  refine lv_iload_n hx hb dL_law_505 rfl (lv_at hl 3 rfl) ?_
  refine lv_iconst (v := 3) hx hb dL_law_506 (by decide) ?_
  refine lv_iadd hx hb dL_law_507 ?_
  refine va_sld hx hb hB hbl hbA hI.1.2.2 (in_scr (k := 3) (by omega) hL) dL_law_508 ?_
  refine lv_i2l hx hb dL_law_509 rfl ?_
  refine lv_ldc2 (v := 4294967295) hx hb ho (ht _ qw1069) dL_law_510 ?_
  refine lv_land hx hb dL_law_513 ?_
  refine lv_lor hx hb dL_law_514 ?_
  obtain ⟨r, S1, σ1, e1, e2, hV1⟩ := j_give hV ((xs (((nI i) + 1)).toNatClampNeg)) (((((xs (((nI i) + 2)).toNatClampNeg)).toInt64 <<< ((32 : Int32).toInt64 &&& 63)) ||| (((xs (((nI i) + 3)).toNatClampNeg)).toInt64 &&& 4294967295)))
  refine lw_doS hX hI (jq_okV (As := [.int (xs (((nI i) + 1)).toNatClampNeg), .long ((((xs (((nI i) + 2)).toNatClampNeg)).toInt64 <<< ((32 : Int32).toInt64 &&& 63)) ||| (((xs (((nI i) + 3)).toNatClampNeg)).toInt64 &&& 4294967295))]) (rest := []) hx hb hm ho ht (wJ.recv hX hI.1 (nz hk (by decide)) (wE_X10 hk) rfl) qw467 qw468 qw469 qw470 qw1 hy_X10_give rfl hl.1 (Nat.le_of_ble_eq_true rfl) dL_law_515) (fun A' => c_X10_give e1) (Nat.le_of_ble_eq_true rfl) (Nat.le_of_ble_eq_true rfl) (fun H locs hI' => ?_)
  clear hI
  have hI := hI'
  clear hI'
  refine lv_aload_n hx hb dL_law_518 rfl (lv_at hl 2 rfl) ?_
  refine lv_aload_n hx hb dL_law_519 rfl (lv_at hl 0 rfl) ?_
  refine lv_iload_n hx hb dL_law_520 rfl (lv_at hl 3 rfl) ?_
  refine lv_iconst (v := 1) hx hb dL_law_521 (by decide) ?_
  refine lv_iadd hx hb dL_law_522 ?_
  refine va_sld hx hb hB hbl hbA hI.1.2.2 (in_scr (k := 1) (by omega) hL) dL_law_523 ?_
  refine lv_aload_n hx hb dL_law_524 rfl (lv_at hl 0 rfl) ?_
  refine lv_iload_n hx hb dL_law_525 rfl (lv_at hl 3 rfl) ?_
  refine lv_iconst (v := 2) hx hb dL_law_526 (by decide) ?_
  refine lv_iadd hx hb dL_law_527 ?_
  refine va_sld hx hb hB hbl hbA hI.1.2.2 (in_scr (k := 2) (by omega) hL) dL_law_528 ?_
  refine lv_i2l hx hb dL_law_529 rfl ?_
  refine lv_bipush (v := 32) hx hb dL_law_530 (by decide) ?_
  refine lv_lshl hx hb dL_law_532 rfl ?_
  refine lv_aload_n hx hb dL_law_533 rfl (lv_at hl 0 rfl) ?_
  refine lv_iload_n hx hb dL_law_534 rfl (lv_at hl 3 rfl) ?_
  refine lv_iconst (v := 3) hx hb dL_law_535 (by decide) ?_
  refine lv_iadd hx hb dL_law_536 ?_
  refine va_sld hx hb hB hbl hbA hI.1.2.2 (in_scr (k := 3) (by omega) hL) dL_law_537 ?_
  refine lv_i2l hx hb dL_law_538 rfl ?_
  refine lv_ldc2 (v := 4294967295) hx hb ho (ht _ qw1069) dL_law_539 ?_
  refine lv_land hx hb dL_law_542 ?_
  refine lv_lor hx hb dL_law_543 ?_
  refine lw_doM hX hI hn (jq_okV (As := [.int (xs (((nI i) + 1)).toNatClampNeg), .long ((((xs (((nI i) + 2)).toNatClampNeg)).toInt64 <<< ((32 : Int32).toInt64 &&& 63)) ||| (((xs (((nI i) + 3)).toNatClampNeg)).toInt64 &&& 4294967295))]) (rest := [.int r]) hx hb hm ho ht (mJ.recv hX ⟨hI.2.1, hI.1.2.2⟩) qw941 qw942 qw943 qw944 qw7 hy_X11_give rfl hl.1 (Nat.le_of_ble_eq_true rfl) dL_law_544) (fun A' => c_X11_give e2) (Nat.le_of_ble_eq_true rfl) (Nat.le_of_ble_eq_true rfl) (fun H locs hI' => ?_)
  clear hI
  have hI := hI'
  clear hI'
  refine lv_icmp_eq (tgt := 661) hx hb dL_law_547 (by decide) (fun _ => ?_) (fun z => absurd rfl z)
  exact kk S1 σ1 H locs hV1 hI
set_option maxHeartbeats 4000000 in
set_option maxRecDepth 100000 in
theorem case_run (hX : jq_X D Y aR (lw_A s) p s m #[Value.ref b] meth c cL_law RL nm 4 rt) (hB : va_X b L xs s s.heap) (hbl : b < s.heap.size) (hn : s_nx S0 = s.heap.size) (hi : i + 7 ≤ L) (hL : L ≤ 3584) (hV : jInv o (q + 1) S σ) (hI : lwI D Y s S0 ad S σ H locs) (hl : lv_has ls 4 [(0, .ref b), (1, .ref o), (2, .ref (ad 0)), (3, .int (nI i))])
    (kk : ∀ (S1 : wS) (σ1 : mS) (H1 : Heap) (locs1 : List Loc), jInv o q S1 σ1 → lwI D Y s S0 ad S1 σ1 H1 locs1 → W p l e { frames := 2048, cells := s_lm S0 - s_nx S0, slots := s_sm S0 - s_sl S0, locals := 84000 } s m #[Value.ref b] below meth c H1 locs1 (s_nx S1 - s_nx S0) (s_sl S1 - s_sl S0) Q (F0 m 661 ls [])) : W p l e { frames := 2048, cells := s_lm S0 - s_nx S0, slots := s_sm S0 - s_sl S0, locals := 84000 } s m #[Value.ref b] below meth c H locs (s_nx S - s_nx S0) (s_sl S - s_sl S0) Q (F0 m 552 ls []) := by
  have hx := hX.1
  have hb := hX.2.1
  have hm := hX.2.2.1
  have ho := hX.2.2.2.1
  have ht := hX.2.2.2.2.1
  have hbA : ¬ lw_A s b := Nat.not_le.mpr hbl
  have hk := hV.K
  refine lv_aload_n hx hb dL_law_552 rfl (lv_at hl 1 rfl) ?_
  refine lv_aload_n hx hb dL_law_553 rfl (lv_at hl 0 rfl) ?_
  refine lv_iload_n hx hb dL_law_554 rfl (lv_at hl 3 rfl) ?_
  refine lv_iconst (v := 1) hx hb dL_law_555 (by decide) ?_
  refine lv_iadd hx hb dL_law_556 ?_
  refine va_sld hx hb hB hbl hbA hI.1.2.2 (in_scr (k := 1) (by omega) hL) dL_law_557 ?_
  refine lv_aload_n hx hb dL_law_558 rfl (lv_at hl 0 rfl) ?_
  refine lv_iload_n hx hb dL_law_559 rfl (lv_at hl 3 rfl) ?_
  refine lv_iconst (v := 2) hx hb dL_law_560 (by decide) ?_
  refine lv_iadd hx hb dL_law_561 ?_
  refine va_sld hx hb hB hbl hbA hI.1.2.2 (in_scr (k := 2) (by omega) hL) dL_law_562 ?_
  refine lv_if_eq (tgt := 570) hx hb dL_law_563 (by decide) (fun cz => ?_) (fun cz => ?_)
  · refine lv_iconst (v := 0) hx hb dL_law_570 (by decide) ?_
    obtain ⟨r, S1, σ1, e1, e2, hV1⟩ := j_run hV ((xs (((nI i) + 1)).toNatClampNeg)) (0)
    refine lw_doS hX hI (jq_okV (As := [.int (xs (((nI i) + 1)).toNatClampNeg), .int 0]) (rest := []) hx hb hm ho ht (wJ.recv hX hI.1 (nz hk (by decide)) (wE_X10 hk) rfl) qw471 qw472 qw473 qw474 qw1 hy_X10_run rfl hl.1 (Nat.le_of_ble_eq_true rfl) dL_law_571) (fun A' => c_X10_run e1) (Nat.le_of_ble_eq_true rfl) (Nat.le_of_ble_eq_true rfl) (fun H locs hI' => ?_)
    clear hI
    have hI := hI'
    clear hI'
    refine lv_aload_n hx hb dL_law_574 rfl (lv_at hl 2 rfl) ?_
    refine lv_aload_n hx hb dL_law_575 rfl (lv_at hl 0 rfl) ?_
    refine lv_iload_n hx hb dL_law_576 rfl (lv_at hl 3 rfl) ?_
    refine lv_iconst (v := 1) hx hb dL_law_577 (by decide) ?_
    refine lv_iadd hx hb dL_law_578 ?_
    refine va_sld hx hb hB hbl hbA hI.1.2.2 (in_scr (k := 1) (by omega) hL) dL_law_579 ?_
    refine lv_aload_n hx hb dL_law_580 rfl (lv_at hl 0 rfl) ?_
    refine lv_iload_n hx hb dL_law_581 rfl (lv_at hl 3 rfl) ?_
    refine lv_iconst (v := 2) hx hb dL_law_582 (by decide) ?_
    refine lv_iadd hx hb dL_law_583 ?_
    refine va_sld hx hb hB hbl hbA hI.1.2.2 (in_scr (k := 2) (by omega) hL) dL_law_584 ?_
    refine lv_if_eq (tgt := 592) hx hb dL_law_585 (by decide) (fun _ => ?_) (fun z => absurd cz z)
    refine lv_iconst (v := 0) hx hb dL_law_592 (by decide) ?_
    refine lw_doM hX hI hn (jq_okV (As := [.int (xs (((nI i) + 1)).toNatClampNeg), .int 0]) (rest := [.int r]) hx hb hm ho ht (mJ.recv hX ⟨hI.2.1, hI.1.2.2⟩) qw946 qw947 qw948 qw949 qw7 hy_X11_run rfl hl.1 (Nat.le_of_ble_eq_true rfl) dL_law_593) (fun A' => c_X11_run e2) (Nat.le_of_ble_eq_true rfl) (Nat.le_of_ble_eq_true rfl) (fun H locs hI' => ?_)
    clear hI
    have hI := hI'
    clear hI'
    refine lv_icmp_eq (tgt := 661) hx hb dL_law_596 (by decide) (fun _ => ?_) (fun z => absurd rfl z)
    exact kk S1 σ1 H locs hV1 hI
  · refine lv_iconst (v := 1) hx hb dL_law_566 (by decide) ?_
    refine lv_goto (tgt := 571) hx hb dL_law_567 (by decide) ?_
    obtain ⟨r, S1, σ1, e1, e2, hV1⟩ := j_run hV ((xs (((nI i) + 1)).toNatClampNeg)) (1)
    refine lw_doS hX hI (jq_okV (As := [.int (xs (((nI i) + 1)).toNatClampNeg), .int 1]) (rest := []) hx hb hm ho ht (wJ.recv hX hI.1 (nz hk (by decide)) (wE_X10 hk) rfl) qw471 qw472 qw473 qw474 qw1 hy_X10_run rfl hl.1 (Nat.le_of_ble_eq_true rfl) dL_law_571) (fun A' => c_X10_run e1) (Nat.le_of_ble_eq_true rfl) (Nat.le_of_ble_eq_true rfl) (fun H locs hI' => ?_)
    clear hI
    have hI := hI'
    clear hI'
    refine lv_aload_n hx hb dL_law_574 rfl (lv_at hl 2 rfl) ?_
    refine lv_aload_n hx hb dL_law_575 rfl (lv_at hl 0 rfl) ?_
    refine lv_iload_n hx hb dL_law_576 rfl (lv_at hl 3 rfl) ?_
    refine lv_iconst (v := 1) hx hb dL_law_577 (by decide) ?_
    refine lv_iadd hx hb dL_law_578 ?_
    refine va_sld hx hb hB hbl hbA hI.1.2.2 (in_scr (k := 1) (by omega) hL) dL_law_579 ?_
    refine lv_aload_n hx hb dL_law_580 rfl (lv_at hl 0 rfl) ?_
    refine lv_iload_n hx hb dL_law_581 rfl (lv_at hl 3 rfl) ?_
    refine lv_iconst (v := 2) hx hb dL_law_582 (by decide) ?_
    refine lv_iadd hx hb dL_law_583 ?_
    refine va_sld hx hb hB hbl hbA hI.1.2.2 (in_scr (k := 2) (by omega) hL) dL_law_584 ?_
    refine lv_if_eq (tgt := 592) hx hb dL_law_585 (by decide) (fun z => absurd z cz) (fun _ => ?_)
    refine lv_iconst (v := 1) hx hb dL_law_588 (by decide) ?_
    refine lv_goto (tgt := 593) hx hb dL_law_589 (by decide) ?_
    refine lw_doM hX hI hn (jq_okV (As := [.int (xs (((nI i) + 1)).toNatClampNeg), .int 1]) (rest := [.int r]) hx hb hm ho ht (mJ.recv hX ⟨hI.2.1, hI.1.2.2⟩) qw946 qw947 qw948 qw949 qw7 hy_X11_run rfl hl.1 (Nat.le_of_ble_eq_true rfl) dL_law_593) (fun A' => c_X11_run e2) (Nat.le_of_ble_eq_true rfl) (Nat.le_of_ble_eq_true rfl) (fun H locs hI' => ?_)
    clear hI
    have hI := hI'
    clear hI'
    refine lv_icmp_eq (tgt := 661) hx hb dL_law_596 (by decide) (fun _ => ?_) (fun z => absurd rfl z)
    exact kk S1 σ1 H locs hV1 hI
set_option maxHeartbeats 4000000 in
set_option maxRecDepth 100000 in
theorem case_value (hX : jq_X D Y aR (lw_A s) p s m #[Value.ref b] meth c cL_law RL nm 4 rt) (hB : va_X b L xs s s.heap) (hbl : b < s.heap.size) (hn : s_nx S0 = s.heap.size) (hi : i + 7 ≤ L) (hL : L ≤ 3584) (hV : jInv o (q + 1) S σ) (hI : lwI D Y s S0 ad S σ H locs) (hl : lv_has ls 4 [(0, .ref b), (1, .ref o), (2, .ref (ad 0)), (3, .int (nI i))])
    (kk : ∀ (S1 : wS) (σ1 : mS) (H1 : Heap) (locs1 : List Loc), jInv o q S1 σ1 → lwI D Y s S0 ad S1 σ1 H1 locs1 → W p l e { frames := 2048, cells := s_lm S0 - s_nx S0, slots := s_sm S0 - s_sl S0, locals := 84000 } s m #[Value.ref b] below meth c H1 locs1 (s_nx S1 - s_nx S0) (s_sl S1 - s_sl S0) Q (F0 m 661 ls [])) : W p l e { frames := 2048, cells := s_lm S0 - s_nx S0, slots := s_sm S0 - s_sl S0, locals := 84000 } s m #[Value.ref b] below meth c H locs (s_nx S - s_nx S0) (s_sl S - s_sl S0) Q (F0 m 601 ls []) := by
  have hx := hX.1
  have hb := hX.2.1
  have hm := hX.2.2.1
  have ho := hX.2.2.2.1
  have ht := hX.2.2.2.2.1
  have hbA : ¬ lw_A s b := Nat.not_le.mpr hbl
  have hk := hV.K
  refine lv_aload_n hx hb dL_law_601 rfl (lv_at hl 1 rfl) ?_
  obtain ⟨r, S1, σ1, e1, e2, hV1⟩ := j_value hV 
  refine lw_doS hX hI (jq_okV (As := []) (rest := []) hx hb hm ho ht (wJ.recv hX hI.1 (nz hk (by decide)) (wE_X10 hk) rfl) qw671 qw672 qw673 qw674 qw1 hy_X10_value rfl hl.1 (Nat.le_of_ble_eq_true rfl) dL_law_602) (fun A' => c_X10_value e1) (Nat.le_of_ble_eq_true rfl) (Nat.le_of_ble_eq_true rfl) (fun H locs hI' => ?_)
  clear hI
  have hI := hI'
  clear hI'
  refine lv_aload_n hx hb dL_law_605 rfl (lv_at hl 2 rfl) ?_
  refine lw_doM hX hI hn (jq_okV (As := []) (rest := [.long r]) hx hb hm ho ht (mJ.recv hX ⟨hI.2.1, hI.1.2.2⟩) qw1057 qw1058 qw1059 qw1060 qw7 hy_X11_value rfl hl.1 (Nat.le_of_ble_eq_true rfl) dL_law_606) (fun A' => c_X11_value e2) (Nat.le_of_ble_eq_true rfl) (Nat.le_of_ble_eq_true rfl) (fun H locs hI' => ?_)
  clear hI
  have hI := hI'
  clear hI'
  refine W.lcmp hx hb dL_law_609 ?_
  refine lv_if_eq (x := lg_cmp r r) (tgt := 661) hx hb dL_law_610 (by decide) (fun _ => ?_) (fun z => absurd (qc_eq.mpr rfl) z)
  exact kk S1 σ1 H locs hV1 hI
set_option maxHeartbeats 4000000 in
set_option maxRecDepth 100000 in
theorem case_last (hX : jq_X D Y aR (lw_A s) p s m #[Value.ref b] meth c cL_law RL nm 4 rt) (hB : va_X b L xs s s.heap) (hbl : b < s.heap.size) (hn : s_nx S0 = s.heap.size) (hi : i + 7 ≤ L) (hL : L ≤ 3584) (hV : jInv o (q + 1) S σ) (hI : lwI D Y s S0 ad S σ H locs) (hl : lv_has ls 4 [(0, .ref b), (1, .ref o), (2, .ref (ad 0)), (3, .int (nI i))])
    (kk : ∀ (S1 : wS) (σ1 : mS) (H1 : Heap) (locs1 : List Loc), jInv o q S1 σ1 → lwI D Y s S0 ad S1 σ1 H1 locs1 → W p l e { frames := 2048, cells := s_lm S0 - s_nx S0, slots := s_sm S0 - s_sl S0, locals := 84000 } s m #[Value.ref b] below meth c H1 locs1 (s_nx S1 - s_nx S0) (s_sl S1 - s_sl S0) Q (F0 m 661 ls [])) : W p l e { frames := 2048, cells := s_lm S0 - s_nx S0, slots := s_sm S0 - s_sl S0, locals := 84000 } s m #[Value.ref b] below meth c H locs (s_nx S - s_nx S0) (s_sl S - s_sl S0) Q (F0 m 615 ls []) := by
  have hx := hX.1
  have hb := hX.2.1
  have hm := hX.2.2.1
  have ho := hX.2.2.2.1
  have ht := hX.2.2.2.2.1
  have hbA : ¬ lw_A s b := Nat.not_le.mpr hbl
  have hk := hV.K
  refine lv_aload_n hx hb dL_law_615 rfl (lv_at hl 1 rfl) ?_
  refine lv_aload_n hx hb dL_law_616 rfl (lv_at hl 0 rfl) ?_
  refine lv_iload_n hx hb dL_law_617 rfl (lv_at hl 3 rfl) ?_
  refine lv_iconst (v := 1) hx hb dL_law_618 (by decide) ?_
  refine lv_iadd hx hb dL_law_619 ?_
  refine va_sld hx hb hB hbl hbA hI.1.2.2 (in_scr (k := 1) (by omega) hL) dL_law_620 ?_
  obtain ⟨r, S1, σ1, e1, e2, hV1⟩ := j_last hV ((xs (((nI i) + 1)).toNatClampNeg))
  refine lw_doS hX hI (jq_okV (As := [.int (xs (((nI i) + 1)).toNatClampNeg)]) (rest := []) hx hb hm ho ht (wJ.recv hX hI.1 (nz hk (by decide)) (wE_X10 hk) rfl) qw675 qw676 qw677 qw678 qw1 hy_X10_last rfl hl.1 (Nat.le_of_ble_eq_true rfl) dL_law_621) (fun A' => c_X10_last e1) (Nat.le_of_ble_eq_true rfl) (Nat.le_of_ble_eq_true rfl) (fun H locs hI' => ?_)
  clear hI
  have hI := hI'
  clear hI'
  refine lv_aload_n hx hb dL_law_624 rfl (lv_at hl 2 rfl) ?_
  refine lv_aload_n hx hb dL_law_625 rfl (lv_at hl 0 rfl) ?_
  refine lv_iload_n hx hb dL_law_626 rfl (lv_at hl 3 rfl) ?_
  refine lv_iconst (v := 1) hx hb dL_law_627 (by decide) ?_
  refine lv_iadd hx hb dL_law_628 ?_
  refine va_sld hx hb hB hbl hbA hI.1.2.2 (in_scr (k := 1) (by omega) hL) dL_law_629 ?_
  refine lw_doM hX hI hn (jq_okV (As := [.int (xs (((nI i) + 1)).toNatClampNeg)]) (rest := [.int r]) hx hb hm ho ht (mJ.recv hX ⟨hI.2.1, hI.1.2.2⟩) qw1061 qw1062 qw1063 qw1064 qw7 hy_X11_last rfl hl.1 (Nat.le_of_ble_eq_true rfl) dL_law_630) (fun A' => c_X11_last e2) (Nat.le_of_ble_eq_true rfl) (Nat.le_of_ble_eq_true rfl) (fun H locs hI' => ?_)
  clear hI
  have hI := hI'
  clear hI'
  refine lv_icmp_eq (tgt := 661) hx hb dL_law_633 (by decide) (fun _ => ?_) (fun z => absurd rfl z)
  exact kk S1 σ1 H locs hV1 hI
set_option maxHeartbeats 4000000 in
set_option maxRecDepth 100000 in
theorem case_count (hX : jq_X D Y aR (lw_A s) p s m #[Value.ref b] meth c cL_law RL nm 4 rt) (hB : va_X b L xs s s.heap) (hbl : b < s.heap.size) (hn : s_nx S0 = s.heap.size) (hi : i + 7 ≤ L) (hL : L ≤ 3584) (hV : jInv o (q + 1) S σ) (hI : lwI D Y s S0 ad S σ H locs) (hl : lv_has ls 4 [(0, .ref b), (1, .ref o), (2, .ref (ad 0)), (3, .int (nI i))])
    (kk : ∀ (S1 : wS) (σ1 : mS) (H1 : Heap) (locs1 : List Loc), jInv o q S1 σ1 → lwI D Y s S0 ad S1 σ1 H1 locs1 → W p l e { frames := 2048, cells := s_lm S0 - s_nx S0, slots := s_sm S0 - s_sl S0, locals := 84000 } s m #[Value.ref b] below meth c H1 locs1 (s_nx S1 - s_nx S0) (s_sl S1 - s_sl S0) Q (F0 m 661 ls [])) : W p l e { frames := 2048, cells := s_lm S0 - s_nx S0, slots := s_sm S0 - s_sl S0, locals := 84000 } s m #[Value.ref b] below meth c H locs (s_nx S - s_nx S0) (s_sl S - s_sl S0) Q (F0 m 638 ls []) := by
  have hx := hX.1
  have hb := hX.2.1
  have hm := hX.2.2.1
  have ho := hX.2.2.2.1
  have ht := hX.2.2.2.2.1
  have hbA : ¬ lw_A s b := Nat.not_le.mpr hbl
  have hk := hV.K
  refine lv_aload_n hx hb dL_law_638 rfl (lv_at hl 1 rfl) ?_
  refine lv_aload_n hx hb dL_law_639 rfl (lv_at hl 0 rfl) ?_
  refine lv_iload_n hx hb dL_law_640 rfl (lv_at hl 3 rfl) ?_
  refine lv_iconst (v := 1) hx hb dL_law_641 (by decide) ?_
  refine lv_iadd hx hb dL_law_642 ?_
  refine va_sld hx hb hB hbl hbA hI.1.2.2 (in_scr (k := 1) (by omega) hL) dL_law_643 ?_
  obtain ⟨r, S1, σ1, e1, e2, hV1⟩ := j_count hV ((xs (((nI i) + 1)).toNatClampNeg))
  refine lw_doS hX hI (jq_okV (As := [.int (xs (((nI i) + 1)).toNatClampNeg)]) (rest := []) hx hb hm ho ht (wJ.recv hX hI.1 (nz hk (by decide)) (wE_X10 hk) rfl) qw679 qw680 qw681 qw682 qw1 hy_X10_count rfl hl.1 (Nat.le_of_ble_eq_true rfl) dL_law_644) (fun A' => c_X10_count e1) (Nat.le_of_ble_eq_true rfl) (Nat.le_of_ble_eq_true rfl) (fun H locs hI' => ?_)
  clear hI
  have hI := hI'
  clear hI'
  refine lv_aload_n hx hb dL_law_647 rfl (lv_at hl 2 rfl) ?_
  refine lv_aload_n hx hb dL_law_648 rfl (lv_at hl 0 rfl) ?_
  refine lv_iload_n hx hb dL_law_649 rfl (lv_at hl 3 rfl) ?_
  refine lv_iconst (v := 1) hx hb dL_law_650 (by decide) ?_
  refine lv_iadd hx hb dL_law_651 ?_
  refine va_sld hx hb hB hbl hbA hI.1.2.2 (in_scr (k := 1) (by omega) hL) dL_law_652 ?_
  refine lw_doM hX hI hn (jq_okV (As := [.int (xs (((nI i) + 1)).toNatClampNeg)]) (rest := [.int r]) hx hb hm ho ht (mJ.recv hX ⟨hI.2.1, hI.1.2.2⟩) qw1065 qw1066 qw1067 qw1068 qw7 hy_X11_count rfl hl.1 (Nat.le_of_ble_eq_true rfl) dL_law_653) (fun A' => c_X11_count e2) (Nat.le_of_ble_eq_true rfl) (Nat.le_of_ble_eq_true rfl) (fun H locs hI' => ?_)
  clear hI
  have hI := hI'
  clear hI'
  refine lv_icmp_eq (tgt := 661) hx hb dL_law_656 (by decide) (fun _ => ?_) (fun z => absurd rfl z)
  exact kk S1 σ1 H locs hV1 hI
end CASES
