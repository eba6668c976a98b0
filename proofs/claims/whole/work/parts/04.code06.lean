theorem zd_M_put_44 : decode ze_M_put 44 = .ok (.iconst 1, 1) := by decide +kernel
theorem zd_M_put_45 : decode ze_M_put 45 = .ok (.ireturn, 1) := by decide +kernel
theorem zd_L_law_0 : decode ze_L_law 0 = .ok (.new 7, 3) := by decide +kernel
theorem zd_L_law_3 : decode ze_L_law 3 = .ok (.dup, 1) := by decide +kernel
theorem zd_L_law_4 : decode ze_L_law 4 = .ok (.invokespecial 9, 3) := by decide +kernel
theorem zd_L_law_7 : decode ze_L_law 7 = .ok (.astore_n 1, 1) := by decide +kernel
theorem zd_L_law_8 : decode ze_L_law 8 = .ok (.new 10, 3) := by decide +kernel
theorem zd_L_law_11 : decode ze_L_law 11 = .ok (.dup, 1) := by decide +kernel
theorem zd_L_law_12 : decode ze_L_law 12 = .ok (.invokespecial 12, 3) := by decide +kernel
theorem zd_L_law_15 : decode ze_L_law 15 = .ok (.astore_n 2, 1) := by decide +kernel
theorem zd_L_law_16 : decode ze_L_law 16 = .ok (.iconst 0, 1) := by decide +kernel
theorem zd_L_law_17 : decode ze_L_law 17 = .ok (.istore_n 3, 1) := by decide +kernel
theorem zd_L_law_18 : decode ze_L_law 18 = .ok (.iload_n 3, 1) := by decide +kernel
theorem zd_L_law_19 : decode ze_L_law 19 = .ok (.aload_n 0, 1) := by decide +kernel
theorem zd_L_law_20 : decode ze_L_law 20 = .ok (.arraylength, 1) := by decide +kernel
theorem zd_L_law_21 : decode ze_L_law 21 = .ok (.bipush 8, 2) := by decide +kernel
theorem zd_L_law_23 : decode ze_L_law 23 = .ok (.isub, 1) := by decide +kernel
theorem zd_L_law_24 : decode ze_L_law 24 = .ok (.if_icmp .gt 831, 3) := by decide +kernel
theorem zd_L_law_27 : decode ze_L_law 27 = .ok (.aload_n 0, 1) := by decide +kernel
theorem zd_L_law_28 : decode ze_L_law 28 = .ok (.iload_n 3, 1) := by decide +kernel
theorem zd_L_law_29 : decode ze_L_law 29 = .ok (.iaload, 1) := by decide +kernel
theorem zd_L_law_30 : decode ze_L_law 30 = .ok (.bipush 31, 2) := by decide +kernel
theorem zd_L_law_32 : decode ze_L_law 32 = .ok (.iand, 1) := by decide +kernel
theorem zd_L_law_33 : decode ze_L_law 33 = .ok (.tableswitch 816 0 17 #[87, 110, 143, 154, 177, 240, 333, 344, 357, 370, 409, 432, 466, 500, 599, 622, 635, 669], 87) := by decide +kernel
theorem zd_L_law_120 : decode ze_L_law 120 = .ok (.aload_n 1, 1) := by decide +kernel
theorem zd_L_law_121 : decode ze_L_law 121 = .ok (.aload_n 0, 1) := by decide +kernel
theorem zd_L_law_122 : decode ze_L_law 122 = .ok (.iload_n 3, 1) := by decide +kernel
theorem zd_L_law_123 : decode ze_L_law 123 = .ok (.iconst 1, 1) := by decide +kernel
theorem zd_L_law_124 : decode ze_L_law 124 = .ok (.iadd, 1) := by decide +kernel
theorem zd_L_law_125 : decode ze_L_law 125 = .ok (.iaload, 1) := by decide +kernel
theorem zd_L_law_126 : decode ze_L_law 126 = .ok (.invokevirtual 13, 3) := by decide +kernel
theorem zd_L_law_129 : decode ze_L_law 129 = .ok (.aload_n 2, 1) := by decide +kernel
theorem zd_L_law_130 : decode ze_L_law 130 = .ok (.aload_n 0, 1) := by decide +kernel
theorem zd_L_law_131 : decode ze_L_law 131 = .ok (.iload_n 3, 1) := by decide +kernel
theorem zd_L_law_132 : decode ze_L_law 132 = .ok (.iconst 1, 1) := by decide +kernel
theorem zd_L_law_133 : decode ze_L_law 133 = .ok (.iadd, 1) := by decide +kernel
theorem zd_L_law_134 : decode ze_L_law 134 = .ok (.iaload, 1) := by decide +kernel
theorem zd_L_law_135 : decode ze_L_law 135 = .ok (.invokevirtual 17, 3) := by decide +kernel
theorem zd_L_law_138 : decode ze_L_law 138 = .ok (.if_icmp .eq 711, 3) := by decide +kernel
theorem zd_L_law_141 : decode ze_L_law 141 = .ok (.iconst 0, 1) := by decide +kernel
theorem zd_L_law_142 : decode ze_L_law 142 = .ok (.ireturn, 1) := by decide +kernel
theorem zd_L_law_143 : decode ze_L_law 143 = .ok (.aload_n 1, 1) := by decide +kernel
theorem zd_L_law_144 : decode ze_L_law 144 = .ok (.aload_n 0, 1) := by decide +kernel
theorem zd_L_law_145 : decode ze_L_law 145 = .ok (.iload_n 3, 1) := by decide +kernel
theorem zd_L_law_146 : decode ze_L_law 146 = .ok (.iconst 1, 1) := by decide +kernel
theorem zd_L_law_147 : decode ze_L_law 147 = .ok (.iadd, 1) := by decide +kernel
theorem zd_L_law_148 : decode ze_L_law 148 = .ok (.iaload, 1) := by decide +kernel
theorem zd_L_law_149 : decode ze_L_law 149 = .ok (.aload_n 0, 1) := by decide +kernel
theorem zd_L_law_150 : decode ze_L_law 150 = .ok (.iload_n 3, 1) := by decide +kernel
theorem zd_L_law_151 : decode ze_L_law 151 = .ok (.iconst 2, 1) := by decide +kernel
theorem zd_L_law_152 : decode ze_L_law 152 = .ok (.iadd, 1) := by decide +kernel
theorem zd_L_law_153 : decode ze_L_law 153 = .ok (.iaload, 1) := by decide +kernel
theorem zd_L_law_154 : decode ze_L_law 154 = .ok (.invokevirtual 18, 3) := by decide +kernel
theorem zd_L_law_157 : decode ze_L_law 157 = .ok (.aload_n 2, 1) := by decide +kernel
theorem zd_L_law_158 : decode ze_L_law 158 = .ok (.aload_n 0, 1) := by decide +kernel
theorem zd_L_law_159 : decode ze_L_law 159 = .ok (.iload_n 3, 1) := by decide +kernel
theorem zd_L_law_160 : decode ze_L_law 160 = .ok (.iconst 1, 1) := by decide +kernel
theorem zd_L_law_161 : decode ze_L_law 161 = .ok (.iadd, 1) := by decide +kernel
theorem zd_L_law_162 : decode ze_L_law 162 = .ok (.iaload, 1) := by decide +kernel
theorem zd_L_law_163 : decode ze_L_law 163 = .ok (.aload_n 0, 1) := by decide +kernel
theorem zd_L_law_164 : decode ze_L_law 164 = .ok (.iload_n 3, 1) := by decide +kernel
theorem zd_L_law_165 : decode ze_L_law 165 = .ok (.iconst 2, 1) := by decide +kernel
theorem zd_L_law_166 : decode ze_L_law 166 = .ok (.iadd, 1) := by decide +kernel
theorem zd_L_law_167 : decode ze_L_law 167 = .ok (.iaload, 1) := by decide +kernel
theorem zd_L_law_168 : decode ze_L_law 168 = .ok (.invokevirtual 22, 3) := by decide +kernel
theorem zd_L_law_171 : decode ze_L_law 171 = .ok (.if_icmp .eq 678, 3) := by decide +kernel
theorem zd_L_law_174 : decode ze_L_law 174 = .ok (.iconst 0, 1) := by decide +kernel
theorem zd_L_law_175 : decode ze_L_law 175 = .ok (.ireturn, 1) := by decide +kernel
theorem zd_L_law_176 : decode ze_L_law 176 = .ok (.aload_n 1, 1) := by decide +kernel
theorem zd_L_law_177 : decode ze_L_law 177 = .ok (.invokevirtual 23, 3) := by decide +kernel
theorem zd_L_law_180 : decode ze_L_law 180 = .ok (.aload_n 2, 1) := by decide +kernel
theorem zd_L_law_181 : decode ze_L_law 181 = .ok (.invokevirtual 26, 3) := by decide +kernel
theorem zd_L_law_184 : decode ze_L_law 184 = .ok (.goto 665, 3) := by decide +kernel
theorem zd_L_law_187 : decode ze_L_law 187 = .ok (.aload_n 1, 1) := by decide +kernel
theorem zd_L_law_188 : decode ze_L_law 188 = .ok (.aload_n 0, 1) := by decide +kernel
theorem zd_L_law_189 : decode ze_L_law 189 = .ok (.iload_n 3, 1) := by decide +kernel
theorem zd_L_law_190 : decode ze_L_law 190 = .ok (.iconst 1, 1) := by decide +kernel
theorem zd_L_law_191 : decode ze_L_law 191 = .ok (.iadd, 1) := by decide +kernel
theorem zd_L_law_192 : decode ze_L_law 192 = .ok (.iaload, 1) := by decide +kernel
theorem zd_L_law_193 : decode ze_L_law 193 = .ok (.invokevirtual 27, 3) := by decide +kernel
theorem zd_L_law_196 : decode ze_L_law 196 = .ok (.aload_n 2, 1) := by decide +kernel
theorem zd_L_law_197 : decode ze_L_law 197 = .ok (.aload_n 0, 1) := by decide +kernel
theorem zd_L_law_198 : decode ze_L_law 198 = .ok (.iload_n 3, 1) := by decide +kernel
theorem zd_L_law_199 : decode ze_L_law 199 = .ok (.iconst 1, 1) := by decide +kernel
theorem zd_L_law_200 : decode ze_L_law 200 = .ok (.iadd, 1) := by decide +kernel
theorem zd_L_law_201 : decode ze_L_law 201 = .ok (.iaload, 1) := by decide +kernel
theorem zd_L_law_202 : decode ze_L_law 202 = .ok (.invokevirtual 31, 3) := by decide +kernel
theorem zd_L_law_205 : decode ze_L_law 205 = .ok (.if_icmp .eq 644, 3) := by decide +kernel
theorem zd_L_law_208 : decode ze_L_law 208 = .ok (.iconst 0, 1) := by decide +kernel
theorem zd_L_law_209 : decode ze_L_law 209 = .ok (.ireturn, 1) := by decide +kernel
theorem zd_L_law_210 : decode ze_L_law 210 = .ok (.aload_n 1, 1) := by decide +kernel
theorem zd_L_law_211 : decode ze_L_law 211 = .ok (.aload_n 0, 1) := by decide +kernel
theorem zd_L_law_212 : decode ze_L_law 212 = .ok (.iload_n 3, 1) := by decide +kernel
theorem zd_L_law_213 : decode ze_L_law 213 = .ok (.iconst 1, 1) := by decide +kernel
theorem zd_L_law_214 : decode ze_L_law 214 = .ok (.iadd, 1) := by decide +kernel
theorem zd_L_law_215 : decode ze_L_law 215 = .ok (.iaload, 1) := by decide +kernel
theorem zd_L_law_216 : decode ze_L_law 216 = .ok (.aload_n 0, 1) := by decide +kernel
theorem zd_L_law_217 : decode ze_L_law 217 = .ok (.iload_n 3, 1) := by decide +kernel
theorem zd_L_law_218 : decode ze_L_law 218 = .ok (.iconst 2, 1) := by decide +kernel
theorem zd_L_law_219 : decode ze_L_law 219 = .ok (.iadd, 1) := by decide +kernel
theorem zd_L_law_220 : decode ze_L_law 220 = .ok (.iaload, 1) := by decide +kernel
theorem zd_L_law_221 : decode ze_L_law 221 = .ok (.i2l, 1) := by decide +kernel
theorem zd_L_law_222 : decode ze_L_law 222 = .ok (.bipush 32, 2) := by decide +kernel
theorem zd_L_law_224 : decode ze_L_law 224 = .ok (.lshl, 1) := by decide +kernel
theorem zd_L_law_225 : decode ze_L_law 225 = .ok (.aload_n 0, 1) := by decide +kernel
theorem zd_L_law_226 : decode ze_L_law 226 = .ok (.iload_n 3, 1) := by decide +kernel
theorem zd_L_law_227 : decode ze_L_law 227 = .ok (.iconst 3, 1) := by decide +kernel
theorem zd_L_law_228 : decode ze_L_law 228 = .ok (.iadd, 1) := by decide +kernel
theorem zd_L_law_229 : decode ze_L_law 229 = .ok (.iaload, 1) := by decide +kernel
theorem zd_L_law_230 : decode ze_L_law 230 = .ok (.i2l, 1) := by decide +kernel
theorem zd_L_law_231 : decode ze_L_law 231 = .ok (.ldc2_w 32, 3) := by decide +kernel
theorem zd_L_law_234 : decode ze_L_law 234 = .ok (.land, 1) := by decide +kernel
theorem zd_L_law_235 : decode ze_L_law 235 = .ok (.lor, 1) := by decide +kernel
theorem zd_L_law_236 : decode ze_L_law 236 = .ok (.invokevirtual 34, 3) := by decide +kernel
theorem zd_L_law_239 : decode ze_L_law 239 = .ok (.aload_n 2, 1) := by decide +kernel
theorem zd_L_law_240 : decode ze_L_law 240 = .ok (.aload_n 0, 1) := by decide +kernel
theorem zd_L_law_241 : decode ze_L_law 241 = .ok (.iload_n 3, 1) := by decide +kernel
theorem zd_L_law_242 : decode ze_L_law 242 = .ok (.iconst 1, 1) := by decide +kernel
theorem zd_L_law_243 : decode ze_L_law 243 = .ok (.iadd, 1) := by decide +kernel
theorem zd_L_law_244 : decode ze_L_law 244 = .ok (.iaload, 1) := by decide +kernel
theorem zd_L_law_245 : decode ze_L_law 245 = .ok (.aload_n 0, 1) := by decide +kernel
theorem zd_L_law_246 : decode ze_L_law 246 = .ok (.iload_n 3, 1) := by decide +kernel
theorem zd_L_law_247 : decode ze_L_law 247 = .ok (.iconst 2, 1) := by decide +kernel
theorem zd_L_law_248 : decode ze_L_law 248 = .ok (.iadd, 1) := by decide +kernel
theorem zd_L_law_249 : decode ze_L_law 249 = .ok (.iaload, 1) := by decide +kernel
theorem zd_L_law_250 : decode ze_L_law 250 = .ok (.i2l, 1) := by decide +kernel
theorem zd_L_law_251 : decode ze_L_law 251 = .ok (.bipush 32, 2) := by decide +kernel
theorem zd_L_law_253 : decode ze_L_law 253 = .ok (.lshl, 1) := by decide +kernel
theorem zd_L_law_254 : decode ze_L_law 254 = .ok (.aload_n 0, 1) := by decide +kernel
theorem zd_L_law_255 : decode ze_L_law 255 = .ok (.iload_n 3, 1) := by decide +kernel
theorem zd_L_law_256 : decode ze_L_law 256 = .ok (.iconst 3, 1) := by decide +kernel
theorem zd_L_law_257 : decode ze_L_law 257 = .ok (.iadd, 1) := by decide +kernel
theorem zd_L_law_258 : decode ze_L_law 258 = .ok (.iaload, 1) := by decide +kernel
theorem zd_L_law_259 : decode ze_L_law 259 = .ok (.i2l, 1) := by decide +kernel
theorem zd_L_law_260 : decode ze_L_law 260 = .ok (.ldc2_w 32, 3) := by decide +kernel
theorem zd_L_law_263 : decode ze_L_law 263 = .ok (.land, 1) := by decide +kernel
theorem zd_L_law_264 : decode ze_L_law 264 = .ok (.lor, 1) := by decide +kernel
theorem zd_L_law_265 : decode ze_L_law 265 = .ok (.invokevirtual 38, 3) := by decide +kernel
theorem zd_L_law_268 : decode ze_L_law 268 = .ok (.if_icmp .eq 581, 3) := by decide +kernel
theorem zd_L_law_271 : decode ze_L_law 271 = .ok (.iconst 0, 1) := by decide +kernel
theorem zd_L_law_272 : decode ze_L_law 272 = .ok (.ireturn, 1) := by decide +kernel
theorem zd_L_law_273 : decode ze_L_law 273 = .ok (.aload_n 1, 1) := by decide +kernel
theorem zd_L_law_274 : decode ze_L_law 274 = .ok (.aload_n 0, 1) := by decide +kernel
theorem zd_L_law_275 : decode ze_L_law 275 = .ok (.iload_n 3, 1) := by decide +kernel
theorem zd_L_law_276 : decode ze_L_law 276 = .ok (.iconst 1, 1) := by decide +kernel
theorem zd_L_law_277 : decode ze_L_law 277 = .ok (.iadd, 1) := by decide +kernel
theorem zd_L_law_278 : decode ze_L_law 278 = .ok (.iaload, 1) := by decide +kernel
theorem zd_L_law_279 : decode ze_L_law 279 = .ok (.i2l, 1) := by decide +kernel
theorem zd_L_law_280 : decode ze_L_law 280 = .ok (.bipush 32, 2) := by decide +kernel
theorem zd_L_law_282 : decode ze_L_law 282 = .ok (.lshl, 1) := by decide +kernel
theorem zd_L_law_283 : decode ze_L_law 283 = .ok (.aload_n 0, 1) := by decide +kernel
theorem zd_L_law_284 : decode ze_L_law 284 = .ok (.iload_n 3, 1) := by decide +kernel
theorem zd_L_law_285 : decode ze_L_law 285 = .ok (.iconst 2, 1) := by decide +kernel
theorem zd_L_law_286 : decode ze_L_law 286 = .ok (.iadd, 1) := by decide +kernel
theorem zd_L_law_287 : decode ze_L_law 287 = .ok (.iaload, 1) := by decide +kernel
theorem zd_L_law_288 : decode ze_L_law 288 = .ok (.i2l, 1) := by decide +kernel
theorem zd_L_law_289 : decode ze_L_law 289 = .ok (.ldc2_w 32, 3) := by decide +kernel
theorem zd_L_law_292 : decode ze_L_law 292 = .ok (.land, 1) := by decide +kernel
theorem zd_L_law_293 : decode ze_L_law 293 = .ok (.lor, 1) := by decide +kernel
theorem zd_L_law_294 : decode ze_L_law 294 = .ok (.aload_n 0, 1) := by decide +kernel
theorem zd_L_law_295 : decode ze_L_law 295 = .ok (.iload_n 3, 1) := by decide +kernel
theorem zd_L_law_296 : decode ze_L_law 296 = .ok (.iconst 3, 1) := by decide +kernel
theorem zd_L_law_297 : decode ze_L_law 297 = .ok (.iadd, 1) := by decide +kernel
theorem zd_L_law_298 : decode ze_L_law 298 = .ok (.iaload, 1) := by decide +kernel
theorem zd_L_law_299 : decode ze_L_law 299 = .ok (.i2l, 1) := by decide +kernel
theorem zd_L_law_300 : decode ze_L_law 300 = .ok (.bipush 32, 2) := by decide +kernel
theorem zd_L_law_302 : decode ze_L_law 302 = .ok (.lshl, 1) := by decide +kernel
theorem zd_L_law_303 : decode ze_L_law 303 = .ok (.aload_n 0, 1) := by decide +kernel
theorem zd_L_law_304 : decode ze_L_law 304 = .ok (.iload_n 3, 1) := by decide +kernel
theorem zd_L_law_305 : decode ze_L_law 305 = .ok (.iconst 4, 1) := by decide +kernel
theorem zd_L_law_306 : decode ze_L_law 306 = .ok (.iadd, 1) := by decide +kernel
theorem zd_L_law_307 : decode ze_L_law 307 = .ok (.iaload, 1) := by decide +kernel
theorem zd_L_law_308 : decode ze_L_law 308 = .ok (.i2l, 1) := by decide +kernel
theorem zd_L_law_309 : decode ze_L_law 309 = .ok (.ldc2_w 32, 3) := by decide +kernel
theorem zd_L_law_312 : decode ze_L_law 312 = .ok (.land, 1) := by decide +kernel
theorem zd_L_law_313 : decode ze_L_law 313 = .ok (.lor, 1) := by decide +kernel
theorem zd_L_law_314 : decode ze_L_law 314 = .ok (.invokevirtual 39, 3) := by decide +kernel
theorem zd_L_law_317 : decode ze_L_law 317 = .ok (.aload_n 2, 1) := by decide +kernel
theorem zd_L_law_318 : decode ze_L_law 318 = .ok (.aload_n 0, 1) := by decide +kernel
theorem zd_L_law_319 : decode ze_L_law 319 = .ok (.iload_n 3, 1) := by decide +kernel
theorem zd_L_law_320 : decode ze_L_law 320 = .ok (.iconst 1, 1) := by decide +kernel
theorem zd_L_law_321 : decode ze_L_law 321 = .ok (.iadd, 1) := by decide +kernel
theorem zd_L_law_322 : decode ze_L_law 322 = .ok (.iaload, 1) := by decide +kernel
theorem zd_L_law_323 : decode ze_L_law 323 = .ok (.i2l, 1) := by decide +kernel
theorem zd_L_law_324 : decode ze_L_law 324 = .ok (.bipush 32, 2) := by decide +kernel
theorem zd_L_law_326 : decode ze_L_law 326 = .ok (.lshl, 1) := by decide +kernel
theorem zd_L_law_327 : decode ze_L_law 327 = .ok (.aload_n 0, 1) := by decide +kernel
theorem zd_L_law_328 : decode ze_L_law 328 = .ok (.iload_n 3, 1) := by decide +kernel
theorem zd_L_law_329 : decode ze_L_law 329 = .ok (.iconst 2, 1) := by decide +kernel
theorem zd_L_law_330 : decode ze_L_law 330 = .ok (.iadd, 1) := by decide +kernel
theorem zd_L_law_331 : decode ze_L_law 331 = .ok (.iaload, 1) := by decide +kernel
theorem zd_L_law_332 : decode ze_L_law 332 = .ok (.i2l, 1) := by decide +kernel
theorem zd_L_law_333 : decode ze_L_law 333 = .ok (.ldc2_w 32, 3) := by decide +kernel
theorem zd_L_law_336 : decode ze_L_law 336 = .ok (.land, 1) := by decide +kernel
theorem zd_L_law_337 : decode ze_L_law 337 = .ok (.lor, 1) := by decide +kernel
theorem zd_L_law_338 : decode ze_L_law 338 = .ok (.aload_n 0, 1) := by decide +kernel
theorem zd_L_law_339 : decode ze_L_law 339 = .ok (.iload_n 3, 1) := by decide +kernel
theorem zd_L_law_340 : decode ze_L_law 340 = .ok (.iconst 3, 1) := by decide +kernel
theorem zd_L_law_341 : decode ze_L_law 341 = .ok (.iadd, 1) := by decide +kernel
theorem zd_L_law_342 : decode ze_L_law 342 = .ok (.iaload, 1) := by decide +kernel
theorem zd_L_law_343 : decode ze_L_law 343 = .ok (.i2l, 1) := by decide +kernel
theorem zd_L_law_344 : decode ze_L_law 344 = .ok (.bipush 32, 2) := by decide +kernel
theorem zd_L_law_346 : decode ze_L_law 346 = .ok (.lshl, 1) := by decide +kernel
theorem zd_L_law_347 : decode ze_L_law 347 = .ok (.aload_n 0, 1) := by decide +kernel
theorem zd_L_law_348 : decode ze_L_law 348 = .ok (.iload_n 3, 1) := by decide +kernel
theorem zd_L_law_349 : decode ze_L_law 349 = .ok (.iconst 4, 1) := by decide +kernel
theorem zd_L_law_350 : decode ze_L_law 350 = .ok (.iadd, 1) := by decide +kernel
theorem zd_L_law_351 : decode ze_L_law 351 = .ok (.iaload, 1) := by decide +kernel
theorem zd_L_law_352 : decode ze_L_law 352 = .ok (.i2l, 1) := by decide +kernel
theorem zd_L_law_353 : decode ze_L_law 353 = .ok (.ldc2_w 32, 3) := by decide +kernel
theorem zd_L_law_356 : decode ze_L_law 356 = .ok (.land, 1) := by decide +kernel
theorem zd_L_law_357 : decode ze_L_law 357 = .ok (.lor, 1) := by decide +kernel
theorem zd_L_law_358 : decode ze_L_law 358 = .ok (.invokevirtual 43, 3) := by decide +kernel
theorem zd_L_law_361 : decode ze_L_law 361 = .ok (.if_icmp .eq 488, 3) := by decide +kernel
theorem zd_L_law_364 : decode ze_L_law 364 = .ok (.iconst 0, 1) := by decide +kernel
theorem zd_L_law_365 : decode ze_L_law 365 = .ok (.ireturn, 1) := by decide +kernel
theorem zd_L_law_366 : decode ze_L_law 366 = .ok (.aload_n 1, 1) := by decide +kernel
theorem zd_L_law_367 : decode ze_L_law 367 = .ok (.invokevirtual 44, 3) := by decide +kernel
theorem zd_L_law_370 : decode ze_L_law 370 = .ok (.aload_n 2, 1) := by decide +kernel
theorem zd_L_law_371 : decode ze_L_law 371 = .ok (.invokevirtual 47, 3) := by decide +kernel
theorem zd_L_law_374 : decode ze_L_law 374 = .ok (.goto 475, 3) := by decide +kernel
theorem zd_L_law_377 : decode ze_L_law 377 = .ok (.aload_n 1, 1) := by decide +kernel
theorem zd_L_law_378 : decode ze_L_law 378 = .ok (.invokevirtual 48, 3) := by decide +kernel
theorem zd_L_law_381 : decode ze_L_law 381 = .ok (.aload_n 2, 1) := by decide +kernel
theorem zd_L_law_382 : decode ze_L_law 382 = .ok (.invokevirtual 52, 3) := by decide +kernel
theorem zd_L_law_385 : decode ze_L_law 385 = .ok (.if_icmp .eq 464, 3) := by decide +kernel
theorem zd_L_law_388 : decode ze_L_law 388 = .ok (.iconst 0, 1) := by decide +kernel
theorem zd_L_law_389 : decode ze_L_law 389 = .ok (.ireturn, 1) := by decide +kernel
theorem zd_L_law_390 : decode ze_L_law 390 = .ok (.aload_n 1, 1) := by decide +kernel
theorem zd_L_law_391 : decode ze_L_law 391 = .ok (.invokevirtual 53, 3) := by decide +kernel
theorem zd_L_law_394 : decode ze_L_law 394 = .ok (.aload_n 2, 1) := by decide +kernel
theorem zd_L_law_395 : decode ze_L_law 395 = .ok (.invokevirtual 56, 3) := by decide +kernel
theorem zd_L_law_398 : decode ze_L_law 398 = .ok (.if_icmp .eq 451, 3) := by decide +kernel
theorem zd_L_law_401 : decode ze_L_law 401 = .ok (.iconst 0, 1) := by decide +kernel
theorem zd_L_law_402 : decode ze_L_law 402 = .ok (.ireturn, 1) := by decide +kernel
theorem zd_L_law_403 : decode ze_L_law 403 = .ok (.aload_n 1, 1) := by decide +kernel
theorem zd_L_law_404 : decode ze_L_law 404 = .ok (.aload_n 0, 1) := by decide +kernel
theorem zd_L_law_405 : decode ze_L_law 405 = .ok (.iload_n 3, 1) := by decide +kernel
theorem zd_L_law_406 : decode ze_L_law 406 = .ok (.iconst 1, 1) := by decide +kernel
theorem zd_L_law_407 : decode ze_L_law 407 = .ok (.iadd, 1) := by decide +kernel
theorem zd_L_law_408 : decode ze_L_law 408 = .ok (.iaload, 1) := by decide +kernel
theorem zd_L_law_409 : decode ze_L_law 409 = .ok (.ifCond .eq 7, 3) := by decide +kernel
theorem zd_L_law_412 : decode ze_L_law 412 = .ok (.iconst 1, 1) := by decide +kernel
theorem zd_L_law_413 : decode ze_L_law 413 = .ok (.goto 4, 3) := by decide +kernel
theorem zd_L_law_416 : decode ze_L_law 416 = .ok (.iconst 0, 1) := by decide +kernel
theorem zd_L_law_417 : decode ze_L_law 417 = .ok (.invokevirtual 57, 3) := by decide +kernel
theorem zd_L_law_420 : decode ze_L_law 420 = .ok (.aload_n 2, 1) := by decide +kernel
theorem zd_L_law_421 : decode ze_L_law 421 = .ok (.aload_n 0, 1) := by decide +kernel
theorem zd_L_law_422 : decode ze_L_law 422 = .ok (.iload_n 3, 1) := by decide +kernel
theorem zd_L_law_423 : decode ze_L_law 423 = .ok (.iconst 1, 1) := by decide +kernel
theorem zd_L_law_424 : decode ze_L_law 424 = .ok (.iadd, 1) := by decide +kernel
theorem zd_L_law_425 : decode ze_L_law 425 = .ok (.iaload, 1) := by decide +kernel
theorem zd_L_law_426 : decode ze_L_law 426 = .ok (.ifCond .eq 7, 3) := by decide +kernel
theorem zd_L_law_429 : decode ze_L_law 429 = .ok (.iconst 1, 1) := by decide +kernel
theorem zd_L_law_430 : decode ze_L_law 430 = .ok (.goto 4, 3) := by decide +kernel
theorem zd_L_law_433 : decode ze_L_law 433 = .ok (.iconst 0, 1) := by decide +kernel
theorem zd_L_law_434 : decode ze_L_law 434 = .ok (.invokevirtual 61, 3) := by decide +kernel
theorem zd_L_law_437 : decode ze_L_law 437 = .ok (.if_icmp .eq 412, 3) := by decide +kernel
theorem zd_L_law_440 : decode ze_L_law 440 = .ok (.iconst 0, 1) := by decide +kernel
theorem zd_L_law_441 : decode ze_L_law 441 = .ok (.ireturn, 1) := by decide +kernel
theorem zd_L_law_442 : decode ze_L_law 442 = .ok (.aload_n 1, 1) := by decide +kernel
theorem zd_L_law_443 : decode ze_L_law 443 = .ok (.aload_n 0, 1) := by decide +kernel
theorem zd_L_law_444 : decode ze_L_law 444 = .ok (.iload_n 3, 1) := by decide +kernel
theorem zd_L_law_445 : decode ze_L_law 445 = .ok (.iconst 1, 1) := by decide +kernel
theorem zd_L_law_446 : decode ze_L_law 446 = .ok (.iadd, 1) := by decide +kernel
theorem zd_L_law_447 : decode ze_L_law 447 = .ok (.iaload, 1) := by decide +kernel
theorem zd_L_law_448 : decode ze_L_law 448 = .ok (.invokevirtual 62, 3) := by decide +kernel
theorem zd_L_law_451 : decode ze_L_law 451 = .ok (.aload_n 2, 1) := by decide +kernel
theorem zd_L_law_452 : decode ze_L_law 452 = .ok (.aload_n 0, 1) := by decide +kernel
theorem zd_L_law_453 : decode ze_L_law 453 = .ok (.iload_n 3, 1) := by decide +kernel
theorem zd_L_law_454 : decode ze_L_law 454 = .ok (.iconst 1, 1) := by decide +kernel
theorem zd_L_law_455 : decode ze_L_law 455 = .ok (.iadd, 1) := by decide +kernel
theorem zd_L_law_456 : decode ze_L_law 456 = .ok (.iaload, 1) := by decide +kernel
theorem zd_L_law_457 : decode ze_L_law 457 = .ok (.invokevirtual 65, 3) := by decide +kernel
theorem zd_L_law_460 : decode ze_L_law 460 = .ok (.if_icmp .eq 389, 3) := by decide +kernel
theorem zd_L_law_463 : decode ze_L_law 463 = .ok (.iconst 0, 1) := by decide +kernel
theorem zd_L_law_464 : decode ze_L_law 464 = .ok (.ireturn, 1) := by decide +kernel
theorem zd_L_law_465 : decode ze_L_law 465 = .ok (.aload_n 1, 1) := by decide +kernel
theorem zd_L_law_466 : decode ze_L_law 466 = .ok (.aload_n 0, 1) := by decide +kernel
theorem zd_L_law_467 : decode ze_L_law 467 = .ok (.iload_n 3, 1) := by decide +kernel
theorem zd_L_law_468 : decode ze_L_law 468 = .ok (.iconst 1, 1) := by decide +kernel
theorem zd_L_law_469 : decode ze_L_law 469 = .ok (.iadd, 1) := by decide +kernel
theorem zd_L_law_470 : decode ze_L_law 470 = .ok (.iaload, 1) := by decide +kernel
theorem zd_L_law_471 : decode ze_L_law 471 = .ok (.aload_n 0, 1) := by decide +kernel
theorem zd_L_law_472 : decode ze_L_law 472 = .ok (.iload_n 3, 1) := by decide +kernel
theorem zd_L_law_473 : decode ze_L_law 473 = .ok (.iconst 2, 1) := by decide +kernel
theorem zd_L_law_474 : decode ze_L_law 474 = .ok (.iadd, 1) := by decide +kernel
theorem zd_L_law_475 : decode ze_L_law 475 = .ok (.iaload, 1) := by decide +kernel
theorem zd_L_law_476 : decode ze_L_law 476 = .ok (.invokevirtual 66, 3) := by decide +kernel
theorem zd_L_law_479 : decode ze_L_law 479 = .ok (.aload_n 2, 1) := by decide +kernel
theorem zd_L_law_480 : decode ze_L_law 480 = .ok (.aload_n 0, 1) := by decide +kernel
theorem zd_L_law_481 : decode ze_L_law 481 = .ok (.iload_n 3, 1) := by decide +kernel
theorem zd_L_law_482 : decode ze_L_law 482 = .ok (.iconst 1, 1) := by decide +kernel
theorem zd_L_law_483 : decode ze_L_law 483 = .ok (.iadd, 1) := by decide +kernel
theorem zd_L_law_484 : decode ze_L_law 484 = .ok (.iaload, 1) := by decide +kernel
theorem zd_L_law_485 : decode ze_L_law 485 = .ok (.aload_n 0, 1) := by decide +kernel
theorem zd_L_law_486 : decode ze_L_law 486 = .ok (.iload_n 3, 1) := by decide +kernel
theorem zd_L_law_487 : decode ze_L_law 487 = .ok (.iconst 2, 1) := by decide +kernel
theorem zd_L_law_488 : decode ze_L_law 488 = .ok (.iadd, 1) := by decide +kernel
theorem zd_L_law_489 : decode ze_L_law 489 = .ok (.iaload, 1) := by decide +kernel
theorem zd_L_law_490 : decode ze_L_law 490 = .ok (.invokevirtual 70, 3) := by decide +kernel
theorem zd_L_law_493 : decode ze_L_law 493 = .ok (.lcmp, 1) := by decide +kernel
theorem zd_L_law_494 : decode ze_L_law 494 = .ok (.ifCond .eq 355, 3) := by decide +kernel
theorem zd_L_law_497 : decode ze_L_law 497 = .ok (.iconst 0, 1) := by decide +kernel
theorem zd_L_law_498 : decode ze_L_law 498 = .ok (.ireturn, 1) := by decide +kernel
theorem zd_L_law_499 : decode ze_L_law 499 = .ok (.aload_n 1, 1) := by decide +kernel
theorem zd_L_law_500 : decode ze_L_law 500 = .ok (.aload_n 0, 1) := by decide +kernel
theorem zd_L_law_501 : decode ze_L_law 501 = .ok (.iload_n 3, 1) := by decide +kernel
theorem zd_L_law_502 : decode ze_L_law 502 = .ok (.iconst 1, 1) := by decide +kernel
theorem zd_L_law_503 : decode ze_L_law 503 = .ok (.iadd, 1) := by decide +kernel
theorem zd_L_law_504 : decode ze_L_law 504 = .ok (.iaload, 1) := by decide +kernel
theorem zd_L_law_505 : decode ze_L_law 505 = .ok (.aload_n 0, 1) := by decide +kernel
theorem zd_L_law_506 : decode ze_L_law 506 = .ok (.iload_n 3, 1) := by decide +kernel
theorem zd_L_law_507 : decode ze_L_law 507 = .ok (.iconst 2, 1) := by decide +kernel
theorem zd_L_law_508 : decode ze_L_law 508 = .ok (.iadd, 1) := by decide +kernel
theorem zd_L_law_509 : decode ze_L_law 509 = .ok (.iaload, 1) := by decide +kernel
theorem zd_L_law_510 : decode ze_L_law 510 = .ok (.invokevirtual 71, 3) := by decide +kernel
theorem zd_L_law_513 : decode ze_L_law 513 = .ok (.aload_n 2, 1) := by decide +kernel
theorem zd_L_law_514 : decode ze_L_law 514 = .ok (.aload_n 0, 1) := by decide +kernel
theorem zd_L_law_515 : decode ze_L_law 515 = .ok (.iload_n 3, 1) := by decide +kernel
theorem zd_L_law_516 : decode ze_L_law 516 = .ok (.iconst 1, 1) := by decide +kernel
theorem zd_L_law_517 : decode ze_L_law 517 = .ok (.iadd, 1) := by decide +kernel
theorem zd_L_law_518 : decode ze_L_law 518 = .ok (.iaload, 1) := by decide +kernel
theorem zd_L_law_519 : decode ze_L_law 519 = .ok (.aload_n 0, 1) := by decide +kernel
theorem zd_L_law_520 : decode ze_L_law 520 = .ok (.iload_n 3, 1) := by decide +kernel
theorem zd_L_law_521 : decode ze_L_law 521 = .ok (.iconst 2, 1) := by decide +kernel
theorem zd_L_law_522 : decode ze_L_law 522 = .ok (.iadd, 1) := by decide +kernel
theorem zd_L_law_523 : decode ze_L_law 523 = .ok (.iaload, 1) := by decide +kernel
theorem zd_L_law_524 : decode ze_L_law 524 = .ok (.invokevirtual 74, 3) := by decide +kernel
theorem zd_L_law_527 : decode ze_L_law 527 = .ok (.lcmp, 1) := by decide +kernel
theorem zd_L_law_528 : decode ze_L_law 528 = .ok (.ifCond .eq 321, 3) := by decide +kernel
theorem zd_L_law_531 : decode ze_L_law 531 = .ok (.iconst 0, 1) := by decide +kernel
theorem zd_L_law_532 : decode ze_L_law 532 = .ok (.ireturn, 1) := by decide +kernel
theorem zd_L_law_533 : decode ze_L_law 533 = .ok (.aload_n 1, 1) := by decide +kernel
theorem zd_L_law_534 : decode ze_L_law 534 = .ok (.aload_n 0, 1) := by decide +kernel
theorem zd_L_law_535 : decode ze_L_law 535 = .ok (.iload_n 3, 1) := by decide +kernel
theorem zd_L_law_536 : decode ze_L_law 536 = .ok (.iconst 1, 1) := by decide +kernel
theorem zd_L_law_537 : decode ze_L_law 537 = .ok (.iadd, 1) := by decide +kernel
theorem zd_L_law_538 : decode ze_L_law 538 = .ok (.iaload, 1) := by decide +kernel
theorem zd_L_law_539 : decode ze_L_law 539 = .ok (.aload_n 0, 1) := by decide +kernel
theorem zd_L_law_540 : decode ze_L_law 540 = .ok (.iload_n 3, 1) := by decide +kernel
theorem zd_L_law_541 : decode ze_L_law 541 = .ok (.iconst 2, 1) := by decide +kernel
theorem zd_L_law_542 : decode ze_L_law 542 = .ok (.iadd, 1) := by decide +kernel
theorem zd_L_law_543 : decode ze_L_law 543 = .ok (.iaload, 1) := by decide +kernel
theorem zd_L_law_544 : decode ze_L_law 544 = .ok (.i2l, 1) := by decide +kernel
theorem zd_L_law_545 : decode ze_L_law 545 = .ok (.bipush 32, 2) := by decide +kernel
theorem zd_L_law_547 : decode ze_L_law 547 = .ok (.lshl, 1) := by decide +kernel
theorem zd_L_law_548 : decode ze_L_law 548 = .ok (.aload_n 0, 1) := by decide +kernel
theorem zd_L_law_549 : decode ze_L_law 549 = .ok (.iload_n 3, 1) := by decide +kernel
theorem zd_L_law_550 : decode ze_L_law 550 = .ok (.iconst 3, 1) := by decide +kernel
theorem zd_L_law_551 : decode ze_L_law 551 = .ok (.iadd, 1) := by decide +kernel
theorem zd_L_law_552 : decode ze_L_law 552 = .ok (.iaload, 1) := by decide +kernel
theorem zd_L_law_553 : decode ze_L_law 553 = .ok (.i2l, 1) := by decide +kernel
theorem zd_L_law_554 : decode ze_L_law 554 = .ok (.ldc2_w 32, 3) := by decide +kernel
theorem zd_L_law_557 : decode ze_L_law 557 = .ok (.land, 1) := by decide +kernel
theorem zd_L_law_558 : decode ze_L_law 558 = .ok (.lor, 1) := by decide +kernel
theorem zd_L_law_559 : decode ze_L_law 559 = .ok (.aload_n 0, 1) := by decide +kernel
theorem zd_L_law_560 : decode ze_L_law 560 = .ok (.iload_n 3, 1) := by decide +kernel
theorem zd_L_law_561 : decode ze_L_law 561 = .ok (.iconst 4, 1) := by decide +kernel
theorem zd_L_law_562 : decode ze_L_law 562 = .ok (.iadd, 1) := by decide +kernel
theorem zd_L_law_563 : decode ze_L_law 563 = .ok (.iaload, 1) := by decide +kernel
theorem zd_L_law_564 : decode ze_L_law 564 = .ok (.aload_n 0, 1) := by decide +kernel
theorem zd_L_law_565 : decode ze_L_law 565 = .ok (.iload_n 3, 1) := by decide +kernel
theorem zd_L_law_566 : decode ze_L_law 566 = .ok (.iconst 5, 1) := by decide +kernel
theorem zd_L_law_567 : decode ze_L_law 567 = .ok (.iadd, 1) := by decide +kernel
theorem zd_L_law_568 : decode ze_L_law 568 = .ok (.iaload, 1) := by decide +kernel
theorem zd_L_law_569 : decode ze_L_law 569 = .ok (.ifCond .eq 7, 3) := by decide +kernel
theorem zd_L_law_572 : decode ze_L_law 572 = .ok (.iconst 1, 1) := by decide +kernel
theorem zd_L_law_573 : decode ze_L_law 573 = .ok (.goto 4, 3) := by decide +kernel
theorem zd_L_law_576 : decode ze_L_law 576 = .ok (.iconst 0, 1) := by decide +kernel
theorem zd_L_law_577 : decode ze_L_law 577 = .ok (.invokevirtual 75, 3) := by decide +kernel
theorem zd_L_law_580 : decode ze_L_law 580 = .ok (.aload_n 2, 1) := by decide +kernel
theorem zd_L_law_581 : decode ze_L_law 581 = .ok (.aload_n 0, 1) := by decide +kernel
theorem zd_L_law_582 : decode ze_L_law 582 = .ok (.iload_n 3, 1) := by decide +kernel
theorem zd_L_law_583 : decode ze_L_law 583 = .ok (.iconst 1, 1) := by decide +kernel
theorem zd_L_law_584 : decode ze_L_law 584 = .ok (.iadd, 1) := by decide +kernel
theorem zd_L_law_585 : decode ze_L_law 585 = .ok (.iaload, 1) := by decide +kernel
theorem zd_L_law_586 : decode ze_L_law 586 = .ok (.aload_n 0, 1) := by decide +kernel
theorem zd_L_law_587 : decode ze_L_law 587 = .ok (.iload_n 3, 1) := by decide +kernel
theorem zd_L_law_588 : decode ze_L_law 588 = .ok (.iconst 2, 1) := by decide +kernel
theorem zd_L_law_589 : decode ze_L_law 589 = .ok (.iadd, 1) := by decide +kernel
theorem zd_L_law_590 : decode ze_L_law 590 = .ok (.iaload, 1) := by decide +kernel
theorem zd_L_law_591 : decode ze_L_law 591 = .ok (.i2l, 1) := by decide +kernel
theorem zd_L_law_592 : decode ze_L_law 592 = .ok (.bipush 32, 2) := by decide +kernel
theorem zd_L_law_594 : decode ze_L_law 594 = .ok (.lshl, 1) := by decide +kernel
theorem zd_L_law_595 : decode ze_L_law 595 = .ok (.aload_n 0, 1) := by decide +kernel
theorem zd_L_law_596 : decode ze_L_law 596 = .ok (.iload_n 3, 1) := by decide +kernel
theorem zd_L_law_597 : decode ze_L_law 597 = .ok (.iconst 3, 1) := by decide +kernel
theorem zd_L_law_598 : decode ze_L_law 598 = .ok (.iadd, 1) := by decide +kernel
theorem zd_L_law_599 : decode ze_L_law 599 = .ok (.iaload, 1) := by decide +kernel
theorem zd_L_law_600 : decode ze_L_law 600 = .ok (.i2l, 1) := by decide +kernel
theorem zd_L_law_601 : decode ze_L_law 601 = .ok (.ldc2_w 32, 3) := by decide +kernel
theorem zd_L_law_604 : decode ze_L_law 604 = .ok (.land, 1) := by decide +kernel
theorem zd_L_law_605 : decode ze_L_law 605 = .ok (.lor, 1) := by decide +kernel
theorem zd_L_law_606 : decode ze_L_law 606 = .ok (.aload_n 0, 1) := by decide +kernel
theorem zd_L_law_607 : decode ze_L_law 607 = .ok (.iload_n 3, 1) := by decide +kernel
theorem zd_L_law_608 : decode ze_L_law 608 = .ok (.iconst 4, 1) := by decide +kernel
theorem zd_L_law_609 : decode ze_L_law 609 = .ok (.iadd, 1) := by decide +kernel
theorem zd_L_law_610 : decode ze_L_law 610 = .ok (.iaload, 1) := by decide +kernel
theorem zd_L_law_611 : decode ze_L_law 611 = .ok (.aload_n 0, 1) := by decide +kernel
theorem zd_L_law_612 : decode ze_L_law 612 = .ok (.iload_n 3, 1) := by decide +kernel
theorem zd_L_law_613 : decode ze_L_law 613 = .ok (.iconst 5, 1) := by decide +kernel
theorem zd_L_law_614 : decode ze_L_law 614 = .ok (.iadd, 1) := by decide +kernel
theorem zd_L_law_615 : decode ze_L_law 615 = .ok (.iaload, 1) := by decide +kernel
theorem zd_L_law_616 : decode ze_L_law 616 = .ok (.ifCond .eq 7, 3) := by decide +kernel
theorem zd_L_law_619 : decode ze_L_law 619 = .ok (.iconst 1, 1) := by decide +kernel
theorem zd_L_law_620 : decode ze_L_law 620 = .ok (.goto 4, 3) := by decide +kernel
theorem zd_L_law_623 : decode ze_L_law 623 = .ok (.iconst 0, 1) := by decide +kernel
theorem zd_L_law_624 : decode ze_L_law 624 = .ok (.invokevirtual 79, 3) := by decide +kernel
theorem zd_L_law_627 : decode ze_L_law 627 = .ok (.if_icmp .eq 222, 3) := by decide +kernel
theorem zd_L_law_630 : decode ze_L_law 630 = .ok (.iconst 0, 1) := by decide +kernel
theorem zd_L_law_631 : decode ze_L_law 631 = .ok (.ireturn, 1) := by decide +kernel
theorem zd_L_law_632 : decode ze_L_law 632 = .ok (.aload_n 1, 1) := by decide +kernel
theorem zd_L_law_633 : decode ze_L_law 633 = .ok (.aload_n 0, 1) := by decide +kernel
theorem zd_L_law_634 : decode ze_L_law 634 = .ok (.iload_n 3, 1) := by decide +kernel
theorem zd_L_law_635 : decode ze_L_law 635 = .ok (.iconst 1, 1) := by decide +kernel
theorem zd_L_law_636 : decode ze_L_law 636 = .ok (.iadd, 1) := by decide +kernel
theorem zd_L_law_637 : decode ze_L_law 637 = .ok (.iaload, 1) := by decide +kernel
theorem zd_L_law_638 : decode ze_L_law 638 = .ok (.invokevirtual 80, 3) := by decide +kernel
theorem zd_L_law_641 : decode ze_L_law 641 = .ok (.aload_n 2, 1) := by decide +kernel
theorem zd_L_law_642 : decode ze_L_law 642 = .ok (.aload_n 0, 1) := by decide +kernel
theorem zd_L_law_643 : decode ze_L_law 643 = .ok (.iload_n 3, 1) := by decide +kernel
theorem zd_L_law_644 : decode ze_L_law 644 = .ok (.iconst 1, 1) := by decide +kernel
theorem zd_L_law_645 : decode ze_L_law 645 = .ok (.iadd, 1) := by decide +kernel
theorem zd_L_law_646 : decode ze_L_law 646 = .ok (.iaload, 1) := by decide +kernel
theorem zd_L_law_647 : decode ze_L_law 647 = .ok (.invokevirtual 83, 3) := by decide +kernel
theorem zd_L_law_650 : decode ze_L_law 650 = .ok (.if_icmp .eq 199, 3) := by decide +kernel
theorem zd_L_law_653 : decode ze_L_law 653 = .ok (.iconst 0, 1) := by decide +kernel
theorem zd_L_law_654 : decode ze_L_law 654 = .ok (.ireturn, 1) := by decide +kernel
theorem zd_L_law_655 : decode ze_L_law 655 = .ok (.aload_n 1, 1) := by decide +kernel
theorem zd_L_law_656 : decode ze_L_law 656 = .ok (.invokevirtual 84, 3) := by decide +kernel
theorem zd_L_law_659 : decode ze_L_law 659 = .ok (.aload_n 2, 1) := by decide +kernel
theorem zd_L_law_660 : decode ze_L_law 660 = .ok (.invokevirtual 87, 3) := by decide +kernel
theorem zd_L_law_663 : decode ze_L_law 663 = .ok (.if_icmp .eq 186, 3) := by decide +kernel
theorem zd_L_law_666 : decode ze_L_law 666 = .ok (.iconst 0, 1) := by decide +kernel
theorem zd_L_law_667 : decode ze_L_law 667 = .ok (.ireturn, 1) := by decide +kernel
theorem zd_L_law_668 : decode ze_L_law 668 = .ok (.aload_n 1, 1) := by decide +kernel
theorem zd_L_law_669 : decode ze_L_law 669 = .ok (.aload_n 0, 1) := by decide +kernel
theorem zd_L_law_670 : decode ze_L_law 670 = .ok (.iload_n 3, 1) := by decide +kernel
theorem zd_L_law_671 : decode ze_L_law 671 = .ok (.iconst 1, 1) := by decide +kernel
theorem zd_L_law_672 : decode ze_L_law 672 = .ok (.iadd, 1) := by decide +kernel
theorem zd_L_law_673 : decode ze_L_law 673 = .ok (.iaload, 1) := by decide +kernel
theorem zd_L_law_674 : decode ze_L_law 674 = .ok (.aload_n 0, 1) := by decide +kernel
theorem zd_L_law_675 : decode ze_L_law 675 = .ok (.iload_n 3, 1) := by decide +kernel
theorem zd_L_law_676 : decode ze_L_law 676 = .ok (.iconst 2, 1) := by decide +kernel
theorem zd_L_law_677 : decode ze_L_law 677 = .ok (.iadd, 1) := by decide +kernel
theorem zd_L_law_678 : decode ze_L_law 678 = .ok (.iaload, 1) := by decide +kernel
theorem zd_L_law_679 : decode ze_L_law 679 = .ok (.invokevirtual 88, 3) := by decide +kernel
theorem zd_L_law_682 : decode ze_L_law 682 = .ok (.aload_n 2, 1) := by decide +kernel
theorem zd_L_law_683 : decode ze_L_law 683 = .ok (.aload_n 0, 1) := by decide +kernel
theorem zd_L_law_684 : decode ze_L_law 684 = .ok (.iload_n 3, 1) := by decide +kernel
theorem zd_L_law_685 : decode ze_L_law 685 = .ok (.iconst 1, 1) := by decide +kernel
theorem zd_L_law_686 : decode ze_L_law 686 = .ok (.iadd, 1) := by decide +kernel
theorem zd_L_law_687 : decode ze_L_law 687 = .ok (.iaload, 1) := by decide +kernel
theorem zd_L_law_688 : decode ze_L_law 688 = .ok (.aload_n 0, 1) := by decide +kernel
theorem zd_L_law_689 : decode ze_L_law 689 = .ok (.iload_n 3, 1) := by decide +kernel
theorem zd_L_law_690 : decode ze_L_law 690 = .ok (.iconst 2, 1) := by decide +kernel
theorem zd_L_law_691 : decode ze_L_law 691 = .ok (.iadd, 1) := by decide +kernel
theorem zd_L_law_692 : decode ze_L_law 692 = .ok (.iaload, 1) := by decide +kernel
theorem zd_L_law_693 : decode ze_L_law 693 = .ok (.invokevirtual 91, 3) := by decide +kernel
theorem zd_L_law_696 : decode ze_L_law 696 = .ok (.lcmp, 1) := by decide +kernel
theorem zd_L_law_697 : decode ze_L_law 697 = .ok (.ifCond .eq 152, 3) := by decide +kernel
theorem zd_L_law_700 : decode ze_L_law 700 = .ok (.iconst 0, 1) := by decide +kernel
theorem zd_L_law_701 : decode ze_L_law 701 = .ok (.ireturn, 1) := by decide +kernel
theorem zd_L_law_702 : decode ze_L_law 702 = .ok (.aload_n 1, 1) := by decide +kernel
theorem zd_L_law_703 : decode ze_L_law 703 = .ok (.aload_n 0, 1) := by decide +kernel
theorem zd_L_law_704 : decode ze_L_law 704 = .ok (.iload_n 3, 1) := by decide +kernel
theorem zd_L_law_705 : decode ze_L_law 705 = .ok (.iconst 1, 1) := by decide +kernel
theorem zd_L_law_706 : decode ze_L_law 706 = .ok (.iadd, 1) := by decide +kernel
theorem zd_L_law_707 : decode ze_L_law 707 = .ok (.iaload, 1) := by decide +kernel
theorem zd_L_law_708 : decode ze_L_law 708 = .ok (.i2l, 1) := by decide +kernel
theorem zd_L_law_709 : decode ze_L_law 709 = .ok (.bipush 32, 2) := by decide +kernel
theorem zd_L_law_711 : decode ze_L_law 711 = .ok (.lshl, 1) := by decide +kernel
theorem zd_L_law_712 : decode ze_L_law 712 = .ok (.aload_n 0, 1) := by decide +kernel
theorem zd_L_law_713 : decode ze_L_law 713 = .ok (.iload_n 3, 1) := by decide +kernel
theorem zd_L_law_714 : decode ze_L_law 714 = .ok (.iconst 2, 1) := by decide +kernel
theorem zd_L_law_715 : decode ze_L_law 715 = .ok (.iadd, 1) := by decide +kernel
theorem zd_L_law_716 : decode ze_L_law 716 = .ok (.iaload, 1) := by decide +kernel
theorem zd_L_law_717 : decode ze_L_law 717 = .ok (.i2l, 1) := by decide +kernel
theorem zd_L_law_718 : decode ze_L_law 718 = .ok (.ldc2_w 32, 3) := by decide +kernel
theorem zd_L_law_721 : decode ze_L_law 721 = .ok (.land, 1) := by decide +kernel
theorem zd_L_law_722 : decode ze_L_law 722 = .ok (.lor, 1) := by decide +kernel
theorem zd_L_law_723 : decode ze_L_law 723 = .ok (.aload_n 0, 1) := by decide +kernel
theorem zd_L_law_724 : decode ze_L_law 724 = .ok (.iload_n 3, 1) := by decide +kernel
theorem zd_L_law_725 : decode ze_L_law 725 = .ok (.iconst 3, 1) := by decide +kernel
theorem zd_L_law_726 : decode ze_L_law 726 = .ok (.iadd, 1) := by decide +kernel
theorem zd_L_law_727 : decode ze_L_law 727 = .ok (.iaload, 1) := by decide +kernel
theorem zd_L_law_728 : decode ze_L_law 728 = .ok (.i2l, 1) := by decide +kernel
theorem zd_L_law_729 : decode ze_L_law 729 = .ok (.bipush 32, 2) := by decide +kernel
theorem zd_L_law_731 : decode ze_L_law 731 = .ok (.lshl, 1) := by decide +kernel
theorem zd_L_law_732 : decode ze_L_law 732 = .ok (.aload_n 0, 1) := by decide +kernel
theorem zd_L_law_733 : decode ze_L_law 733 = .ok (.iload_n 3, 1) := by decide +kernel
theorem zd_L_law_734 : decode ze_L_law 734 = .ok (.iconst 4, 1) := by decide +kernel
theorem zd_L_law_735 : decode ze_L_law 735 = .ok (.iadd, 1) := by decide +kernel
theorem zd_L_law_736 : decode ze_L_law 736 = .ok (.iaload, 1) := by decide +kernel
theorem zd_L_law_737 : decode ze_L_law 737 = .ok (.i2l, 1) := by decide +kernel
theorem zd_L_law_738 : decode ze_L_law 738 = .ok (.ldc2_w 32, 3) := by decide +kernel
theorem zd_L_law_741 : decode ze_L_law 741 = .ok (.land, 1) := by decide +kernel
theorem zd_L_law_742 : decode ze_L_law 742 = .ok (.lor, 1) := by decide +kernel
theorem zd_L_law_743 : decode ze_L_law 743 = .ok (.aload_n 0, 1) := by decide +kernel
theorem zd_L_law_744 : decode ze_L_law 744 = .ok (.iload_n 3, 1) := by decide +kernel
theorem zd_L_law_745 : decode ze_L_law 745 = .ok (.iconst 5, 1) := by decide +kernel
theorem zd_L_law_746 : decode ze_L_law 746 = .ok (.iadd, 1) := by decide +kernel
theorem zd_L_law_747 : decode ze_L_law 747 = .ok (.iaload, 1) := by decide +kernel
theorem zd_L_law_748 : decode ze_L_law 748 = .ok (.i2l, 1) := by decide +kernel
theorem zd_L_law_749 : decode ze_L_law 749 = .ok (.bipush 32, 2) := by decide +kernel
theorem zd_L_law_751 : decode ze_L_law 751 = .ok (.lshl, 1) := by decide +kernel
theorem zd_L_law_752 : decode ze_L_law 752 = .ok (.aload_n 0, 1) := by decide +kernel
theorem zd_L_law_753 : decode ze_L_law 753 = .ok (.iload_n 3, 1) := by decide +kernel
theorem zd_L_law_754 : decode ze_L_law 754 = .ok (.bipush 6, 2) := by decide +kernel
theorem zd_L_law_756 : decode ze_L_law 756 = .ok (.iadd, 1) := by decide +kernel
theorem zd_L_law_757 : decode ze_L_law 757 = .ok (.iaload, 1) := by decide +kernel
theorem zd_L_law_758 : decode ze_L_law 758 = .ok (.i2l, 1) := by decide +kernel
theorem zd_L_law_759 : decode ze_L_law 759 = .ok (.ldc2_w 32, 3) := by decide +kernel
theorem zd_L_law_762 : decode ze_L_law 762 = .ok (.land, 1) := by decide +kernel
theorem zd_L_law_763 : decode ze_L_law 763 = .ok (.lor, 1) := by decide +kernel
theorem zd_L_law_764 : decode ze_L_law 764 = .ok (.aload_n 0, 1) := by decide +kernel
theorem zd_L_law_765 : decode ze_L_law 765 = .ok (.iload_n 3, 1) := by decide +kernel
theorem zd_L_law_766 : decode ze_L_law 766 = .ok (.bipush 7, 2) := by decide +kernel
theorem zd_L_law_768 : decode ze_L_law 768 = .ok (.iadd, 1) := by decide +kernel
theorem zd_L_law_769 : decode ze_L_law 769 = .ok (.iaload, 1) := by decide +kernel
theorem zd_L_law_770 : decode ze_L_law 770 = .ok (.invokevirtual 92, 3) := by decide +kernel
theorem zd_L_law_773 : decode ze_L_law 773 = .ok (.aload_n 2, 1) := by decide +kernel
theorem zd_L_law_774 : decode ze_L_law 774 = .ok (.aload_n 0, 1) := by decide +kernel
theorem zd_L_law_775 : decode ze_L_law 775 = .ok (.iload_n 3, 1) := by decide +kernel
theorem zd_L_law_776 : decode ze_L_law 776 = .ok (.iconst 1, 1) := by decide +kernel
theorem zd_L_law_777 : decode ze_L_law 777 = .ok (.iadd, 1) := by decide +kernel
theorem zd_L_law_778 : decode ze_L_law 778 = .ok (.iaload, 1) := by decide +kernel
theorem zd_L_law_779 : decode ze_L_law 779 = .ok (.i2l, 1) := by decide +kernel
theorem zd_L_law_780 : decode ze_L_law 780 = .ok (.bipush 32, 2) := by decide +kernel
theorem zd_L_law_782 : decode ze_L_law 782 = .ok (.lshl, 1) := by decide +kernel
theorem zd_L_law_783 : decode ze_L_law 783 = .ok (.aload_n 0, 1) := by decide +kernel
theorem zd_L_law_784 : decode ze_L_law 784 = .ok (.iload_n 3, 1) := by decide +kernel
theorem zd_L_law_785 : decode ze_L_law 785 = .ok (.iconst 2, 1) := by decide +kernel
theorem zd_L_law_786 : decode ze_L_law 786 = .ok (.iadd, 1) := by decide +kernel
theorem zd_L_law_787 : decode ze_L_law 787 = .ok (.iaload, 1) := by decide +kernel
theorem zd_L_law_788 : decode ze_L_law 788 = .ok (.i2l, 1) := by decide +kernel
theorem zd_L_law_789 : decode ze_L_law 789 = .ok (.ldc2_w 32, 3) := by decide +kernel
theorem zd_L_law_792 : decode ze_L_law 792 = .ok (.land, 1) := by decide +kernel
theorem zd_L_law_793 : decode ze_L_law 793 = .ok (.lor, 1) := by decide +kernel
theorem zd_L_law_794 : decode ze_L_law 794 = .ok (.aload_n 0, 1) := by decide +kernel
theorem zd_L_law_795 : decode ze_L_law 795 = .ok (.iload_n 3, 1) := by decide +kernel
theorem zd_L_law_796 : decode ze_L_law 796 = .ok (.iconst 3, 1) := by decide +kernel
theorem zd_L_law_797 : decode ze_L_law 797 = .ok (.iadd, 1) := by decide +kernel
theorem zd_L_law_798 : decode ze_L_law 798 = .ok (.iaload, 1) := by decide +kernel
theorem zd_L_law_799 : decode ze_L_law 799 = .ok (.i2l, 1) := by decide +kernel
theorem zd_L_law_800 : decode ze_L_law 800 = .ok (.bipush 32, 2) := by decide +kernel
theorem zd_L_law_802 : decode ze_L_law 802 = .ok (.lshl, 1) := by decide +kernel
theorem zd_L_law_803 : decode ze_L_law 803 = .ok (.aload_n 0, 1) := by decide +kernel
theorem zd_L_law_804 : decode ze_L_law 804 = .ok (.iload_n 3, 1) := by decide +kernel
theorem zd_L_law_805 : decode ze_L_law 805 = .ok (.iconst 4, 1) := by decide +kernel
theorem zd_L_law_806 : decode ze_L_law 806 = .ok (.iadd, 1) := by decide +kernel
theorem zd_L_law_807 : decode ze_L_law 807 = .ok (.iaload, 1) := by decide +kernel
theorem zd_L_law_808 : decode ze_L_law 808 = .ok (.i2l, 1) := by decide +kernel
theorem zd_L_law_809 : decode ze_L_law 809 = .ok (.ldc2_w 32, 3) := by decide +kernel
theorem zd_L_law_812 : decode ze_L_law 812 = .ok (.land, 1) := by decide +kernel
theorem zd_L_law_813 : decode ze_L_law 813 = .ok (.lor, 1) := by decide +kernel
theorem zd_L_law_814 : decode ze_L_law 814 = .ok (.aload_n 0, 1) := by decide +kernel
theorem zd_L_law_815 : decode ze_L_law 815 = .ok (.iload_n 3, 1) := by decide +kernel
theorem zd_L_law_816 : decode ze_L_law 816 = .ok (.iconst 5, 1) := by decide +kernel
theorem zd_L_law_817 : decode ze_L_law 817 = .ok (.iadd, 1) := by decide +kernel
theorem zd_L_law_818 : decode ze_L_law 818 = .ok (.iaload, 1) := by decide +kernel
theorem zd_L_law_819 : decode ze_L_law 819 = .ok (.i2l, 1) := by decide +kernel
theorem zd_L_law_820 : decode ze_L_law 820 = .ok (.bipush 32, 2) := by decide +kernel
theorem zd_L_law_822 : decode ze_L_law 822 = .ok (.lshl, 1) := by decide +kernel
theorem zd_L_law_823 : decode ze_L_law 823 = .ok (.aload_n 0, 1) := by decide +kernel
theorem zd_L_law_824 : decode ze_L_law 824 = .ok (.iload_n 3, 1) := by decide +kernel
theorem zd_L_law_825 : decode ze_L_law 825 = .ok (.bipush 6, 2) := by decide +kernel
theorem zd_L_law_827 : decode ze_L_law 827 = .ok (.iadd, 1) := by decide +kernel
theorem zd_L_law_828 : decode ze_L_law 828 = .ok (.iaload, 1) := by decide +kernel
theorem zd_L_law_829 : decode ze_L_law 829 = .ok (.i2l, 1) := by decide +kernel
theorem zd_L_law_830 : decode ze_L_law 830 = .ok (.ldc2_w 32, 3) := by decide +kernel
theorem zd_L_law_833 : decode ze_L_law 833 = .ok (.land, 1) := by decide +kernel
theorem zd_L_law_834 : decode ze_L_law 834 = .ok (.lor, 1) := by decide +kernel
theorem zd_L_law_835 : decode ze_L_law 835 = .ok (.aload_n 0, 1) := by decide +kernel
theorem zd_L_law_836 : decode ze_L_law 836 = .ok (.iload_n 3, 1) := by decide +kernel
theorem zd_L_law_837 : decode ze_L_law 837 = .ok (.bipush 7, 2) := by decide +kernel
theorem zd_L_law_839 : decode ze_L_law 839 = .ok (.iadd, 1) := by decide +kernel
theorem zd_L_law_840 : decode ze_L_law 840 = .ok (.iaload, 1) := by decide +kernel
theorem zd_L_law_841 : decode ze_L_law 841 = .ok (.invokevirtual 96, 3) := by decide +kernel
theorem zd_L_law_844 : decode ze_L_law 844 = .ok (.if_icmp .eq 5, 3) := by decide +kernel
theorem zd_L_law_847 : decode ze_L_law 847 = .ok (.iconst 0, 1) := by decide +kernel
theorem zd_L_law_848 : decode ze_L_law 848 = .ok (.ireturn, 1) := by decide +kernel
theorem zd_L_law_849 : decode ze_L_law 849 = .ok (.iinc 3 8, 3) := by decide +kernel
theorem zd_L_law_852 : decode ze_L_law 852 = .ok (.goto (-834), 3) := by decide +kernel
theorem zd_L_law_855 : decode ze_L_law 855 = .ok (.iconst 1, 1) := by decide +kernel
theorem zd_L_law_856 : decode ze_L_law 856 = .ok (.ireturn, 1) := by decide +kernel
