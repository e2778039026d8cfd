/-! the law: its bytes -/
abbrev b_Lw_law : ByteArray := code
theorem d_Lw_law_0 : decode b_Lw_law 0 = .ok (.new 8, 3) := by decide +kernel
theorem d_Lw_law_3 : decode b_Lw_law 3 = .ok (.dup, 1) := by decide +kernel
theorem d_Lw_law_4 : decode b_Lw_law 4 = .ok (.invokespecial 64, 3) := by decide +kernel
theorem d_Lw_law_7 : decode b_Lw_law 7 = .ok (.astore_n 1, 1) := by decide +kernel
theorem d_Lw_law_8 : decode b_Lw_law 8 = .ok (.new 65, 3) := by decide +kernel
theorem d_Lw_law_11 : decode b_Lw_law 11 = .ok (.dup, 1) := by decide +kernel
theorem d_Lw_law_12 : decode b_Lw_law 12 = .ok (.invokespecial 67, 3) := by decide +kernel
theorem d_Lw_law_15 : decode b_Lw_law 15 = .ok (.astore_n 2, 1) := by decide +kernel
theorem d_Lw_law_16 : decode b_Lw_law 16 = .ok (.iconst 1, 1) := by decide +kernel
theorem d_Lw_law_17 : decode b_Lw_law 17 = .ok (.newarray .long, 2) := by decide +kernel
theorem d_Lw_law_19 : decode b_Lw_law 19 = .ok (.astore_n 3, 1) := by decide +kernel
theorem d_Lw_law_20 : decode b_Lw_law 20 = .ok (.iconst 0, 1) := by decide +kernel
theorem d_Lw_law_21 : decode b_Lw_law 21 = .ok (.istore 4, 2) := by decide +kernel
theorem d_Lw_law_23 : decode b_Lw_law 23 = .ok (.iload 4, 2) := by decide +kernel
theorem d_Lw_law_25 : decode b_Lw_law 25 = .ok (.aload_n 0, 1) := by decide +kernel
theorem d_Lw_law_26 : decode b_Lw_law 26 = .ok (.arraylength, 1) := by decide +kernel
theorem d_Lw_law_27 : decode b_Lw_law 27 = .ok (.iconst 5, 1) := by decide +kernel
theorem d_Lw_law_28 : decode b_Lw_law 28 = .ok (.isub, 1) := by decide +kernel
theorem d_Lw_law_29 : decode b_Lw_law 29 = .ok (.if_icmp .gt 1124, 3) := by decide +kernel
theorem d_Lw_law_32 : decode b_Lw_law 32 = .ok (.aload_n 0, 1) := by decide +kernel
theorem d_Lw_law_33 : decode b_Lw_law 33 = .ok (.iload 4, 2) := by decide +kernel
theorem d_Lw_law_35 : decode b_Lw_law 35 = .ok (.iaload, 1) := by decide +kernel
theorem d_Lw_law_36 : decode b_Lw_law 36 = .ok (.bipush 15, 2) := by decide +kernel
theorem d_Lw_law_38 : decode b_Lw_law 38 = .ok (.iand, 1) := by decide +kernel
theorem d_Lw_law_39 : decode b_Lw_law 39 = .ok (.tableswitch 1108 0 15 #[77, 157, 249, 329, 432, 512, 526, 582, 638, 694, 750, 805, 873, 929, 985, 1053], 77) := by decide +kernel
theorem d_Lw_law_116 : decode b_Lw_law 116 = .ok (.aload_n 1, 1) := by decide +kernel
theorem d_Lw_law_117 : decode b_Lw_law 117 = .ok (.aload_n 0, 1) := by decide +kernel
theorem d_Lw_law_118 : decode b_Lw_law 118 = .ok (.iload 4, 2) := by decide +kernel
theorem d_Lw_law_120 : decode b_Lw_law 120 = .ok (.iconst 1, 1) := by decide +kernel
theorem d_Lw_law_121 : decode b_Lw_law 121 = .ok (.iadd, 1) := by decide +kernel
theorem d_Lw_law_122 : decode b_Lw_law 122 = .ok (.iaload, 1) := by decide +kernel
theorem d_Lw_law_123 : decode b_Lw_law 123 = .ok (.aload_n 0, 1) := by decide +kernel
theorem d_Lw_law_124 : decode b_Lw_law 124 = .ok (.iload 4, 2) := by decide +kernel
theorem d_Lw_law_126 : decode b_Lw_law 126 = .ok (.iconst 2, 1) := by decide +kernel
theorem d_Lw_law_127 : decode b_Lw_law 127 = .ok (.iadd, 1) := by decide +kernel
theorem d_Lw_law_128 : decode b_Lw_law 128 = .ok (.iaload, 1) := by decide +kernel
theorem d_Lw_law_129 : decode b_Lw_law 129 = .ok (.aload_n 0, 1) := by decide +kernel
theorem d_Lw_law_130 : decode b_Lw_law 130 = .ok (.iload 4, 2) := by decide +kernel
theorem d_Lw_law_132 : decode b_Lw_law 132 = .ok (.iconst 3, 1) := by decide +kernel
theorem d_Lw_law_133 : decode b_Lw_law 133 = .ok (.iadd, 1) := by decide +kernel
theorem d_Lw_law_134 : decode b_Lw_law 134 = .ok (.iaload, 1) := by decide +kernel
theorem d_Lw_law_135 : decode b_Lw_law 135 = .ok (.aload_n 3, 1) := by decide +kernel
theorem d_Lw_law_136 : decode b_Lw_law 136 = .ok (.invokestatic 68, 3) := by decide +kernel
theorem d_Lw_law_139 : decode b_Lw_law 139 = .ok (.istore 5, 2) := by decide +kernel
theorem d_Lw_law_141 : decode b_Lw_law 141 = .ok (.aload_n 2, 1) := by decide +kernel
theorem d_Lw_law_142 : decode b_Lw_law 142 = .ok (.aload_n 0, 1) := by decide +kernel
theorem d_Lw_law_143 : decode b_Lw_law 143 = .ok (.iload 4, 2) := by decide +kernel
theorem d_Lw_law_145 : decode b_Lw_law 145 = .ok (.iconst 1, 1) := by decide +kernel
theorem d_Lw_law_146 : decode b_Lw_law 146 = .ok (.iadd, 1) := by decide +kernel
theorem d_Lw_law_147 : decode b_Lw_law 147 = .ok (.iaload, 1) := by decide +kernel
theorem d_Lw_law_148 : decode b_Lw_law 148 = .ok (.aload_n 0, 1) := by decide +kernel
theorem d_Lw_law_149 : decode b_Lw_law 149 = .ok (.iload 4, 2) := by decide +kernel
theorem d_Lw_law_151 : decode b_Lw_law 151 = .ok (.iconst 2, 1) := by decide +kernel
theorem d_Lw_law_152 : decode b_Lw_law 152 = .ok (.iadd, 1) := by decide +kernel
theorem d_Lw_law_153 : decode b_Lw_law 153 = .ok (.iaload, 1) := by decide +kernel
theorem d_Lw_law_154 : decode b_Lw_law 154 = .ok (.aload_n 0, 1) := by decide +kernel
theorem d_Lw_law_155 : decode b_Lw_law 155 = .ok (.iload 4, 2) := by decide +kernel
theorem d_Lw_law_157 : decode b_Lw_law 157 = .ok (.iconst 3, 1) := by decide +kernel
theorem d_Lw_law_158 : decode b_Lw_law 158 = .ok (.iadd, 1) := by decide +kernel
theorem d_Lw_law_159 : decode b_Lw_law 159 = .ok (.iaload, 1) := by decide +kernel
theorem d_Lw_law_160 : decode b_Lw_law 160 = .ok (.invokevirtual 73, 3) := by decide +kernel
theorem d_Lw_law_163 : decode b_Lw_law 163 = .ok (.istore 6, 2) := by decide +kernel
theorem d_Lw_law_165 : decode b_Lw_law 165 = .ok (.aload_n 2, 1) := by decide +kernel
theorem d_Lw_law_166 : decode b_Lw_law 166 = .ok (.invokevirtual 74, 3) := by decide +kernel
theorem d_Lw_law_169 : decode b_Lw_law 169 = .ok (.iload 5, 2) := by decide +kernel
theorem d_Lw_law_171 : decode b_Lw_law 171 = .ok (.if_icmp .eq 5, 3) := by decide +kernel
theorem d_Lw_law_174 : decode b_Lw_law 174 = .ok (.iconst 0, 1) := by decide +kernel
theorem d_Lw_law_175 : decode b_Lw_law 175 = .ok (.ireturn, 1) := by decide +kernel
theorem d_Lw_law_176 : decode b_Lw_law 176 = .ok (.iload 5, 2) := by decide +kernel
theorem d_Lw_law_178 : decode b_Lw_law 178 = .ok (.ifCond .ne 15, 3) := by decide +kernel
theorem d_Lw_law_181 : decode b_Lw_law 181 = .ok (.aload_n 3, 1) := by decide +kernel
theorem d_Lw_law_182 : decode b_Lw_law 182 = .ok (.iconst 0, 1) := by decide +kernel
theorem d_Lw_law_183 : decode b_Lw_law 183 = .ok (.laload, 1) := by decide +kernel
theorem d_Lw_law_184 : decode b_Lw_law 184 = .ok (.iload 6, 2) := by decide +kernel
theorem d_Lw_law_186 : decode b_Lw_law 186 = .ok (.i2l, 1) := by decide +kernel
theorem d_Lw_law_187 : decode b_Lw_law 187 = .ok (.lcmp, 1) := by decide +kernel
theorem d_Lw_law_188 : decode b_Lw_law 188 = .ok (.ifCond .eq 5, 3) := by decide +kernel
theorem d_Lw_law_191 : decode b_Lw_law 191 = .ok (.iconst 0, 1) := by decide +kernel
theorem d_Lw_law_192 : decode b_Lw_law 192 = .ok (.ireturn, 1) := by decide +kernel
theorem d_Lw_law_193 : decode b_Lw_law 193 = .ok (.goto 954, 3) := by decide +kernel
theorem d_Lw_law_196 : decode b_Lw_law 196 = .ok (.aload_n 1, 1) := by decide +kernel
theorem d_Lw_law_197 : decode b_Lw_law 197 = .ok (.aload_n 0, 1) := by decide +kernel
theorem d_Lw_law_198 : decode b_Lw_law 198 = .ok (.iload 4, 2) := by decide +kernel
theorem d_Lw_law_200 : decode b_Lw_law 200 = .ok (.iconst 1, 1) := by decide +kernel
theorem d_Lw_law_201 : decode b_Lw_law 201 = .ok (.iadd, 1) := by decide +kernel
theorem d_Lw_law_202 : decode b_Lw_law 202 = .ok (.iaload, 1) := by decide +kernel
theorem d_Lw_law_203 : decode b_Lw_law 203 = .ok (.aload_n 0, 1) := by decide +kernel
theorem d_Lw_law_204 : decode b_Lw_law 204 = .ok (.iload 4, 2) := by decide +kernel
theorem d_Lw_law_206 : decode b_Lw_law 206 = .ok (.iconst 2, 1) := by decide +kernel
theorem d_Lw_law_207 : decode b_Lw_law 207 = .ok (.iadd, 1) := by decide +kernel
theorem d_Lw_law_208 : decode b_Lw_law 208 = .ok (.iaload, 1) := by decide +kernel
theorem d_Lw_law_209 : decode b_Lw_law 209 = .ok (.aload_n 0, 1) := by decide +kernel
theorem d_Lw_law_210 : decode b_Lw_law 210 = .ok (.iload 4, 2) := by decide +kernel
theorem d_Lw_law_212 : decode b_Lw_law 212 = .ok (.iconst 3, 1) := by decide +kernel
theorem d_Lw_law_213 : decode b_Lw_law 213 = .ok (.iadd, 1) := by decide +kernel
theorem d_Lw_law_214 : decode b_Lw_law 214 = .ok (.iaload, 1) := by decide +kernel
theorem d_Lw_law_215 : decode b_Lw_law 215 = .ok (.aload_n 0, 1) := by decide +kernel
theorem d_Lw_law_216 : decode b_Lw_law 216 = .ok (.iload 4, 2) := by decide +kernel
theorem d_Lw_law_218 : decode b_Lw_law 218 = .ok (.iconst 4, 1) := by decide +kernel
theorem d_Lw_law_219 : decode b_Lw_law 219 = .ok (.iadd, 1) := by decide +kernel
theorem d_Lw_law_220 : decode b_Lw_law 220 = .ok (.iaload, 1) := by decide +kernel
theorem d_Lw_law_221 : decode b_Lw_law 221 = .ok (.aload_n 3, 1) := by decide +kernel
theorem d_Lw_law_222 : decode b_Lw_law 222 = .ok (.invokestatic 78, 3) := by decide +kernel
theorem d_Lw_law_225 : decode b_Lw_law 225 = .ok (.istore 5, 2) := by decide +kernel
theorem d_Lw_law_227 : decode b_Lw_law 227 = .ok (.aload_n 2, 1) := by decide +kernel
theorem d_Lw_law_228 : decode b_Lw_law 228 = .ok (.aload_n 0, 1) := by decide +kernel
theorem d_Lw_law_229 : decode b_Lw_law 229 = .ok (.iload 4, 2) := by decide +kernel
theorem d_Lw_law_231 : decode b_Lw_law 231 = .ok (.iconst 1, 1) := by decide +kernel
theorem d_Lw_law_232 : decode b_Lw_law 232 = .ok (.iadd, 1) := by decide +kernel
theorem d_Lw_law_233 : decode b_Lw_law 233 = .ok (.iaload, 1) := by decide +kernel
theorem d_Lw_law_234 : decode b_Lw_law 234 = .ok (.aload_n 0, 1) := by decide +kernel
theorem d_Lw_law_235 : decode b_Lw_law 235 = .ok (.iload 4, 2) := by decide +kernel
theorem d_Lw_law_237 : decode b_Lw_law 237 = .ok (.iconst 2, 1) := by decide +kernel
theorem d_Lw_law_238 : decode b_Lw_law 238 = .ok (.iadd, 1) := by decide +kernel
theorem d_Lw_law_239 : decode b_Lw_law 239 = .ok (.iaload, 1) := by decide +kernel
theorem d_Lw_law_240 : decode b_Lw_law 240 = .ok (.aload_n 0, 1) := by decide +kernel
theorem d_Lw_law_241 : decode b_Lw_law 241 = .ok (.iload 4, 2) := by decide +kernel
theorem d_Lw_law_243 : decode b_Lw_law 243 = .ok (.iconst 3, 1) := by decide +kernel
theorem d_Lw_law_244 : decode b_Lw_law 244 = .ok (.iadd, 1) := by decide +kernel
theorem d_Lw_law_245 : decode b_Lw_law 245 = .ok (.iaload, 1) := by decide +kernel
theorem d_Lw_law_246 : decode b_Lw_law 246 = .ok (.aload_n 0, 1) := by decide +kernel
theorem d_Lw_law_247 : decode b_Lw_law 247 = .ok (.iload 4, 2) := by decide +kernel
theorem d_Lw_law_249 : decode b_Lw_law 249 = .ok (.iconst 4, 1) := by decide +kernel
theorem d_Lw_law_250 : decode b_Lw_law 250 = .ok (.iadd, 1) := by decide +kernel
theorem d_Lw_law_251 : decode b_Lw_law 251 = .ok (.iaload, 1) := by decide +kernel
theorem d_Lw_law_252 : decode b_Lw_law 252 = .ok (.invokevirtual 81, 3) := by decide +kernel
theorem d_Lw_law_255 : decode b_Lw_law 255 = .ok (.istore 6, 2) := by decide +kernel
theorem d_Lw_law_257 : decode b_Lw_law 257 = .ok (.aload_n 2, 1) := by decide +kernel
theorem d_Lw_law_258 : decode b_Lw_law 258 = .ok (.invokevirtual 74, 3) := by decide +kernel
theorem d_Lw_law_261 : decode b_Lw_law 261 = .ok (.iload 5, 2) := by decide +kernel
theorem d_Lw_law_263 : decode b_Lw_law 263 = .ok (.if_icmp .eq 5, 3) := by decide +kernel
theorem d_Lw_law_266 : decode b_Lw_law 266 = .ok (.iconst 0, 1) := by decide +kernel
theorem d_Lw_law_267 : decode b_Lw_law 267 = .ok (.ireturn, 1) := by decide +kernel
theorem d_Lw_law_268 : decode b_Lw_law 268 = .ok (.iload 5, 2) := by decide +kernel
theorem d_Lw_law_270 : decode b_Lw_law 270 = .ok (.ifCond .ne 15, 3) := by decide +kernel
theorem d_Lw_law_273 : decode b_Lw_law 273 = .ok (.aload_n 3, 1) := by decide +kernel
theorem d_Lw_law_274 : decode b_Lw_law 274 = .ok (.iconst 0, 1) := by decide +kernel
theorem d_Lw_law_275 : decode b_Lw_law 275 = .ok (.laload, 1) := by decide +kernel
theorem d_Lw_law_276 : decode b_Lw_law 276 = .ok (.iload 6, 2) := by decide +kernel
theorem d_Lw_law_278 : decode b_Lw_law 278 = .ok (.i2l, 1) := by decide +kernel
theorem d_Lw_law_279 : decode b_Lw_law 279 = .ok (.lcmp, 1) := by decide +kernel
theorem d_Lw_law_280 : decode b_Lw_law 280 = .ok (.ifCond .eq 5, 3) := by decide +kernel
theorem d_Lw_law_283 : decode b_Lw_law 283 = .ok (.iconst 0, 1) := by decide +kernel
theorem d_Lw_law_284 : decode b_Lw_law 284 = .ok (.ireturn, 1) := by decide +kernel
theorem d_Lw_law_285 : decode b_Lw_law 285 = .ok (.goto 862, 3) := by decide +kernel
theorem d_Lw_law_288 : decode b_Lw_law 288 = .ok (.aload_n 1, 1) := by decide +kernel
theorem d_Lw_law_289 : decode b_Lw_law 289 = .ok (.aload_n 0, 1) := by decide +kernel
theorem d_Lw_law_290 : decode b_Lw_law 290 = .ok (.iload 4, 2) := by decide +kernel
theorem d_Lw_law_292 : decode b_Lw_law 292 = .ok (.iconst 1, 1) := by decide +kernel
theorem d_Lw_law_293 : decode b_Lw_law 293 = .ok (.iadd, 1) := by decide +kernel
theorem d_Lw_law_294 : decode b_Lw_law 294 = .ok (.iaload, 1) := by decide +kernel
theorem d_Lw_law_295 : decode b_Lw_law 295 = .ok (.aload_n 0, 1) := by decide +kernel
theorem d_Lw_law_296 : decode b_Lw_law 296 = .ok (.iload 4, 2) := by decide +kernel
theorem d_Lw_law_298 : decode b_Lw_law 298 = .ok (.iconst 2, 1) := by decide +kernel
theorem d_Lw_law_299 : decode b_Lw_law 299 = .ok (.iadd, 1) := by decide +kernel
theorem d_Lw_law_300 : decode b_Lw_law 300 = .ok (.iaload, 1) := by decide +kernel
theorem d_Lw_law_301 : decode b_Lw_law 301 = .ok (.aload_n 0, 1) := by decide +kernel
theorem d_Lw_law_302 : decode b_Lw_law 302 = .ok (.iload 4, 2) := by decide +kernel
theorem d_Lw_law_304 : decode b_Lw_law 304 = .ok (.iconst 3, 1) := by decide +kernel
theorem d_Lw_law_305 : decode b_Lw_law 305 = .ok (.iadd, 1) := by decide +kernel
theorem d_Lw_law_306 : decode b_Lw_law 306 = .ok (.iaload, 1) := by decide +kernel
theorem d_Lw_law_307 : decode b_Lw_law 307 = .ok (.aload_n 3, 1) := by decide +kernel
theorem d_Lw_law_308 : decode b_Lw_law 308 = .ok (.invokestatic 82, 3) := by decide +kernel
theorem d_Lw_law_311 : decode b_Lw_law 311 = .ok (.istore 5, 2) := by decide +kernel
theorem d_Lw_law_313 : decode b_Lw_law 313 = .ok (.aload_n 2, 1) := by decide +kernel
theorem d_Lw_law_314 : decode b_Lw_law 314 = .ok (.aload_n 0, 1) := by decide +kernel
theorem d_Lw_law_315 : decode b_Lw_law 315 = .ok (.iload 4, 2) := by decide +kernel
theorem d_Lw_law_317 : decode b_Lw_law 317 = .ok (.iconst 1, 1) := by decide +kernel
theorem d_Lw_law_318 : decode b_Lw_law 318 = .ok (.iadd, 1) := by decide +kernel
theorem d_Lw_law_319 : decode b_Lw_law 319 = .ok (.iaload, 1) := by decide +kernel
theorem d_Lw_law_320 : decode b_Lw_law 320 = .ok (.aload_n 0, 1) := by decide +kernel
theorem d_Lw_law_321 : decode b_Lw_law 321 = .ok (.iload 4, 2) := by decide +kernel
theorem d_Lw_law_323 : decode b_Lw_law 323 = .ok (.iconst 2, 1) := by decide +kernel
theorem d_Lw_law_324 : decode b_Lw_law 324 = .ok (.iadd, 1) := by decide +kernel
theorem d_Lw_law_325 : decode b_Lw_law 325 = .ok (.iaload, 1) := by decide +kernel
theorem d_Lw_law_326 : decode b_Lw_law 326 = .ok (.aload_n 0, 1) := by decide +kernel
theorem d_Lw_law_327 : decode b_Lw_law 327 = .ok (.iload 4, 2) := by decide +kernel
theorem d_Lw_law_329 : decode b_Lw_law 329 = .ok (.iconst 3, 1) := by decide +kernel
theorem d_Lw_law_330 : decode b_Lw_law 330 = .ok (.iadd, 1) := by decide +kernel
theorem d_Lw_law_331 : decode b_Lw_law 331 = .ok (.iaload, 1) := by decide +kernel
theorem d_Lw_law_332 : decode b_Lw_law 332 = .ok (.invokevirtual 84, 3) := by decide +kernel
theorem d_Lw_law_335 : decode b_Lw_law 335 = .ok (.istore 6, 2) := by decide +kernel
theorem d_Lw_law_337 : decode b_Lw_law 337 = .ok (.aload_n 2, 1) := by decide +kernel
theorem d_Lw_law_338 : decode b_Lw_law 338 = .ok (.invokevirtual 74, 3) := by decide +kernel
theorem d_Lw_law_341 : decode b_Lw_law 341 = .ok (.iload 5, 2) := by decide +kernel
theorem d_Lw_law_343 : decode b_Lw_law 343 = .ok (.if_icmp .eq 5, 3) := by decide +kernel
theorem d_Lw_law_346 : decode b_Lw_law 346 = .ok (.iconst 0, 1) := by decide +kernel
theorem d_Lw_law_347 : decode b_Lw_law 347 = .ok (.ireturn, 1) := by decide +kernel
theorem d_Lw_law_348 : decode b_Lw_law 348 = .ok (.iload 5, 2) := by decide +kernel
theorem d_Lw_law_350 : decode b_Lw_law 350 = .ok (.ifCond .ne 15, 3) := by decide +kernel
theorem d_Lw_law_353 : decode b_Lw_law 353 = .ok (.aload_n 3, 1) := by decide +kernel
theorem d_Lw_law_354 : decode b_Lw_law 354 = .ok (.iconst 0, 1) := by decide +kernel
theorem d_Lw_law_355 : decode b_Lw_law 355 = .ok (.laload, 1) := by decide +kernel
theorem d_Lw_law_356 : decode b_Lw_law 356 = .ok (.iload 6, 2) := by decide +kernel
theorem d_Lw_law_358 : decode b_Lw_law 358 = .ok (.i2l, 1) := by decide +kernel
theorem d_Lw_law_359 : decode b_Lw_law 359 = .ok (.lcmp, 1) := by decide +kernel
theorem d_Lw_law_360 : decode b_Lw_law 360 = .ok (.ifCond .eq 5, 3) := by decide +kernel
theorem d_Lw_law_363 : decode b_Lw_law 363 = .ok (.iconst 0, 1) := by decide +kernel
theorem d_Lw_law_364 : decode b_Lw_law 364 = .ok (.ireturn, 1) := by decide +kernel
theorem d_Lw_law_365 : decode b_Lw_law 365 = .ok (.goto 782, 3) := by decide +kernel
theorem d_Lw_law_368 : decode b_Lw_law 368 = .ok (.aload_n 1, 1) := by decide +kernel
theorem d_Lw_law_369 : decode b_Lw_law 369 = .ok (.aload_n 0, 1) := by decide +kernel
theorem d_Lw_law_370 : decode b_Lw_law 370 = .ok (.iload 4, 2) := by decide +kernel
theorem d_Lw_law_372 : decode b_Lw_law 372 = .ok (.iconst 1, 1) := by decide +kernel
theorem d_Lw_law_373 : decode b_Lw_law 373 = .ok (.iadd, 1) := by decide +kernel
theorem d_Lw_law_374 : decode b_Lw_law 374 = .ok (.iaload, 1) := by decide +kernel
theorem d_Lw_law_375 : decode b_Lw_law 375 = .ok (.aload_n 0, 1) := by decide +kernel
theorem d_Lw_law_376 : decode b_Lw_law 376 = .ok (.iload 4, 2) := by decide +kernel
theorem d_Lw_law_378 : decode b_Lw_law 378 = .ok (.iconst 2, 1) := by decide +kernel
theorem d_Lw_law_379 : decode b_Lw_law 379 = .ok (.iadd, 1) := by decide +kernel
theorem d_Lw_law_380 : decode b_Lw_law 380 = .ok (.iaload, 1) := by decide +kernel
theorem d_Lw_law_381 : decode b_Lw_law 381 = .ok (.aload_n 0, 1) := by decide +kernel
theorem d_Lw_law_382 : decode b_Lw_law 382 = .ok (.iload 4, 2) := by decide +kernel
theorem d_Lw_law_384 : decode b_Lw_law 384 = .ok (.iconst 3, 1) := by decide +kernel
theorem d_Lw_law_385 : decode b_Lw_law 385 = .ok (.iadd, 1) := by decide +kernel
theorem d_Lw_law_386 : decode b_Lw_law 386 = .ok (.iaload, 1) := by decide +kernel
theorem d_Lw_law_387 : decode b_Lw_law 387 = .ok (.ifCond .eq 7, 3) := by decide +kernel
theorem d_Lw_law_390 : decode b_Lw_law 390 = .ok (.iconst 1, 1) := by decide +kernel
theorem d_Lw_law_391 : decode b_Lw_law 391 = .ok (.goto 4, 3) := by decide +kernel
theorem d_Lw_law_394 : decode b_Lw_law 394 = .ok (.iconst 0, 1) := by decide +kernel
theorem d_Lw_law_395 : decode b_Lw_law 395 = .ok (.aload_n 3, 1) := by decide +kernel
theorem d_Lw_law_396 : decode b_Lw_law 396 = .ok (.invokestatic 85, 3) := by decide +kernel
theorem d_Lw_law_399 : decode b_Lw_law 399 = .ok (.istore 5, 2) := by decide +kernel
theorem d_Lw_law_401 : decode b_Lw_law 401 = .ok (.aload_n 2, 1) := by decide +kernel
theorem d_Lw_law_402 : decode b_Lw_law 402 = .ok (.aload_n 0, 1) := by decide +kernel
theorem d_Lw_law_403 : decode b_Lw_law 403 = .ok (.iload 4, 2) := by decide +kernel
theorem d_Lw_law_405 : decode b_Lw_law 405 = .ok (.iconst 1, 1) := by decide +kernel
theorem d_Lw_law_406 : decode b_Lw_law 406 = .ok (.iadd, 1) := by decide +kernel
theorem d_Lw_law_407 : decode b_Lw_law 407 = .ok (.iaload, 1) := by decide +kernel
theorem d_Lw_law_408 : decode b_Lw_law 408 = .ok (.aload_n 0, 1) := by decide +kernel
theorem d_Lw_law_409 : decode b_Lw_law 409 = .ok (.iload 4, 2) := by decide +kernel
theorem d_Lw_law_411 : decode b_Lw_law 411 = .ok (.iconst 2, 1) := by decide +kernel
theorem d_Lw_law_412 : decode b_Lw_law 412 = .ok (.iadd, 1) := by decide +kernel
theorem d_Lw_law_413 : decode b_Lw_law 413 = .ok (.iaload, 1) := by decide +kernel
theorem d_Lw_law_414 : decode b_Lw_law 414 = .ok (.aload_n 0, 1) := by decide +kernel
theorem d_Lw_law_415 : decode b_Lw_law 415 = .ok (.iload 4, 2) := by decide +kernel
theorem d_Lw_law_417 : decode b_Lw_law 417 = .ok (.iconst 3, 1) := by decide +kernel
theorem d_Lw_law_418 : decode b_Lw_law 418 = .ok (.iadd, 1) := by decide +kernel
theorem d_Lw_law_419 : decode b_Lw_law 419 = .ok (.iaload, 1) := by decide +kernel
theorem d_Lw_law_420 : decode b_Lw_law 420 = .ok (.ifCond .eq 7, 3) := by decide +kernel
theorem d_Lw_law_423 : decode b_Lw_law 423 = .ok (.iconst 1, 1) := by decide +kernel
theorem d_Lw_law_424 : decode b_Lw_law 424 = .ok (.goto 4, 3) := by decide +kernel
theorem d_Lw_law_427 : decode b_Lw_law 427 = .ok (.iconst 0, 1) := by decide +kernel
theorem d_Lw_law_428 : decode b_Lw_law 428 = .ok (.invokevirtual 88, 3) := by decide +kernel
theorem d_Lw_law_431 : decode b_Lw_law 431 = .ok (.istore 6, 2) := by decide +kernel
theorem d_Lw_law_433 : decode b_Lw_law 433 = .ok (.aload_n 2, 1) := by decide +kernel
theorem d_Lw_law_434 : decode b_Lw_law 434 = .ok (.invokevirtual 74, 3) := by decide +kernel
theorem d_Lw_law_437 : decode b_Lw_law 437 = .ok (.iload 5, 2) := by decide +kernel
theorem d_Lw_law_439 : decode b_Lw_law 439 = .ok (.if_icmp .eq 5, 3) := by decide +kernel
theorem d_Lw_law_442 : decode b_Lw_law 442 = .ok (.iconst 0, 1) := by decide +kernel
theorem d_Lw_law_443 : decode b_Lw_law 443 = .ok (.ireturn, 1) := by decide +kernel
theorem d_Lw_law_444 : decode b_Lw_law 444 = .ok (.iload 5, 2) := by decide +kernel
theorem d_Lw_law_446 : decode b_Lw_law 446 = .ok (.ifCond .ne 22, 3) := by decide +kernel
theorem d_Lw_law_449 : decode b_Lw_law 449 = .ok (.aload_n 3, 1) := by decide +kernel
theorem d_Lw_law_450 : decode b_Lw_law 450 = .ok (.iconst 0, 1) := by decide +kernel
theorem d_Lw_law_451 : decode b_Lw_law 451 = .ok (.laload, 1) := by decide +kernel
theorem d_Lw_law_452 : decode b_Lw_law 452 = .ok (.iload 6, 2) := by decide +kernel
theorem d_Lw_law_454 : decode b_Lw_law 454 = .ok (.ifCond .eq 7, 3) := by decide +kernel
theorem d_Lw_law_457 : decode b_Lw_law 457 = .ok (.lconst 1, 1) := by decide +kernel
theorem d_Lw_law_458 : decode b_Lw_law 458 = .ok (.goto 4, 3) := by decide +kernel
theorem d_Lw_law_461 : decode b_Lw_law 461 = .ok (.lconst 0, 1) := by decide +kernel
theorem d_Lw_law_462 : decode b_Lw_law 462 = .ok (.lcmp, 1) := by decide +kernel
theorem d_Lw_law_463 : decode b_Lw_law 463 = .ok (.ifCond .eq 5, 3) := by decide +kernel
theorem d_Lw_law_466 : decode b_Lw_law 466 = .ok (.iconst 0, 1) := by decide +kernel
theorem d_Lw_law_467 : decode b_Lw_law 467 = .ok (.ireturn, 1) := by decide +kernel
theorem d_Lw_law_468 : decode b_Lw_law 468 = .ok (.goto 679, 3) := by decide +kernel
theorem d_Lw_law_471 : decode b_Lw_law 471 = .ok (.aload_n 1, 1) := by decide +kernel
theorem d_Lw_law_472 : decode b_Lw_law 472 = .ok (.aload_n 0, 1) := by decide +kernel
theorem d_Lw_law_473 : decode b_Lw_law 473 = .ok (.iload 4, 2) := by decide +kernel
theorem d_Lw_law_475 : decode b_Lw_law 475 = .ok (.iconst 1, 1) := by decide +kernel
theorem d_Lw_law_476 : decode b_Lw_law 476 = .ok (.iadd, 1) := by decide +kernel
theorem d_Lw_law_477 : decode b_Lw_law 477 = .ok (.iaload, 1) := by decide +kernel
theorem d_Lw_law_478 : decode b_Lw_law 478 = .ok (.aload_n 0, 1) := by decide +kernel
theorem d_Lw_law_479 : decode b_Lw_law 479 = .ok (.iload 4, 2) := by decide +kernel
theorem d_Lw_law_481 : decode b_Lw_law 481 = .ok (.iconst 2, 1) := by decide +kernel
theorem d_Lw_law_482 : decode b_Lw_law 482 = .ok (.iadd, 1) := by decide +kernel
theorem d_Lw_law_483 : decode b_Lw_law 483 = .ok (.iaload, 1) := by decide +kernel
theorem d_Lw_law_484 : decode b_Lw_law 484 = .ok (.aload_n 0, 1) := by decide +kernel
theorem d_Lw_law_485 : decode b_Lw_law 485 = .ok (.iload 4, 2) := by decide +kernel
theorem d_Lw_law_487 : decode b_Lw_law 487 = .ok (.iconst 3, 1) := by decide +kernel
theorem d_Lw_law_488 : decode b_Lw_law 488 = .ok (.iadd, 1) := by decide +kernel
theorem d_Lw_law_489 : decode b_Lw_law 489 = .ok (.iaload, 1) := by decide +kernel
theorem d_Lw_law_490 : decode b_Lw_law 490 = .ok (.aload_n 3, 1) := by decide +kernel
theorem d_Lw_law_491 : decode b_Lw_law 491 = .ok (.invokestatic 89, 3) := by decide +kernel
theorem d_Lw_law_494 : decode b_Lw_law 494 = .ok (.istore 5, 2) := by decide +kernel
theorem d_Lw_law_496 : decode b_Lw_law 496 = .ok (.aload_n 2, 1) := by decide +kernel
theorem d_Lw_law_497 : decode b_Lw_law 497 = .ok (.aload_n 0, 1) := by decide +kernel
theorem d_Lw_law_498 : decode b_Lw_law 498 = .ok (.iload 4, 2) := by decide +kernel
theorem d_Lw_law_500 : decode b_Lw_law 500 = .ok (.iconst 1, 1) := by decide +kernel
theorem d_Lw_law_501 : decode b_Lw_law 501 = .ok (.iadd, 1) := by decide +kernel
theorem d_Lw_law_502 : decode b_Lw_law 502 = .ok (.iaload, 1) := by decide +kernel
theorem d_Lw_law_503 : decode b_Lw_law 503 = .ok (.aload_n 0, 1) := by decide +kernel
theorem d_Lw_law_504 : decode b_Lw_law 504 = .ok (.iload 4, 2) := by decide +kernel
theorem d_Lw_law_506 : decode b_Lw_law 506 = .ok (.iconst 2, 1) := by decide +kernel
theorem d_Lw_law_507 : decode b_Lw_law 507 = .ok (.iadd, 1) := by decide +kernel
theorem d_Lw_law_508 : decode b_Lw_law 508 = .ok (.iaload, 1) := by decide +kernel
theorem d_Lw_law_509 : decode b_Lw_law 509 = .ok (.aload_n 0, 1) := by decide +kernel
theorem d_Lw_law_510 : decode b_Lw_law 510 = .ok (.iload 4, 2) := by decide +kernel
theorem d_Lw_law_512 : decode b_Lw_law 512 = .ok (.iconst 3, 1) := by decide +kernel
theorem d_Lw_law_513 : decode b_Lw_law 513 = .ok (.iadd, 1) := by decide +kernel
theorem d_Lw_law_514 : decode b_Lw_law 514 = .ok (.iaload, 1) := by decide +kernel
theorem d_Lw_law_515 : decode b_Lw_law 515 = .ok (.invokevirtual 91, 3) := by decide +kernel
theorem d_Lw_law_518 : decode b_Lw_law 518 = .ok (.istore 6, 2) := by decide +kernel
theorem d_Lw_law_520 : decode b_Lw_law 520 = .ok (.aload_n 2, 1) := by decide +kernel
theorem d_Lw_law_521 : decode b_Lw_law 521 = .ok (.invokevirtual 74, 3) := by decide +kernel
theorem d_Lw_law_524 : decode b_Lw_law 524 = .ok (.iload 5, 2) := by decide +kernel
theorem d_Lw_law_526 : decode b_Lw_law 526 = .ok (.if_icmp .eq 5, 3) := by decide +kernel
theorem d_Lw_law_529 : decode b_Lw_law 529 = .ok (.iconst 0, 1) := by decide +kernel
theorem d_Lw_law_530 : decode b_Lw_law 530 = .ok (.ireturn, 1) := by decide +kernel
theorem d_Lw_law_531 : decode b_Lw_law 531 = .ok (.iload 5, 2) := by decide +kernel
theorem d_Lw_law_533 : decode b_Lw_law 533 = .ok (.ifCond .ne 15, 3) := by decide +kernel
theorem d_Lw_law_536 : decode b_Lw_law 536 = .ok (.aload_n 3, 1) := by decide +kernel
theorem d_Lw_law_537 : decode b_Lw_law 537 = .ok (.iconst 0, 1) := by decide +kernel
theorem d_Lw_law_538 : decode b_Lw_law 538 = .ok (.laload, 1) := by decide +kernel
theorem d_Lw_law_539 : decode b_Lw_law 539 = .ok (.iload 6, 2) := by decide +kernel
theorem d_Lw_law_541 : decode b_Lw_law 541 = .ok (.i2l, 1) := by decide +kernel
theorem d_Lw_law_542 : decode b_Lw_law 542 = .ok (.lcmp, 1) := by decide +kernel
theorem d_Lw_law_543 : decode b_Lw_law 543 = .ok (.ifCond .eq 5, 3) := by decide +kernel
theorem d_Lw_law_546 : decode b_Lw_law 546 = .ok (.iconst 0, 1) := by decide +kernel
theorem d_Lw_law_547 : decode b_Lw_law 547 = .ok (.ireturn, 1) := by decide +kernel
theorem d_Lw_law_548 : decode b_Lw_law 548 = .ok (.goto 599, 3) := by decide +kernel
theorem d_Lw_law_551 : decode b_Lw_law 551 = .ok (.aload_n 1, 1) := by decide +kernel
theorem d_Lw_law_552 : decode b_Lw_law 552 = .ok (.invokevirtual 92, 3) := by decide +kernel
theorem d_Lw_law_555 : decode b_Lw_law 555 = .ok (.aload_n 2, 1) := by decide +kernel
theorem d_Lw_law_556 : decode b_Lw_law 556 = .ok (.invokevirtual 96, 3) := by decide +kernel
theorem d_Lw_law_559 : decode b_Lw_law 559 = .ok (.lcmp, 1) := by decide +kernel
theorem d_Lw_law_560 : decode b_Lw_law 560 = .ok (.ifCond .eq 587, 3) := by decide +kernel
theorem d_Lw_law_563 : decode b_Lw_law 563 = .ok (.iconst 0, 1) := by decide +kernel
theorem d_Lw_law_564 : decode b_Lw_law 564 = .ok (.ireturn, 1) := by decide +kernel
theorem d_Lw_law_565 : decode b_Lw_law 565 = .ok (.aload_n 1, 1) := by decide +kernel
theorem d_Lw_law_566 : decode b_Lw_law 566 = .ok (.aload_n 0, 1) := by decide +kernel
theorem d_Lw_law_567 : decode b_Lw_law 567 = .ok (.iload 4, 2) := by decide +kernel
theorem d_Lw_law_569 : decode b_Lw_law 569 = .ok (.iconst 1, 1) := by decide +kernel
theorem d_Lw_law_570 : decode b_Lw_law 570 = .ok (.iadd, 1) := by decide +kernel
theorem d_Lw_law_571 : decode b_Lw_law 571 = .ok (.iaload, 1) := by decide +kernel
theorem d_Lw_law_572 : decode b_Lw_law 572 = .ok (.aload_n 3, 1) := by decide +kernel
theorem d_Lw_law_573 : decode b_Lw_law 573 = .ok (.invokestatic 97, 3) := by decide +kernel
theorem d_Lw_law_576 : decode b_Lw_law 576 = .ok (.istore 5, 2) := by decide +kernel
theorem d_Lw_law_578 : decode b_Lw_law 578 = .ok (.aload_n 2, 1) := by decide +kernel
theorem d_Lw_law_579 : decode b_Lw_law 579 = .ok (.aload_n 0, 1) := by decide +kernel
theorem d_Lw_law_580 : decode b_Lw_law 580 = .ok (.iload 4, 2) := by decide +kernel
theorem d_Lw_law_582 : decode b_Lw_law 582 = .ok (.iconst 1, 1) := by decide +kernel
theorem d_Lw_law_583 : decode b_Lw_law 583 = .ok (.iadd, 1) := by decide +kernel
theorem d_Lw_law_584 : decode b_Lw_law 584 = .ok (.iaload, 1) := by decide +kernel
theorem d_Lw_law_585 : decode b_Lw_law 585 = .ok (.invokevirtual 100, 3) := by decide +kernel
theorem d_Lw_law_588 : decode b_Lw_law 588 = .ok (.istore 6, 2) := by decide +kernel
theorem d_Lw_law_590 : decode b_Lw_law 590 = .ok (.aload_n 2, 1) := by decide +kernel
theorem d_Lw_law_591 : decode b_Lw_law 591 = .ok (.invokevirtual 74, 3) := by decide +kernel
theorem d_Lw_law_594 : decode b_Lw_law 594 = .ok (.iload 5, 2) := by decide +kernel
theorem d_Lw_law_596 : decode b_Lw_law 596 = .ok (.if_icmp .eq 5, 3) := by decide +kernel
theorem d_Lw_law_599 : decode b_Lw_law 599 = .ok (.iconst 0, 1) := by decide +kernel
theorem d_Lw_law_600 : decode b_Lw_law 600 = .ok (.ireturn, 1) := by decide +kernel
theorem d_Lw_law_601 : decode b_Lw_law 601 = .ok (.iload 5, 2) := by decide +kernel
theorem d_Lw_law_603 : decode b_Lw_law 603 = .ok (.ifCond .ne 15, 3) := by decide +kernel
theorem d_Lw_law_606 : decode b_Lw_law 606 = .ok (.aload_n 3, 1) := by decide +kernel
theorem d_Lw_law_607 : decode b_Lw_law 607 = .ok (.iconst 0, 1) := by decide +kernel
theorem d_Lw_law_608 : decode b_Lw_law 608 = .ok (.laload, 1) := by decide +kernel
theorem d_Lw_law_609 : decode b_Lw_law 609 = .ok (.iload 6, 2) := by decide +kernel
theorem d_Lw_law_611 : decode b_Lw_law 611 = .ok (.i2l, 1) := by decide +kernel
theorem d_Lw_law_612 : decode b_Lw_law 612 = .ok (.lcmp, 1) := by decide +kernel
theorem d_Lw_law_613 : decode b_Lw_law 613 = .ok (.ifCond .eq 5, 3) := by decide +kernel
theorem d_Lw_law_616 : decode b_Lw_law 616 = .ok (.iconst 0, 1) := by decide +kernel
theorem d_Lw_law_617 : decode b_Lw_law 617 = .ok (.ireturn, 1) := by decide +kernel
theorem d_Lw_law_618 : decode b_Lw_law 618 = .ok (.goto 529, 3) := by decide +kernel
theorem d_Lw_law_621 : decode b_Lw_law 621 = .ok (.aload_n 1, 1) := by decide +kernel
theorem d_Lw_law_622 : decode b_Lw_law 622 = .ok (.aload_n 0, 1) := by decide +kernel
theorem d_Lw_law_623 : decode b_Lw_law 623 = .ok (.iload 4, 2) := by decide +kernel
theorem d_Lw_law_625 : decode b_Lw_law 625 = .ok (.iconst 1, 1) := by decide +kernel
theorem d_Lw_law_626 : decode b_Lw_law 626 = .ok (.iadd, 1) := by decide +kernel
theorem d_Lw_law_627 : decode b_Lw_law 627 = .ok (.iaload, 1) := by decide +kernel
theorem d_Lw_law_628 : decode b_Lw_law 628 = .ok (.aload_n 3, 1) := by decide +kernel
theorem d_Lw_law_629 : decode b_Lw_law 629 = .ok (.invokestatic 101, 3) := by decide +kernel
theorem d_Lw_law_632 : decode b_Lw_law 632 = .ok (.istore 5, 2) := by decide +kernel
theorem d_Lw_law_634 : decode b_Lw_law 634 = .ok (.aload_n 2, 1) := by decide +kernel
theorem d_Lw_law_635 : decode b_Lw_law 635 = .ok (.aload_n 0, 1) := by decide +kernel
theorem d_Lw_law_636 : decode b_Lw_law 636 = .ok (.iload 4, 2) := by decide +kernel
theorem d_Lw_law_638 : decode b_Lw_law 638 = .ok (.iconst 1, 1) := by decide +kernel
theorem d_Lw_law_639 : decode b_Lw_law 639 = .ok (.iadd, 1) := by decide +kernel
theorem d_Lw_law_640 : decode b_Lw_law 640 = .ok (.iaload, 1) := by decide +kernel
theorem d_Lw_law_641 : decode b_Lw_law 641 = .ok (.invokevirtual 103, 3) := by decide +kernel
theorem d_Lw_law_644 : decode b_Lw_law 644 = .ok (.istore 6, 2) := by decide +kernel
theorem d_Lw_law_646 : decode b_Lw_law 646 = .ok (.aload_n 2, 1) := by decide +kernel
theorem d_Lw_law_647 : decode b_Lw_law 647 = .ok (.invokevirtual 74, 3) := by decide +kernel
theorem d_Lw_law_650 : decode b_Lw_law 650 = .ok (.iload 5, 2) := by decide +kernel
theorem d_Lw_law_652 : decode b_Lw_law 652 = .ok (.if_icmp .eq 5, 3) := by decide +kernel
theorem d_Lw_law_655 : decode b_Lw_law 655 = .ok (.iconst 0, 1) := by decide +kernel
theorem d_Lw_law_656 : decode b_Lw_law 656 = .ok (.ireturn, 1) := by decide +kernel
theorem d_Lw_law_657 : decode b_Lw_law 657 = .ok (.iload 5, 2) := by decide +kernel
theorem d_Lw_law_659 : decode b_Lw_law 659 = .ok (.ifCond .ne 15, 3) := by decide +kernel
theorem d_Lw_law_662 : decode b_Lw_law 662 = .ok (.aload_n 3, 1) := by decide +kernel
theorem d_Lw_law_663 : decode b_Lw_law 663 = .ok (.iconst 0, 1) := by decide +kernel
theorem d_Lw_law_664 : decode b_Lw_law 664 = .ok (.laload, 1) := by decide +kernel
theorem d_Lw_law_665 : decode b_Lw_law 665 = .ok (.iload 6, 2) := by decide +kernel
theorem d_Lw_law_667 : decode b_Lw_law 667 = .ok (.i2l, 1) := by decide +kernel
theorem d_Lw_law_668 : decode b_Lw_law 668 = .ok (.lcmp, 1) := by decide +kernel
theorem d_Lw_law_669 : decode b_Lw_law 669 = .ok (.ifCond .eq 5, 3) := by decide +kernel
theorem d_Lw_law_672 : decode b_Lw_law 672 = .ok (.iconst 0, 1) := by decide +kernel
theorem d_Lw_law_673 : decode b_Lw_law 673 = .ok (.ireturn, 1) := by decide +kernel
theorem d_Lw_law_674 : decode b_Lw_law 674 = .ok (.goto 473, 3) := by decide +kernel
theorem d_Lw_law_677 : decode b_Lw_law 677 = .ok (.aload_n 1, 1) := by decide +kernel
theorem d_Lw_law_678 : decode b_Lw_law 678 = .ok (.aload_n 0, 1) := by decide +kernel
theorem d_Lw_law_679 : decode b_Lw_law 679 = .ok (.iload 4, 2) := by decide +kernel
theorem d_Lw_law_681 : decode b_Lw_law 681 = .ok (.iconst 1, 1) := by decide +kernel
theorem d_Lw_law_682 : decode b_Lw_law 682 = .ok (.iadd, 1) := by decide +kernel
theorem d_Lw_law_683 : decode b_Lw_law 683 = .ok (.iaload, 1) := by decide +kernel
theorem d_Lw_law_684 : decode b_Lw_law 684 = .ok (.aload_n 3, 1) := by decide +kernel
theorem d_Lw_law_685 : decode b_Lw_law 685 = .ok (.invokestatic 104, 3) := by decide +kernel
theorem d_Lw_law_688 : decode b_Lw_law 688 = .ok (.istore 5, 2) := by decide +kernel
theorem d_Lw_law_690 : decode b_Lw_law 690 = .ok (.aload_n 2, 1) := by decide +kernel
theorem d_Lw_law_691 : decode b_Lw_law 691 = .ok (.aload_n 0, 1) := by decide +kernel
theorem d_Lw_law_692 : decode b_Lw_law 692 = .ok (.iload 4, 2) := by decide +kernel
theorem d_Lw_law_694 : decode b_Lw_law 694 = .ok (.iconst 1, 1) := by decide +kernel
theorem d_Lw_law_695 : decode b_Lw_law 695 = .ok (.iadd, 1) := by decide +kernel
theorem d_Lw_law_696 : decode b_Lw_law 696 = .ok (.iaload, 1) := by decide +kernel
theorem d_Lw_law_697 : decode b_Lw_law 697 = .ok (.invokevirtual 106, 3) := by decide +kernel
theorem d_Lw_law_700 : decode b_Lw_law 700 = .ok (.istore 6, 2) := by decide +kernel
theorem d_Lw_law_702 : decode b_Lw_law 702 = .ok (.aload_n 2, 1) := by decide +kernel
theorem d_Lw_law_703 : decode b_Lw_law 703 = .ok (.invokevirtual 74, 3) := by decide +kernel
theorem d_Lw_law_706 : decode b_Lw_law 706 = .ok (.iload 5, 2) := by decide +kernel
theorem d_Lw_law_708 : decode b_Lw_law 708 = .ok (.if_icmp .eq 5, 3) := by decide +kernel
theorem d_Lw_law_711 : decode b_Lw_law 711 = .ok (.iconst 0, 1) := by decide +kernel
theorem d_Lw_law_712 : decode b_Lw_law 712 = .ok (.ireturn, 1) := by decide +kernel
theorem d_Lw_law_713 : decode b_Lw_law 713 = .ok (.iload 5, 2) := by decide +kernel
theorem d_Lw_law_715 : decode b_Lw_law 715 = .ok (.ifCond .ne 15, 3) := by decide +kernel
theorem d_Lw_law_718 : decode b_Lw_law 718 = .ok (.aload_n 3, 1) := by decide +kernel
theorem d_Lw_law_719 : decode b_Lw_law 719 = .ok (.iconst 0, 1) := by decide +kernel
theorem d_Lw_law_720 : decode b_Lw_law 720 = .ok (.laload, 1) := by decide +kernel
theorem d_Lw_law_721 : decode b_Lw_law 721 = .ok (.iload 6, 2) := by decide +kernel
theorem d_Lw_law_723 : decode b_Lw_law 723 = .ok (.i2l, 1) := by decide +kernel
theorem d_Lw_law_724 : decode b_Lw_law 724 = .ok (.lcmp, 1) := by decide +kernel
theorem d_Lw_law_725 : decode b_Lw_law 725 = .ok (.ifCond .eq 5, 3) := by decide +kernel
theorem d_Lw_law_728 : decode b_Lw_law 728 = .ok (.iconst 0, 1) := by decide +kernel
theorem d_Lw_law_729 : decode b_Lw_law 729 = .ok (.ireturn, 1) := by decide +kernel
theorem d_Lw_law_730 : decode b_Lw_law 730 = .ok (.goto 417, 3) := by decide +kernel
theorem d_Lw_law_733 : decode b_Lw_law 733 = .ok (.aload_n 1, 1) := by decide +kernel
theorem d_Lw_law_734 : decode b_Lw_law 734 = .ok (.aload_n 0, 1) := by decide +kernel
theorem d_Lw_law_735 : decode b_Lw_law 735 = .ok (.iload 4, 2) := by decide +kernel
theorem d_Lw_law_737 : decode b_Lw_law 737 = .ok (.iconst 1, 1) := by decide +kernel
theorem d_Lw_law_738 : decode b_Lw_law 738 = .ok (.iadd, 1) := by decide +kernel
theorem d_Lw_law_739 : decode b_Lw_law 739 = .ok (.iaload, 1) := by decide +kernel
theorem d_Lw_law_740 : decode b_Lw_law 740 = .ok (.aload_n 3, 1) := by decide +kernel
theorem d_Lw_law_741 : decode b_Lw_law 741 = .ok (.invokestatic 107, 3) := by decide +kernel
theorem d_Lw_law_744 : decode b_Lw_law 744 = .ok (.istore 5, 2) := by decide +kernel
theorem d_Lw_law_746 : decode b_Lw_law 746 = .ok (.aload_n 2, 1) := by decide +kernel
theorem d_Lw_law_747 : decode b_Lw_law 747 = .ok (.aload_n 0, 1) := by decide +kernel
theorem d_Lw_law_748 : decode b_Lw_law 748 = .ok (.iload 4, 2) := by decide +kernel
theorem d_Lw_law_750 : decode b_Lw_law 750 = .ok (.iconst 1, 1) := by decide +kernel
theorem d_Lw_law_751 : decode b_Lw_law 751 = .ok (.iadd, 1) := by decide +kernel
theorem d_Lw_law_752 : decode b_Lw_law 752 = .ok (.iaload, 1) := by decide +kernel
theorem d_Lw_law_753 : decode b_Lw_law 753 = .ok (.invokevirtual 109, 3) := by decide +kernel
theorem d_Lw_law_756 : decode b_Lw_law 756 = .ok (.istore 6, 2) := by decide +kernel
theorem d_Lw_law_758 : decode b_Lw_law 758 = .ok (.aload_n 2, 1) := by decide +kernel
theorem d_Lw_law_759 : decode b_Lw_law 759 = .ok (.invokevirtual 74, 3) := by decide +kernel
theorem d_Lw_law_762 : decode b_Lw_law 762 = .ok (.iload 5, 2) := by decide +kernel
theorem d_Lw_law_764 : decode b_Lw_law 764 = .ok (.if_icmp .eq 5, 3) := by decide +kernel
theorem d_Lw_law_767 : decode b_Lw_law 767 = .ok (.iconst 0, 1) := by decide +kernel
theorem d_Lw_law_768 : decode b_Lw_law 768 = .ok (.ireturn, 1) := by decide +kernel
theorem d_Lw_law_769 : decode b_Lw_law 769 = .ok (.iload 5, 2) := by decide +kernel
theorem d_Lw_law_771 : decode b_Lw_law 771 = .ok (.ifCond .ne 15, 3) := by decide +kernel
theorem d_Lw_law_774 : decode b_Lw_law 774 = .ok (.aload_n 3, 1) := by decide +kernel
theorem d_Lw_law_775 : decode b_Lw_law 775 = .ok (.iconst 0, 1) := by decide +kernel
theorem d_Lw_law_776 : decode b_Lw_law 776 = .ok (.laload, 1) := by decide +kernel
theorem d_Lw_law_777 : decode b_Lw_law 777 = .ok (.iload 6, 2) := by decide +kernel
theorem d_Lw_law_779 : decode b_Lw_law 779 = .ok (.i2l, 1) := by decide +kernel
theorem d_Lw_law_780 : decode b_Lw_law 780 = .ok (.lcmp, 1) := by decide +kernel
theorem d_Lw_law_781 : decode b_Lw_law 781 = .ok (.ifCond .eq 5, 3) := by decide +kernel
theorem d_Lw_law_784 : decode b_Lw_law 784 = .ok (.iconst 0, 1) := by decide +kernel
theorem d_Lw_law_785 : decode b_Lw_law 785 = .ok (.ireturn, 1) := by decide +kernel
theorem d_Lw_law_786 : decode b_Lw_law 786 = .ok (.goto 361, 3) := by decide +kernel
theorem d_Lw_law_789 : decode b_Lw_law 789 = .ok (.aload_n 1, 1) := by decide +kernel
theorem d_Lw_law_790 : decode b_Lw_law 790 = .ok (.aload_n 0, 1) := by decide +kernel
theorem d_Lw_law_791 : decode b_Lw_law 791 = .ok (.iload 4, 2) := by decide +kernel
theorem d_Lw_law_793 : decode b_Lw_law 793 = .ok (.iconst 1, 1) := by decide +kernel
theorem d_Lw_law_794 : decode b_Lw_law 794 = .ok (.iadd, 1) := by decide +kernel
theorem d_Lw_law_795 : decode b_Lw_law 795 = .ok (.iaload, 1) := by decide +kernel
theorem d_Lw_law_796 : decode b_Lw_law 796 = .ok (.aload_n 3, 1) := by decide +kernel
theorem d_Lw_law_797 : decode b_Lw_law 797 = .ok (.invokestatic 110, 3) := by decide +kernel
theorem d_Lw_law_800 : decode b_Lw_law 800 = .ok (.istore 5, 2) := by decide +kernel
theorem d_Lw_law_802 : decode b_Lw_law 802 = .ok (.aload_n 2, 1) := by decide +kernel
theorem d_Lw_law_803 : decode b_Lw_law 803 = .ok (.aload_n 0, 1) := by decide +kernel
theorem d_Lw_law_804 : decode b_Lw_law 804 = .ok (.iload 4, 2) := by decide +kernel
theorem d_Lw_law_806 : decode b_Lw_law 806 = .ok (.iconst 1, 1) := by decide +kernel
theorem d_Lw_law_807 : decode b_Lw_law 807 = .ok (.iadd, 1) := by decide +kernel
theorem d_Lw_law_808 : decode b_Lw_law 808 = .ok (.iaload, 1) := by decide +kernel
theorem d_Lw_law_809 : decode b_Lw_law 809 = .ok (.invokevirtual 112, 3) := by decide +kernel
theorem d_Lw_law_812 : decode b_Lw_law 812 = .ok (.lstore 6, 2) := by decide +kernel
theorem d_Lw_law_814 : decode b_Lw_law 814 = .ok (.aload_n 2, 1) := by decide +kernel
theorem d_Lw_law_815 : decode b_Lw_law 815 = .ok (.invokevirtual 74, 3) := by decide +kernel
theorem d_Lw_law_818 : decode b_Lw_law 818 = .ok (.iload 5, 2) := by decide +kernel
theorem d_Lw_law_820 : decode b_Lw_law 820 = .ok (.if_icmp .eq 5, 3) := by decide +kernel
theorem d_Lw_law_823 : decode b_Lw_law 823 = .ok (.iconst 0, 1) := by decide +kernel
theorem d_Lw_law_824 : decode b_Lw_law 824 = .ok (.ireturn, 1) := by decide +kernel
theorem d_Lw_law_825 : decode b_Lw_law 825 = .ok (.iload 5, 2) := by decide +kernel
theorem d_Lw_law_827 : decode b_Lw_law 827 = .ok (.ifCond .ne 14, 3) := by decide +kernel
theorem d_Lw_law_830 : decode b_Lw_law 830 = .ok (.aload_n 3, 1) := by decide +kernel
theorem d_Lw_law_831 : decode b_Lw_law 831 = .ok (.iconst 0, 1) := by decide +kernel
theorem d_Lw_law_832 : decode b_Lw_law 832 = .ok (.laload, 1) := by decide +kernel
theorem d_Lw_law_833 : decode b_Lw_law 833 = .ok (.lload 6, 2) := by decide +kernel
theorem d_Lw_law_835 : decode b_Lw_law 835 = .ok (.lcmp, 1) := by decide +kernel
theorem d_Lw_law_836 : decode b_Lw_law 836 = .ok (.ifCond .eq 5, 3) := by decide +kernel
theorem d_Lw_law_839 : decode b_Lw_law 839 = .ok (.iconst 0, 1) := by decide +kernel
theorem d_Lw_law_840 : decode b_Lw_law 840 = .ok (.ireturn, 1) := by decide +kernel
theorem d_Lw_law_841 : decode b_Lw_law 841 = .ok (.goto 306, 3) := by decide +kernel
theorem d_Lw_law_844 : decode b_Lw_law 844 = .ok (.aload_n 1, 1) := by decide +kernel
theorem d_Lw_law_845 : decode b_Lw_law 845 = .ok (.aload_n 0, 1) := by decide +kernel
theorem d_Lw_law_846 : decode b_Lw_law 846 = .ok (.iload 4, 2) := by decide +kernel
theorem d_Lw_law_848 : decode b_Lw_law 848 = .ok (.iconst 1, 1) := by decide +kernel
theorem d_Lw_law_849 : decode b_Lw_law 849 = .ok (.iadd, 1) := by decide +kernel
theorem d_Lw_law_850 : decode b_Lw_law 850 = .ok (.iaload, 1) := by decide +kernel
theorem d_Lw_law_851 : decode b_Lw_law 851 = .ok (.aload_n 0, 1) := by decide +kernel
theorem d_Lw_law_852 : decode b_Lw_law 852 = .ok (.iload 4, 2) := by decide +kernel
theorem d_Lw_law_854 : decode b_Lw_law 854 = .ok (.iconst 2, 1) := by decide +kernel
theorem d_Lw_law_855 : decode b_Lw_law 855 = .ok (.iadd, 1) := by decide +kernel
theorem d_Lw_law_856 : decode b_Lw_law 856 = .ok (.iaload, 1) := by decide +kernel
theorem d_Lw_law_857 : decode b_Lw_law 857 = .ok (.aload_n 3, 1) := by decide +kernel
theorem d_Lw_law_858 : decode b_Lw_law 858 = .ok (.invokestatic 113, 3) := by decide +kernel
theorem d_Lw_law_861 : decode b_Lw_law 861 = .ok (.istore 5, 2) := by decide +kernel
theorem d_Lw_law_863 : decode b_Lw_law 863 = .ok (.aload_n 2, 1) := by decide +kernel
theorem d_Lw_law_864 : decode b_Lw_law 864 = .ok (.aload_n 0, 1) := by decide +kernel
theorem d_Lw_law_865 : decode b_Lw_law 865 = .ok (.iload 4, 2) := by decide +kernel
theorem d_Lw_law_867 : decode b_Lw_law 867 = .ok (.iconst 1, 1) := by decide +kernel
theorem d_Lw_law_868 : decode b_Lw_law 868 = .ok (.iadd, 1) := by decide +kernel
theorem d_Lw_law_869 : decode b_Lw_law 869 = .ok (.iaload, 1) := by decide +kernel
theorem d_Lw_law_870 : decode b_Lw_law 870 = .ok (.aload_n 0, 1) := by decide +kernel
theorem d_Lw_law_871 : decode b_Lw_law 871 = .ok (.iload 4, 2) := by decide +kernel
theorem d_Lw_law_873 : decode b_Lw_law 873 = .ok (.iconst 2, 1) := by decide +kernel
theorem d_Lw_law_874 : decode b_Lw_law 874 = .ok (.iadd, 1) := by decide +kernel
theorem d_Lw_law_875 : decode b_Lw_law 875 = .ok (.iaload, 1) := by decide +kernel
theorem d_Lw_law_876 : decode b_Lw_law 876 = .ok (.invokevirtual 116, 3) := by decide +kernel
theorem d_Lw_law_879 : decode b_Lw_law 879 = .ok (.istore 6, 2) := by decide +kernel
theorem d_Lw_law_881 : decode b_Lw_law 881 = .ok (.aload_n 2, 1) := by decide +kernel
theorem d_Lw_law_882 : decode b_Lw_law 882 = .ok (.invokevirtual 74, 3) := by decide +kernel
theorem d_Lw_law_885 : decode b_Lw_law 885 = .ok (.iload 5, 2) := by decide +kernel
theorem d_Lw_law_887 : decode b_Lw_law 887 = .ok (.if_icmp .eq 5, 3) := by decide +kernel
theorem d_Lw_law_890 : decode b_Lw_law 890 = .ok (.iconst 0, 1) := by decide +kernel
theorem d_Lw_law_891 : decode b_Lw_law 891 = .ok (.ireturn, 1) := by decide +kernel
theorem d_Lw_law_892 : decode b_Lw_law 892 = .ok (.iload 5, 2) := by decide +kernel
theorem d_Lw_law_894 : decode b_Lw_law 894 = .ok (.ifCond .ne 15, 3) := by decide +kernel
theorem d_Lw_law_897 : decode b_Lw_law 897 = .ok (.aload_n 3, 1) := by decide +kernel
theorem d_Lw_law_898 : decode b_Lw_law 898 = .ok (.iconst 0, 1) := by decide +kernel
theorem d_Lw_law_899 : decode b_Lw_law 899 = .ok (.laload, 1) := by decide +kernel
theorem d_Lw_law_900 : decode b_Lw_law 900 = .ok (.iload 6, 2) := by decide +kernel
theorem d_Lw_law_902 : decode b_Lw_law 902 = .ok (.i2l, 1) := by decide +kernel
theorem d_Lw_law_903 : decode b_Lw_law 903 = .ok (.lcmp, 1) := by decide +kernel
theorem d_Lw_law_904 : decode b_Lw_law 904 = .ok (.ifCond .eq 5, 3) := by decide +kernel
theorem d_Lw_law_907 : decode b_Lw_law 907 = .ok (.iconst 0, 1) := by decide +kernel
theorem d_Lw_law_908 : decode b_Lw_law 908 = .ok (.ireturn, 1) := by decide +kernel
theorem d_Lw_law_909 : decode b_Lw_law 909 = .ok (.goto 238, 3) := by decide +kernel
theorem d_Lw_law_912 : decode b_Lw_law 912 = .ok (.aload_n 1, 1) := by decide +kernel
theorem d_Lw_law_913 : decode b_Lw_law 913 = .ok (.aload_n 0, 1) := by decide +kernel
theorem d_Lw_law_914 : decode b_Lw_law 914 = .ok (.iload 4, 2) := by decide +kernel
theorem d_Lw_law_916 : decode b_Lw_law 916 = .ok (.iconst 1, 1) := by decide +kernel
theorem d_Lw_law_917 : decode b_Lw_law 917 = .ok (.iadd, 1) := by decide +kernel
theorem d_Lw_law_918 : decode b_Lw_law 918 = .ok (.iaload, 1) := by decide +kernel
theorem d_Lw_law_919 : decode b_Lw_law 919 = .ok (.aload_n 3, 1) := by decide +kernel
theorem d_Lw_law_920 : decode b_Lw_law 920 = .ok (.invokestatic 117, 3) := by decide +kernel
theorem d_Lw_law_923 : decode b_Lw_law 923 = .ok (.istore 5, 2) := by decide +kernel
theorem d_Lw_law_925 : decode b_Lw_law 925 = .ok (.aload_n 2, 1) := by decide +kernel
theorem d_Lw_law_926 : decode b_Lw_law 926 = .ok (.aload_n 0, 1) := by decide +kernel
theorem d_Lw_law_927 : decode b_Lw_law 927 = .ok (.iload 4, 2) := by decide +kernel
theorem d_Lw_law_929 : decode b_Lw_law 929 = .ok (.iconst 1, 1) := by decide +kernel
theorem d_Lw_law_930 : decode b_Lw_law 930 = .ok (.iadd, 1) := by decide +kernel
theorem d_Lw_law_931 : decode b_Lw_law 931 = .ok (.iaload, 1) := by decide +kernel
theorem d_Lw_law_932 : decode b_Lw_law 932 = .ok (.invokevirtual 119, 3) := by decide +kernel
theorem d_Lw_law_935 : decode b_Lw_law 935 = .ok (.istore 6, 2) := by decide +kernel
theorem d_Lw_law_937 : decode b_Lw_law 937 = .ok (.aload_n 2, 1) := by decide +kernel
theorem d_Lw_law_938 : decode b_Lw_law 938 = .ok (.invokevirtual 74, 3) := by decide +kernel
theorem d_Lw_law_941 : decode b_Lw_law 941 = .ok (.iload 5, 2) := by decide +kernel
theorem d_Lw_law_943 : decode b_Lw_law 943 = .ok (.if_icmp .eq 5, 3) := by decide +kernel
theorem d_Lw_law_946 : decode b_Lw_law 946 = .ok (.iconst 0, 1) := by decide +kernel
theorem d_Lw_law_947 : decode b_Lw_law 947 = .ok (.ireturn, 1) := by decide +kernel
theorem d_Lw_law_948 : decode b_Lw_law 948 = .ok (.iload 5, 2) := by decide +kernel
theorem d_Lw_law_950 : decode b_Lw_law 950 = .ok (.ifCond .ne 15, 3) := by decide +kernel
theorem d_Lw_law_953 : decode b_Lw_law 953 = .ok (.aload_n 3, 1) := by decide +kernel
theorem d_Lw_law_954 : decode b_Lw_law 954 = .ok (.iconst 0, 1) := by decide +kernel
theorem d_Lw_law_955 : decode b_Lw_law 955 = .ok (.laload, 1) := by decide +kernel
theorem d_Lw_law_956 : decode b_Lw_law 956 = .ok (.iload 6, 2) := by decide +kernel
theorem d_Lw_law_958 : decode b_Lw_law 958 = .ok (.i2l, 1) := by decide +kernel
theorem d_Lw_law_959 : decode b_Lw_law 959 = .ok (.lcmp, 1) := by decide +kernel
theorem d_Lw_law_960 : decode b_Lw_law 960 = .ok (.ifCond .eq 5, 3) := by decide +kernel
theorem d_Lw_law_963 : decode b_Lw_law 963 = .ok (.iconst 0, 1) := by decide +kernel
theorem d_Lw_law_964 : decode b_Lw_law 964 = .ok (.ireturn, 1) := by decide +kernel
theorem d_Lw_law_965 : decode b_Lw_law 965 = .ok (.goto 182, 3) := by decide +kernel
theorem d_Lw_law_968 : decode b_Lw_law 968 = .ok (.aload_n 1, 1) := by decide +kernel
theorem d_Lw_law_969 : decode b_Lw_law 969 = .ok (.aload_n 0, 1) := by decide +kernel
theorem d_Lw_law_970 : decode b_Lw_law 970 = .ok (.iload 4, 2) := by decide +kernel
theorem d_Lw_law_972 : decode b_Lw_law 972 = .ok (.iconst 1, 1) := by decide +kernel
theorem d_Lw_law_973 : decode b_Lw_law 973 = .ok (.iadd, 1) := by decide +kernel
theorem d_Lw_law_974 : decode b_Lw_law 974 = .ok (.iaload, 1) := by decide +kernel
theorem d_Lw_law_975 : decode b_Lw_law 975 = .ok (.aload_n 3, 1) := by decide +kernel
theorem d_Lw_law_976 : decode b_Lw_law 976 = .ok (.invokestatic 120, 3) := by decide +kernel
theorem d_Lw_law_979 : decode b_Lw_law 979 = .ok (.istore 5, 2) := by decide +kernel
theorem d_Lw_law_981 : decode b_Lw_law 981 = .ok (.aload_n 2, 1) := by decide +kernel
theorem d_Lw_law_982 : decode b_Lw_law 982 = .ok (.aload_n 0, 1) := by decide +kernel
theorem d_Lw_law_983 : decode b_Lw_law 983 = .ok (.iload 4, 2) := by decide +kernel
theorem d_Lw_law_985 : decode b_Lw_law 985 = .ok (.iconst 1, 1) := by decide +kernel
theorem d_Lw_law_986 : decode b_Lw_law 986 = .ok (.iadd, 1) := by decide +kernel
theorem d_Lw_law_987 : decode b_Lw_law 987 = .ok (.iaload, 1) := by decide +kernel
theorem d_Lw_law_988 : decode b_Lw_law 988 = .ok (.invokevirtual 122, 3) := by decide +kernel
theorem d_Lw_law_991 : decode b_Lw_law 991 = .ok (.istore 6, 2) := by decide +kernel
theorem d_Lw_law_993 : decode b_Lw_law 993 = .ok (.aload_n 2, 1) := by decide +kernel
theorem d_Lw_law_994 : decode b_Lw_law 994 = .ok (.invokevirtual 74, 3) := by decide +kernel
theorem d_Lw_law_997 : decode b_Lw_law 997 = .ok (.iload 5, 2) := by decide +kernel
theorem d_Lw_law_999 : decode b_Lw_law 999 = .ok (.if_icmp .eq 5, 3) := by decide +kernel
theorem d_Lw_law_1002 : decode b_Lw_law 1002 = .ok (.iconst 0, 1) := by decide +kernel
theorem d_Lw_law_1003 : decode b_Lw_law 1003 = .ok (.ireturn, 1) := by decide +kernel
theorem d_Lw_law_1004 : decode b_Lw_law 1004 = .ok (.iload 5, 2) := by decide +kernel
theorem d_Lw_law_1006 : decode b_Lw_law 1006 = .ok (.ifCond .ne 15, 3) := by decide +kernel
theorem d_Lw_law_1009 : decode b_Lw_law 1009 = .ok (.aload_n 3, 1) := by decide +kernel
theorem d_Lw_law_1010 : decode b_Lw_law 1010 = .ok (.iconst 0, 1) := by decide +kernel
theorem d_Lw_law_1011 : decode b_Lw_law 1011 = .ok (.laload, 1) := by decide +kernel
theorem d_Lw_law_1012 : decode b_Lw_law 1012 = .ok (.iload 6, 2) := by decide +kernel
theorem d_Lw_law_1014 : decode b_Lw_law 1014 = .ok (.i2l, 1) := by decide +kernel
theorem d_Lw_law_1015 : decode b_Lw_law 1015 = .ok (.lcmp, 1) := by decide +kernel
theorem d_Lw_law_1016 : decode b_Lw_law 1016 = .ok (.ifCond .eq 5, 3) := by decide +kernel
theorem d_Lw_law_1019 : decode b_Lw_law 1019 = .ok (.iconst 0, 1) := by decide +kernel
theorem d_Lw_law_1020 : decode b_Lw_law 1020 = .ok (.ireturn, 1) := by decide +kernel
theorem d_Lw_law_1021 : decode b_Lw_law 1021 = .ok (.goto 126, 3) := by decide +kernel
theorem d_Lw_law_1024 : decode b_Lw_law 1024 = .ok (.aload_n 1, 1) := by decide +kernel
theorem d_Lw_law_1025 : decode b_Lw_law 1025 = .ok (.aload_n 0, 1) := by decide +kernel
theorem d_Lw_law_1026 : decode b_Lw_law 1026 = .ok (.iload 4, 2) := by decide +kernel
theorem d_Lw_law_1028 : decode b_Lw_law 1028 = .ok (.iconst 1, 1) := by decide +kernel
theorem d_Lw_law_1029 : decode b_Lw_law 1029 = .ok (.iadd, 1) := by decide +kernel
theorem d_Lw_law_1030 : decode b_Lw_law 1030 = .ok (.iaload, 1) := by decide +kernel
theorem d_Lw_law_1031 : decode b_Lw_law 1031 = .ok (.aload_n 0, 1) := by decide +kernel
theorem d_Lw_law_1032 : decode b_Lw_law 1032 = .ok (.iload 4, 2) := by decide +kernel
theorem d_Lw_law_1034 : decode b_Lw_law 1034 = .ok (.iconst 2, 1) := by decide +kernel
theorem d_Lw_law_1035 : decode b_Lw_law 1035 = .ok (.iadd, 1) := by decide +kernel
theorem d_Lw_law_1036 : decode b_Lw_law 1036 = .ok (.iaload, 1) := by decide +kernel
theorem d_Lw_law_1037 : decode b_Lw_law 1037 = .ok (.aload_n 3, 1) := by decide +kernel
theorem d_Lw_law_1038 : decode b_Lw_law 1038 = .ok (.invokestatic 123, 3) := by decide +kernel
theorem d_Lw_law_1041 : decode b_Lw_law 1041 = .ok (.istore 5, 2) := by decide +kernel
theorem d_Lw_law_1043 : decode b_Lw_law 1043 = .ok (.aload_n 2, 1) := by decide +kernel
theorem d_Lw_law_1044 : decode b_Lw_law 1044 = .ok (.aload_n 0, 1) := by decide +kernel
theorem d_Lw_law_1045 : decode b_Lw_law 1045 = .ok (.iload 4, 2) := by decide +kernel
theorem d_Lw_law_1047 : decode b_Lw_law 1047 = .ok (.iconst 1, 1) := by decide +kernel
theorem d_Lw_law_1048 : decode b_Lw_law 1048 = .ok (.iadd, 1) := by decide +kernel
theorem d_Lw_law_1049 : decode b_Lw_law 1049 = .ok (.iaload, 1) := by decide +kernel
theorem d_Lw_law_1050 : decode b_Lw_law 1050 = .ok (.aload_n 0, 1) := by decide +kernel
theorem d_Lw_law_1051 : decode b_Lw_law 1051 = .ok (.iload 4, 2) := by decide +kernel
theorem d_Lw_law_1053 : decode b_Lw_law 1053 = .ok (.iconst 2, 1) := by decide +kernel
theorem d_Lw_law_1054 : decode b_Lw_law 1054 = .ok (.iadd, 1) := by decide +kernel
theorem d_Lw_law_1055 : decode b_Lw_law 1055 = .ok (.iaload, 1) := by decide +kernel
theorem d_Lw_law_1056 : decode b_Lw_law 1056 = .ok (.invokevirtual 125, 3) := by decide +kernel
theorem d_Lw_law_1059 : decode b_Lw_law 1059 = .ok (.istore 6, 2) := by decide +kernel
theorem d_Lw_law_1061 : decode b_Lw_law 1061 = .ok (.aload_n 2, 1) := by decide +kernel
theorem d_Lw_law_1062 : decode b_Lw_law 1062 = .ok (.invokevirtual 74, 3) := by decide +kernel
theorem d_Lw_law_1065 : decode b_Lw_law 1065 = .ok (.iload 5, 2) := by decide +kernel
theorem d_Lw_law_1067 : decode b_Lw_law 1067 = .ok (.if_icmp .eq 5, 3) := by decide +kernel
theorem d_Lw_law_1070 : decode b_Lw_law 1070 = .ok (.iconst 0, 1) := by decide +kernel
theorem d_Lw_law_1071 : decode b_Lw_law 1071 = .ok (.ireturn, 1) := by decide +kernel
theorem d_Lw_law_1072 : decode b_Lw_law 1072 = .ok (.iload 5, 2) := by decide +kernel
theorem d_Lw_law_1074 : decode b_Lw_law 1074 = .ok (.ifCond .ne 15, 3) := by decide +kernel
theorem d_Lw_law_1077 : decode b_Lw_law 1077 = .ok (.aload_n 3, 1) := by decide +kernel
theorem d_Lw_law_1078 : decode b_Lw_law 1078 = .ok (.iconst 0, 1) := by decide +kernel
theorem d_Lw_law_1079 : decode b_Lw_law 1079 = .ok (.laload, 1) := by decide +kernel
theorem d_Lw_law_1080 : decode b_Lw_law 1080 = .ok (.iload 6, 2) := by decide +kernel
theorem d_Lw_law_1082 : decode b_Lw_law 1082 = .ok (.i2l, 1) := by decide +kernel
theorem d_Lw_law_1083 : decode b_Lw_law 1083 = .ok (.lcmp, 1) := by decide +kernel
theorem d_Lw_law_1084 : decode b_Lw_law 1084 = .ok (.ifCond .eq 5, 3) := by decide +kernel
theorem d_Lw_law_1087 : decode b_Lw_law 1087 = .ok (.iconst 0, 1) := by decide +kernel
theorem d_Lw_law_1088 : decode b_Lw_law 1088 = .ok (.ireturn, 1) := by decide +kernel
theorem d_Lw_law_1089 : decode b_Lw_law 1089 = .ok (.goto 58, 3) := by decide +kernel
theorem d_Lw_law_1092 : decode b_Lw_law 1092 = .ok (.aload_n 1, 1) := by decide +kernel
theorem d_Lw_law_1093 : decode b_Lw_law 1093 = .ok (.aload_n 0, 1) := by decide +kernel
theorem d_Lw_law_1094 : decode b_Lw_law 1094 = .ok (.iload 4, 2) := by decide +kernel
theorem d_Lw_law_1096 : decode b_Lw_law 1096 = .ok (.iconst 1, 1) := by decide +kernel
theorem d_Lw_law_1097 : decode b_Lw_law 1097 = .ok (.iadd, 1) := by decide +kernel
theorem d_Lw_law_1098 : decode b_Lw_law 1098 = .ok (.iaload, 1) := by decide +kernel
theorem d_Lw_law_1099 : decode b_Lw_law 1099 = .ok (.aload_n 3, 1) := by decide +kernel
theorem d_Lw_law_1100 : decode b_Lw_law 1100 = .ok (.invokestatic 126, 3) := by decide +kernel
theorem d_Lw_law_1103 : decode b_Lw_law 1103 = .ok (.istore 5, 2) := by decide +kernel
theorem d_Lw_law_1105 : decode b_Lw_law 1105 = .ok (.aload_n 2, 1) := by decide +kernel
theorem d_Lw_law_1106 : decode b_Lw_law 1106 = .ok (.aload_n 0, 1) := by decide +kernel
theorem d_Lw_law_1107 : decode b_Lw_law 1107 = .ok (.iload 4, 2) := by decide +kernel
theorem d_Lw_law_1109 : decode b_Lw_law 1109 = .ok (.iconst 1, 1) := by decide +kernel
theorem d_Lw_law_1110 : decode b_Lw_law 1110 = .ok (.iadd, 1) := by decide +kernel
theorem d_Lw_law_1111 : decode b_Lw_law 1111 = .ok (.iaload, 1) := by decide +kernel
theorem d_Lw_law_1112 : decode b_Lw_law 1112 = .ok (.invokevirtual 128, 3) := by decide +kernel
theorem d_Lw_law_1115 : decode b_Lw_law 1115 = .ok (.lstore 6, 2) := by decide +kernel
theorem d_Lw_law_1117 : decode b_Lw_law 1117 = .ok (.aload_n 2, 1) := by decide +kernel
theorem d_Lw_law_1118 : decode b_Lw_law 1118 = .ok (.invokevirtual 74, 3) := by decide +kernel
theorem d_Lw_law_1121 : decode b_Lw_law 1121 = .ok (.iload 5, 2) := by decide +kernel
theorem d_Lw_law_1123 : decode b_Lw_law 1123 = .ok (.if_icmp .eq 5, 3) := by decide +kernel
theorem d_Lw_law_1126 : decode b_Lw_law 1126 = .ok (.iconst 0, 1) := by decide +kernel
theorem d_Lw_law_1127 : decode b_Lw_law 1127 = .ok (.ireturn, 1) := by decide +kernel
theorem d_Lw_law_1128 : decode b_Lw_law 1128 = .ok (.iload 5, 2) := by decide +kernel
theorem d_Lw_law_1130 : decode b_Lw_law 1130 = .ok (.ifCond .ne 14, 3) := by decide +kernel
theorem d_Lw_law_1133 : decode b_Lw_law 1133 = .ok (.aload_n 3, 1) := by decide +kernel
theorem d_Lw_law_1134 : decode b_Lw_law 1134 = .ok (.iconst 0, 1) := by decide +kernel
theorem d_Lw_law_1135 : decode b_Lw_law 1135 = .ok (.laload, 1) := by decide +kernel
theorem d_Lw_law_1136 : decode b_Lw_law 1136 = .ok (.lload 6, 2) := by decide +kernel
theorem d_Lw_law_1138 : decode b_Lw_law 1138 = .ok (.lcmp, 1) := by decide +kernel
theorem d_Lw_law_1139 : decode b_Lw_law 1139 = .ok (.ifCond .eq 5, 3) := by decide +kernel
theorem d_Lw_law_1142 : decode b_Lw_law 1142 = .ok (.iconst 0, 1) := by decide +kernel
theorem d_Lw_law_1143 : decode b_Lw_law 1143 = .ok (.ireturn, 1) := by decide +kernel
theorem d_Lw_law_1144 : decode b_Lw_law 1144 = .ok (.goto 3, 3) := by decide +kernel
theorem d_Lw_law_1147 : decode b_Lw_law 1147 = .ok (.iinc 4 5, 3) := by decide +kernel
theorem d_Lw_law_1150 : decode b_Lw_law 1150 = .ok (.goto (-1127), 3) := by decide +kernel
theorem d_Lw_law_1153 : decode b_Lw_law 1153 = .ok (.iconst 1, 1) := by decide +kernel
theorem d_Lw_law_1154 : decode b_Lw_law 1154 = .ok (.ireturn, 1) := by decide +kernel
