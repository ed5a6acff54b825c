theorem d_Lw_law_0 : decode code 0 = .ok (.new 7, 3) := by decide +kernel
theorem d_Lw_law_3 : decode code 3 = .ok (.dup, 1) := by decide +kernel
theorem d_Lw_law_4 : decode code 4 = .ok (.invokespecial 9, 3) := by decide +kernel
theorem d_Lw_law_7 : decode code 7 = .ok (.astore_n 1, 1) := by decide +kernel
theorem d_Lw_law_8 : decode code 8 = .ok (.new 10, 3) := by decide +kernel
theorem d_Lw_law_11 : decode code 11 = .ok (.dup, 1) := by decide +kernel
theorem d_Lw_law_12 : decode code 12 = .ok (.invokespecial 12, 3) := by decide +kernel
theorem d_Lw_law_15 : decode code 15 = .ok (.astore_n 2, 1) := by decide +kernel
theorem d_Lw_law_16 : decode code 16 = .ok (.iconst 0, 1) := by decide +kernel
theorem d_Lw_law_17 : decode code 17 = .ok (.istore_n 3, 1) := by decide +kernel
theorem d_Lw_law_18 : decode code 18 = .ok (.iload_n 3, 1) := by decide +kernel
theorem d_Lw_law_19 : decode code 19 = .ok (.aload_n 0, 1) := by decide +kernel
theorem d_Lw_law_20 : decode code 20 = .ok (.arraylength, 1) := by decide +kernel
theorem d_Lw_law_21 : decode code 21 = .ok (.iconst 5, 1) := by decide +kernel
theorem d_Lw_law_22 : decode code 22 = .ok (.isub, 1) := by decide +kernel
theorem d_Lw_law_23 : decode code 23 = .ok (.if_icmp .gt 616, 3) := by decide +kernel
theorem d_Lw_law_26 : decode code 26 = .ok (.aload_n 0, 1) := by decide +kernel
theorem d_Lw_law_27 : decode code 27 = .ok (.iload_n 3, 1) := by decide +kernel
theorem d_Lw_law_28 : decode code 28 = .ok (.iaload, 1) := by decide +kernel
theorem d_Lw_law_29 : decode code 29 = .ok (.bipush 15, 2) := by decide +kernel
theorem d_Lw_law_31 : decode code 31 = .ok (.iand, 1) := by decide +kernel
theorem d_Lw_law_32 : decode code 32 = .ok (.tableswitch 601 0 14 #[76, 109, 162, 195, 248, 281, 324, 357, 400, 443, 466, 479, 512, 545, 578], 76) := by decide +kernel
theorem d_Lw_law_108 : decode code 108 = .ok (.aload_n 1, 1) := by decide +kernel
theorem d_Lw_law_109 : decode code 109 = .ok (.aload_n 0, 1) := by decide +kernel
theorem d_Lw_law_110 : decode code 110 = .ok (.iload_n 3, 1) := by decide +kernel
theorem d_Lw_law_111 : decode code 111 = .ok (.iconst 1, 1) := by decide +kernel
theorem d_Lw_law_112 : decode code 112 = .ok (.iadd, 1) := by decide +kernel
theorem d_Lw_law_113 : decode code 113 = .ok (.iaload, 1) := by decide +kernel
theorem d_Lw_law_114 : decode code 114 = .ok (.aload_n 0, 1) := by decide +kernel
theorem d_Lw_law_115 : decode code 115 = .ok (.iload_n 3, 1) := by decide +kernel
theorem d_Lw_law_116 : decode code 116 = .ok (.iconst 2, 1) := by decide +kernel
theorem d_Lw_law_117 : decode code 117 = .ok (.iadd, 1) := by decide +kernel
theorem d_Lw_law_118 : decode code 118 = .ok (.iaload, 1) := by decide +kernel
theorem d_Lw_law_119 : decode code 119 = .ok (.invokevirtual 13, 3) := by decide +kernel
theorem d_Lw_law_122 : decode code 122 = .ok (.aload_n 2, 1) := by decide +kernel
theorem d_Lw_law_123 : decode code 123 = .ok (.aload_n 0, 1) := by decide +kernel
theorem d_Lw_law_124 : decode code 124 = .ok (.iload_n 3, 1) := by decide +kernel
theorem d_Lw_law_125 : decode code 125 = .ok (.iconst 1, 1) := by decide +kernel
theorem d_Lw_law_126 : decode code 126 = .ok (.iadd, 1) := by decide +kernel
theorem d_Lw_law_127 : decode code 127 = .ok (.iaload, 1) := by decide +kernel
theorem d_Lw_law_128 : decode code 128 = .ok (.aload_n 0, 1) := by decide +kernel
theorem d_Lw_law_129 : decode code 129 = .ok (.iload_n 3, 1) := by decide +kernel
theorem d_Lw_law_130 : decode code 130 = .ok (.iconst 2, 1) := by decide +kernel
theorem d_Lw_law_131 : decode code 131 = .ok (.iadd, 1) := by decide +kernel
theorem d_Lw_law_132 : decode code 132 = .ok (.iaload, 1) := by decide +kernel
theorem d_Lw_law_133 : decode code 133 = .ok (.invokevirtual 17, 3) := by decide +kernel
theorem d_Lw_law_136 : decode code 136 = .ok (.if_icmp .eq 497, 3) := by decide +kernel
theorem d_Lw_law_139 : decode code 139 = .ok (.iconst 0, 1) := by decide +kernel
theorem d_Lw_law_140 : decode code 140 = .ok (.ireturn, 1) := by decide +kernel
theorem d_Lw_law_141 : decode code 141 = .ok (.aload_n 1, 1) := by decide +kernel
theorem d_Lw_law_142 : decode code 142 = .ok (.aload_n 0, 1) := by decide +kernel
theorem d_Lw_law_143 : decode code 143 = .ok (.iload_n 3, 1) := by decide +kernel
theorem d_Lw_law_144 : decode code 144 = .ok (.iconst 1, 1) := by decide +kernel
theorem d_Lw_law_145 : decode code 145 = .ok (.iadd, 1) := by decide +kernel
theorem d_Lw_law_146 : decode code 146 = .ok (.iaload, 1) := by decide +kernel
theorem d_Lw_law_147 : decode code 147 = .ok (.aload_n 0, 1) := by decide +kernel
theorem d_Lw_law_148 : decode code 148 = .ok (.iload_n 3, 1) := by decide +kernel
theorem d_Lw_law_149 : decode code 149 = .ok (.iconst 2, 1) := by decide +kernel
theorem d_Lw_law_150 : decode code 150 = .ok (.iadd, 1) := by decide +kernel
theorem d_Lw_law_151 : decode code 151 = .ok (.iaload, 1) := by decide +kernel
theorem d_Lw_law_152 : decode code 152 = .ok (.aload_n 0, 1) := by decide +kernel
theorem d_Lw_law_153 : decode code 153 = .ok (.iload_n 3, 1) := by decide +kernel
theorem d_Lw_law_154 : decode code 154 = .ok (.iconst 3, 1) := by decide +kernel
theorem d_Lw_law_155 : decode code 155 = .ok (.iadd, 1) := by decide +kernel
theorem d_Lw_law_156 : decode code 156 = .ok (.iaload, 1) := by decide +kernel
theorem d_Lw_law_157 : decode code 157 = .ok (.aload_n 0, 1) := by decide +kernel
theorem d_Lw_law_158 : decode code 158 = .ok (.iload_n 3, 1) := by decide +kernel
theorem d_Lw_law_159 : decode code 159 = .ok (.iconst 4, 1) := by decide +kernel
theorem d_Lw_law_160 : decode code 160 = .ok (.iadd, 1) := by decide +kernel
theorem d_Lw_law_161 : decode code 161 = .ok (.iaload, 1) := by decide +kernel
theorem d_Lw_law_162 : decode code 162 = .ok (.invokevirtual 18, 3) := by decide +kernel
theorem d_Lw_law_165 : decode code 165 = .ok (.aload_n 2, 1) := by decide +kernel
theorem d_Lw_law_166 : decode code 166 = .ok (.aload_n 0, 1) := by decide +kernel
theorem d_Lw_law_167 : decode code 167 = .ok (.iload_n 3, 1) := by decide +kernel
theorem d_Lw_law_168 : decode code 168 = .ok (.iconst 1, 1) := by decide +kernel
theorem d_Lw_law_169 : decode code 169 = .ok (.iadd, 1) := by decide +kernel
theorem d_Lw_law_170 : decode code 170 = .ok (.iaload, 1) := by decide +kernel
theorem d_Lw_law_171 : decode code 171 = .ok (.aload_n 0, 1) := by decide +kernel
theorem d_Lw_law_172 : decode code 172 = .ok (.iload_n 3, 1) := by decide +kernel
theorem d_Lw_law_173 : decode code 173 = .ok (.iconst 2, 1) := by decide +kernel
theorem d_Lw_law_174 : decode code 174 = .ok (.iadd, 1) := by decide +kernel
theorem d_Lw_law_175 : decode code 175 = .ok (.iaload, 1) := by decide +kernel
theorem d_Lw_law_176 : decode code 176 = .ok (.aload_n 0, 1) := by decide +kernel
theorem d_Lw_law_177 : decode code 177 = .ok (.iload_n 3, 1) := by decide +kernel
theorem d_Lw_law_178 : decode code 178 = .ok (.iconst 3, 1) := by decide +kernel
theorem d_Lw_law_179 : decode code 179 = .ok (.iadd, 1) := by decide +kernel
theorem d_Lw_law_180 : decode code 180 = .ok (.iaload, 1) := by decide +kernel
theorem d_Lw_law_181 : decode code 181 = .ok (.aload_n 0, 1) := by decide +kernel
theorem d_Lw_law_182 : decode code 182 = .ok (.iload_n 3, 1) := by decide +kernel
theorem d_Lw_law_183 : decode code 183 = .ok (.iconst 4, 1) := by decide +kernel
theorem d_Lw_law_184 : decode code 184 = .ok (.iadd, 1) := by decide +kernel
theorem d_Lw_law_185 : decode code 185 = .ok (.iaload, 1) := by decide +kernel
theorem d_Lw_law_186 : decode code 186 = .ok (.invokevirtual 22, 3) := by decide +kernel
theorem d_Lw_law_189 : decode code 189 = .ok (.if_icmp .eq 444, 3) := by decide +kernel
theorem d_Lw_law_192 : decode code 192 = .ok (.iconst 0, 1) := by decide +kernel
theorem d_Lw_law_193 : decode code 193 = .ok (.ireturn, 1) := by decide +kernel
theorem d_Lw_law_194 : decode code 194 = .ok (.aload_n 1, 1) := by decide +kernel
theorem d_Lw_law_195 : decode code 195 = .ok (.aload_n 0, 1) := by decide +kernel
theorem d_Lw_law_196 : decode code 196 = .ok (.iload_n 3, 1) := by decide +kernel
theorem d_Lw_law_197 : decode code 197 = .ok (.iconst 1, 1) := by decide +kernel
theorem d_Lw_law_198 : decode code 198 = .ok (.iadd, 1) := by decide +kernel
theorem d_Lw_law_199 : decode code 199 = .ok (.iaload, 1) := by decide +kernel
theorem d_Lw_law_200 : decode code 200 = .ok (.aload_n 0, 1) := by decide +kernel
theorem d_Lw_law_201 : decode code 201 = .ok (.iload_n 3, 1) := by decide +kernel
theorem d_Lw_law_202 : decode code 202 = .ok (.iconst 2, 1) := by decide +kernel
theorem d_Lw_law_203 : decode code 203 = .ok (.iadd, 1) := by decide +kernel
theorem d_Lw_law_204 : decode code 204 = .ok (.iaload, 1) := by decide +kernel
theorem d_Lw_law_205 : decode code 205 = .ok (.invokevirtual 23, 3) := by decide +kernel
theorem d_Lw_law_208 : decode code 208 = .ok (.aload_n 2, 1) := by decide +kernel
theorem d_Lw_law_209 : decode code 209 = .ok (.aload_n 0, 1) := by decide +kernel
theorem d_Lw_law_210 : decode code 210 = .ok (.iload_n 3, 1) := by decide +kernel
theorem d_Lw_law_211 : decode code 211 = .ok (.iconst 1, 1) := by decide +kernel
theorem d_Lw_law_212 : decode code 212 = .ok (.iadd, 1) := by decide +kernel
theorem d_Lw_law_213 : decode code 213 = .ok (.iaload, 1) := by decide +kernel
theorem d_Lw_law_214 : decode code 214 = .ok (.aload_n 0, 1) := by decide +kernel
theorem d_Lw_law_215 : decode code 215 = .ok (.iload_n 3, 1) := by decide +kernel
theorem d_Lw_law_216 : decode code 216 = .ok (.iconst 2, 1) := by decide +kernel
theorem d_Lw_law_217 : decode code 217 = .ok (.iadd, 1) := by decide +kernel
theorem d_Lw_law_218 : decode code 218 = .ok (.iaload, 1) := by decide +kernel
theorem d_Lw_law_219 : decode code 219 = .ok (.invokevirtual 26, 3) := by decide +kernel
theorem d_Lw_law_222 : decode code 222 = .ok (.if_icmp .eq 411, 3) := by decide +kernel
theorem d_Lw_law_225 : decode code 225 = .ok (.iconst 0, 1) := by decide +kernel
theorem d_Lw_law_226 : decode code 226 = .ok (.ireturn, 1) := by decide +kernel
theorem d_Lw_law_227 : decode code 227 = .ok (.aload_n 1, 1) := by decide +kernel
theorem d_Lw_law_228 : decode code 228 = .ok (.aload_n 0, 1) := by decide +kernel
theorem d_Lw_law_229 : decode code 229 = .ok (.iload_n 3, 1) := by decide +kernel
theorem d_Lw_law_230 : decode code 230 = .ok (.iconst 1, 1) := by decide +kernel
theorem d_Lw_law_231 : decode code 231 = .ok (.iadd, 1) := by decide +kernel
theorem d_Lw_law_232 : decode code 232 = .ok (.iaload, 1) := by decide +kernel
theorem d_Lw_law_233 : decode code 233 = .ok (.aload_n 0, 1) := by decide +kernel
theorem d_Lw_law_234 : decode code 234 = .ok (.iload_n 3, 1) := by decide +kernel
theorem d_Lw_law_235 : decode code 235 = .ok (.iconst 2, 1) := by decide +kernel
theorem d_Lw_law_236 : decode code 236 = .ok (.iadd, 1) := by decide +kernel
theorem d_Lw_law_237 : decode code 237 = .ok (.iaload, 1) := by decide +kernel
theorem d_Lw_law_238 : decode code 238 = .ok (.aload_n 0, 1) := by decide +kernel
theorem d_Lw_law_239 : decode code 239 = .ok (.iload_n 3, 1) := by decide +kernel
theorem d_Lw_law_240 : decode code 240 = .ok (.iconst 3, 1) := by decide +kernel
theorem d_Lw_law_241 : decode code 241 = .ok (.iadd, 1) := by decide +kernel
theorem d_Lw_law_242 : decode code 242 = .ok (.iaload, 1) := by decide +kernel
theorem d_Lw_law_243 : decode code 243 = .ok (.aload_n 0, 1) := by decide +kernel
theorem d_Lw_law_244 : decode code 244 = .ok (.iload_n 3, 1) := by decide +kernel
theorem d_Lw_law_245 : decode code 245 = .ok (.iconst 4, 1) := by decide +kernel
theorem d_Lw_law_246 : decode code 246 = .ok (.iadd, 1) := by decide +kernel
theorem d_Lw_law_247 : decode code 247 = .ok (.iaload, 1) := by decide +kernel
theorem d_Lw_law_248 : decode code 248 = .ok (.invokevirtual 27, 3) := by decide +kernel
theorem d_Lw_law_251 : decode code 251 = .ok (.aload_n 2, 1) := by decide +kernel
theorem d_Lw_law_252 : decode code 252 = .ok (.aload_n 0, 1) := by decide +kernel
theorem d_Lw_law_253 : decode code 253 = .ok (.iload_n 3, 1) := by decide +kernel
theorem d_Lw_law_254 : decode code 254 = .ok (.iconst 1, 1) := by decide +kernel
theorem d_Lw_law_255 : decode code 255 = .ok (.iadd, 1) := by decide +kernel
theorem d_Lw_law_256 : decode code 256 = .ok (.iaload, 1) := by decide +kernel
theorem d_Lw_law_257 : decode code 257 = .ok (.aload_n 0, 1) := by decide +kernel
theorem d_Lw_law_258 : decode code 258 = .ok (.iload_n 3, 1) := by decide +kernel
theorem d_Lw_law_259 : decode code 259 = .ok (.iconst 2, 1) := by decide +kernel
theorem d_Lw_law_260 : decode code 260 = .ok (.iadd, 1) := by decide +kernel
theorem d_Lw_law_261 : decode code 261 = .ok (.iaload, 1) := by decide +kernel
theorem d_Lw_law_262 : decode code 262 = .ok (.aload_n 0, 1) := by decide +kernel
theorem d_Lw_law_263 : decode code 263 = .ok (.iload_n 3, 1) := by decide +kernel
theorem d_Lw_law_264 : decode code 264 = .ok (.iconst 3, 1) := by decide +kernel
theorem d_Lw_law_265 : decode code 265 = .ok (.iadd, 1) := by decide +kernel
theorem d_Lw_law_266 : decode code 266 = .ok (.iaload, 1) := by decide +kernel
theorem d_Lw_law_267 : decode code 267 = .ok (.aload_n 0, 1) := by decide +kernel
theorem d_Lw_law_268 : decode code 268 = .ok (.iload_n 3, 1) := by decide +kernel
theorem d_Lw_law_269 : decode code 269 = .ok (.iconst 4, 1) := by decide +kernel
theorem d_Lw_law_270 : decode code 270 = .ok (.iadd, 1) := by decide +kernel
theorem d_Lw_law_271 : decode code 271 = .ok (.iaload, 1) := by decide +kernel
theorem d_Lw_law_272 : decode code 272 = .ok (.invokevirtual 30, 3) := by decide +kernel
theorem d_Lw_law_275 : decode code 275 = .ok (.if_icmp .eq 358, 3) := by decide +kernel
theorem d_Lw_law_278 : decode code 278 = .ok (.iconst 0, 1) := by decide +kernel
theorem d_Lw_law_279 : decode code 279 = .ok (.ireturn, 1) := by decide +kernel
theorem d_Lw_law_280 : decode code 280 = .ok (.aload_n 1, 1) := by decide +kernel
theorem d_Lw_law_281 : decode code 281 = .ok (.aload_n 0, 1) := by decide +kernel
theorem d_Lw_law_282 : decode code 282 = .ok (.iload_n 3, 1) := by decide +kernel
theorem d_Lw_law_283 : decode code 283 = .ok (.iconst 1, 1) := by decide +kernel
theorem d_Lw_law_284 : decode code 284 = .ok (.iadd, 1) := by decide +kernel
theorem d_Lw_law_285 : decode code 285 = .ok (.iaload, 1) := by decide +kernel
theorem d_Lw_law_286 : decode code 286 = .ok (.aload_n 0, 1) := by decide +kernel
theorem d_Lw_law_287 : decode code 287 = .ok (.iload_n 3, 1) := by decide +kernel
theorem d_Lw_law_288 : decode code 288 = .ok (.iconst 2, 1) := by decide +kernel
theorem d_Lw_law_289 : decode code 289 = .ok (.iadd, 1) := by decide +kernel
theorem d_Lw_law_290 : decode code 290 = .ok (.iaload, 1) := by decide +kernel
theorem d_Lw_law_291 : decode code 291 = .ok (.invokevirtual 31, 3) := by decide +kernel
theorem d_Lw_law_294 : decode code 294 = .ok (.aload_n 2, 1) := by decide +kernel
theorem d_Lw_law_295 : decode code 295 = .ok (.aload_n 0, 1) := by decide +kernel
theorem d_Lw_law_296 : decode code 296 = .ok (.iload_n 3, 1) := by decide +kernel
theorem d_Lw_law_297 : decode code 297 = .ok (.iconst 1, 1) := by decide +kernel
theorem d_Lw_law_298 : decode code 298 = .ok (.iadd, 1) := by decide +kernel
theorem d_Lw_law_299 : decode code 299 = .ok (.iaload, 1) := by decide +kernel
theorem d_Lw_law_300 : decode code 300 = .ok (.aload_n 0, 1) := by decide +kernel
theorem d_Lw_law_301 : decode code 301 = .ok (.iload_n 3, 1) := by decide +kernel
theorem d_Lw_law_302 : decode code 302 = .ok (.iconst 2, 1) := by decide +kernel
theorem d_Lw_law_303 : decode code 303 = .ok (.iadd, 1) := by decide +kernel
theorem d_Lw_law_304 : decode code 304 = .ok (.iaload, 1) := by decide +kernel
theorem d_Lw_law_305 : decode code 305 = .ok (.invokevirtual 34, 3) := by decide +kernel
theorem d_Lw_law_308 : decode code 308 = .ok (.if_icmp .eq 325, 3) := by decide +kernel
theorem d_Lw_law_311 : decode code 311 = .ok (.iconst 0, 1) := by decide +kernel
theorem d_Lw_law_312 : decode code 312 = .ok (.ireturn, 1) := by decide +kernel
theorem d_Lw_law_313 : decode code 313 = .ok (.aload_n 1, 1) := by decide +kernel
theorem d_Lw_law_314 : decode code 314 = .ok (.aload_n 0, 1) := by decide +kernel
theorem d_Lw_law_315 : decode code 315 = .ok (.iload_n 3, 1) := by decide +kernel
theorem d_Lw_law_316 : decode code 316 = .ok (.iconst 1, 1) := by decide +kernel
theorem d_Lw_law_317 : decode code 317 = .ok (.iadd, 1) := by decide +kernel
theorem d_Lw_law_318 : decode code 318 = .ok (.iaload, 1) := by decide +kernel
theorem d_Lw_law_319 : decode code 319 = .ok (.aload_n 0, 1) := by decide +kernel
theorem d_Lw_law_320 : decode code 320 = .ok (.iload_n 3, 1) := by decide +kernel
theorem d_Lw_law_321 : decode code 321 = .ok (.iconst 2, 1) := by decide +kernel
theorem d_Lw_law_322 : decode code 322 = .ok (.iadd, 1) := by decide +kernel
theorem d_Lw_law_323 : decode code 323 = .ok (.iaload, 1) := by decide +kernel
theorem d_Lw_law_324 : decode code 324 = .ok (.aload_n 0, 1) := by decide +kernel
theorem d_Lw_law_325 : decode code 325 = .ok (.iload_n 3, 1) := by decide +kernel
theorem d_Lw_law_326 : decode code 326 = .ok (.iconst 3, 1) := by decide +kernel
theorem d_Lw_law_327 : decode code 327 = .ok (.iadd, 1) := by decide +kernel
theorem d_Lw_law_328 : decode code 328 = .ok (.iaload, 1) := by decide +kernel
theorem d_Lw_law_329 : decode code 329 = .ok (.invokevirtual 35, 3) := by decide +kernel
theorem d_Lw_law_332 : decode code 332 = .ok (.aload_n 2, 1) := by decide +kernel
theorem d_Lw_law_333 : decode code 333 = .ok (.aload_n 0, 1) := by decide +kernel
theorem d_Lw_law_334 : decode code 334 = .ok (.iload_n 3, 1) := by decide +kernel
theorem d_Lw_law_335 : decode code 335 = .ok (.iconst 1, 1) := by decide +kernel
theorem d_Lw_law_336 : decode code 336 = .ok (.iadd, 1) := by decide +kernel
theorem d_Lw_law_337 : decode code 337 = .ok (.iaload, 1) := by decide +kernel
theorem d_Lw_law_338 : decode code 338 = .ok (.aload_n 0, 1) := by decide +kernel
theorem d_Lw_law_339 : decode code 339 = .ok (.iload_n 3, 1) := by decide +kernel
theorem d_Lw_law_340 : decode code 340 = .ok (.iconst 2, 1) := by decide +kernel
theorem d_Lw_law_341 : decode code 341 = .ok (.iadd, 1) := by decide +kernel
theorem d_Lw_law_342 : decode code 342 = .ok (.iaload, 1) := by decide +kernel
theorem d_Lw_law_343 : decode code 343 = .ok (.aload_n 0, 1) := by decide +kernel
theorem d_Lw_law_344 : decode code 344 = .ok (.iload_n 3, 1) := by decide +kernel
theorem d_Lw_law_345 : decode code 345 = .ok (.iconst 3, 1) := by decide +kernel
theorem d_Lw_law_346 : decode code 346 = .ok (.iadd, 1) := by decide +kernel
theorem d_Lw_law_347 : decode code 347 = .ok (.iaload, 1) := by decide +kernel
theorem d_Lw_law_348 : decode code 348 = .ok (.invokevirtual 39, 3) := by decide +kernel
theorem d_Lw_law_351 : decode code 351 = .ok (.if_icmp .eq 282, 3) := by decide +kernel
theorem d_Lw_law_354 : decode code 354 = .ok (.iconst 0, 1) := by decide +kernel
theorem d_Lw_law_355 : decode code 355 = .ok (.ireturn, 1) := by decide +kernel
theorem d_Lw_law_356 : decode code 356 = .ok (.aload_n 1, 1) := by decide +kernel
theorem d_Lw_law_357 : decode code 357 = .ok (.aload_n 0, 1) := by decide +kernel
theorem d_Lw_law_358 : decode code 358 = .ok (.iload_n 3, 1) := by decide +kernel
theorem d_Lw_law_359 : decode code 359 = .ok (.iconst 1, 1) := by decide +kernel
theorem d_Lw_law_360 : decode code 360 = .ok (.iadd, 1) := by decide +kernel
theorem d_Lw_law_361 : decode code 361 = .ok (.iaload, 1) := by decide +kernel
theorem d_Lw_law_362 : decode code 362 = .ok (.aload_n 0, 1) := by decide +kernel
theorem d_Lw_law_363 : decode code 363 = .ok (.iload_n 3, 1) := by decide +kernel
theorem d_Lw_law_364 : decode code 364 = .ok (.iconst 2, 1) := by decide +kernel
theorem d_Lw_law_365 : decode code 365 = .ok (.iadd, 1) := by decide +kernel
theorem d_Lw_law_366 : decode code 366 = .ok (.iaload, 1) := by decide +kernel
theorem d_Lw_law_367 : decode code 367 = .ok (.invokevirtual 40, 3) := by decide +kernel
theorem d_Lw_law_370 : decode code 370 = .ok (.aload_n 2, 1) := by decide +kernel
theorem d_Lw_law_371 : decode code 371 = .ok (.aload_n 0, 1) := by decide +kernel
theorem d_Lw_law_372 : decode code 372 = .ok (.iload_n 3, 1) := by decide +kernel
theorem d_Lw_law_373 : decode code 373 = .ok (.iconst 1, 1) := by decide +kernel
theorem d_Lw_law_374 : decode code 374 = .ok (.iadd, 1) := by decide +kernel
theorem d_Lw_law_375 : decode code 375 = .ok (.iaload, 1) := by decide +kernel
theorem d_Lw_law_376 : decode code 376 = .ok (.aload_n 0, 1) := by decide +kernel
theorem d_Lw_law_377 : decode code 377 = .ok (.iload_n 3, 1) := by decide +kernel
theorem d_Lw_law_378 : decode code 378 = .ok (.iconst 2, 1) := by decide +kernel
theorem d_Lw_law_379 : decode code 379 = .ok (.iadd, 1) := by decide +kernel
theorem d_Lw_law_380 : decode code 380 = .ok (.iaload, 1) := by decide +kernel
theorem d_Lw_law_381 : decode code 381 = .ok (.invokevirtual 43, 3) := by decide +kernel
theorem d_Lw_law_384 : decode code 384 = .ok (.if_icmp .eq 249, 3) := by decide +kernel
theorem d_Lw_law_387 : decode code 387 = .ok (.iconst 0, 1) := by decide +kernel
theorem d_Lw_law_388 : decode code 388 = .ok (.ireturn, 1) := by decide +kernel
theorem d_Lw_law_389 : decode code 389 = .ok (.aload_n 1, 1) := by decide +kernel
theorem d_Lw_law_390 : decode code 390 = .ok (.aload_n 0, 1) := by decide +kernel
theorem d_Lw_law_391 : decode code 391 = .ok (.iload_n 3, 1) := by decide +kernel
theorem d_Lw_law_392 : decode code 392 = .ok (.iconst 1, 1) := by decide +kernel
theorem d_Lw_law_393 : decode code 393 = .ok (.iadd, 1) := by decide +kernel
theorem d_Lw_law_394 : decode code 394 = .ok (.iaload, 1) := by decide +kernel
theorem d_Lw_law_395 : decode code 395 = .ok (.aload_n 0, 1) := by decide +kernel
theorem d_Lw_law_396 : decode code 396 = .ok (.iload_n 3, 1) := by decide +kernel
theorem d_Lw_law_397 : decode code 397 = .ok (.iconst 2, 1) := by decide +kernel
theorem d_Lw_law_398 : decode code 398 = .ok (.iadd, 1) := by decide +kernel
theorem d_Lw_law_399 : decode code 399 = .ok (.iaload, 1) := by decide +kernel
theorem d_Lw_law_400 : decode code 400 = .ok (.aload_n 0, 1) := by decide +kernel
theorem d_Lw_law_401 : decode code 401 = .ok (.iload_n 3, 1) := by decide +kernel
theorem d_Lw_law_402 : decode code 402 = .ok (.iconst 3, 1) := by decide +kernel
theorem d_Lw_law_403 : decode code 403 = .ok (.iadd, 1) := by decide +kernel
theorem d_Lw_law_404 : decode code 404 = .ok (.iaload, 1) := by decide +kernel
theorem d_Lw_law_405 : decode code 405 = .ok (.invokevirtual 44, 3) := by decide +kernel
theorem d_Lw_law_408 : decode code 408 = .ok (.aload_n 2, 1) := by decide +kernel
theorem d_Lw_law_409 : decode code 409 = .ok (.aload_n 0, 1) := by decide +kernel
theorem d_Lw_law_410 : decode code 410 = .ok (.iload_n 3, 1) := by decide +kernel
theorem d_Lw_law_411 : decode code 411 = .ok (.iconst 1, 1) := by decide +kernel
theorem d_Lw_law_412 : decode code 412 = .ok (.iadd, 1) := by decide +kernel
theorem d_Lw_law_413 : decode code 413 = .ok (.iaload, 1) := by decide +kernel
theorem d_Lw_law_414 : decode code 414 = .ok (.aload_n 0, 1) := by decide +kernel
theorem d_Lw_law_415 : decode code 415 = .ok (.iload_n 3, 1) := by decide +kernel
theorem d_Lw_law_416 : decode code 416 = .ok (.iconst 2, 1) := by decide +kernel
theorem d_Lw_law_417 : decode code 417 = .ok (.iadd, 1) := by decide +kernel
theorem d_Lw_law_418 : decode code 418 = .ok (.iaload, 1) := by decide +kernel
theorem d_Lw_law_419 : decode code 419 = .ok (.aload_n 0, 1) := by decide +kernel
theorem d_Lw_law_420 : decode code 420 = .ok (.iload_n 3, 1) := by decide +kernel
theorem d_Lw_law_421 : decode code 421 = .ok (.iconst 3, 1) := by decide +kernel
theorem d_Lw_law_422 : decode code 422 = .ok (.iadd, 1) := by decide +kernel
theorem d_Lw_law_423 : decode code 423 = .ok (.iaload, 1) := by decide +kernel
theorem d_Lw_law_424 : decode code 424 = .ok (.invokevirtual 47, 3) := by decide +kernel
theorem d_Lw_law_427 : decode code 427 = .ok (.if_icmp .eq 206, 3) := by decide +kernel
theorem d_Lw_law_430 : decode code 430 = .ok (.iconst 0, 1) := by decide +kernel
theorem d_Lw_law_431 : decode code 431 = .ok (.ireturn, 1) := by decide +kernel
theorem d_Lw_law_432 : decode code 432 = .ok (.aload_n 1, 1) := by decide +kernel
theorem d_Lw_law_433 : decode code 433 = .ok (.aload_n 0, 1) := by decide +kernel
theorem d_Lw_law_434 : decode code 434 = .ok (.iload_n 3, 1) := by decide +kernel
theorem d_Lw_law_435 : decode code 435 = .ok (.iconst 1, 1) := by decide +kernel
theorem d_Lw_law_436 : decode code 436 = .ok (.iadd, 1) := by decide +kernel
theorem d_Lw_law_437 : decode code 437 = .ok (.iaload, 1) := by decide +kernel
theorem d_Lw_law_438 : decode code 438 = .ok (.aload_n 0, 1) := by decide +kernel
theorem d_Lw_law_439 : decode code 439 = .ok (.iload_n 3, 1) := by decide +kernel
theorem d_Lw_law_440 : decode code 440 = .ok (.iconst 2, 1) := by decide +kernel
theorem d_Lw_law_441 : decode code 441 = .ok (.iadd, 1) := by decide +kernel
theorem d_Lw_law_442 : decode code 442 = .ok (.iaload, 1) := by decide +kernel
theorem d_Lw_law_443 : decode code 443 = .ok (.aload_n 0, 1) := by decide +kernel
theorem d_Lw_law_444 : decode code 444 = .ok (.iload_n 3, 1) := by decide +kernel
theorem d_Lw_law_445 : decode code 445 = .ok (.iconst 3, 1) := by decide +kernel
theorem d_Lw_law_446 : decode code 446 = .ok (.iadd, 1) := by decide +kernel
theorem d_Lw_law_447 : decode code 447 = .ok (.iaload, 1) := by decide +kernel
theorem d_Lw_law_448 : decode code 448 = .ok (.invokevirtual 48, 3) := by decide +kernel
theorem d_Lw_law_451 : decode code 451 = .ok (.aload_n 2, 1) := by decide +kernel
theorem d_Lw_law_452 : decode code 452 = .ok (.aload_n 0, 1) := by decide +kernel
theorem d_Lw_law_453 : decode code 453 = .ok (.iload_n 3, 1) := by decide +kernel
theorem d_Lw_law_454 : decode code 454 = .ok (.iconst 1, 1) := by decide +kernel
theorem d_Lw_law_455 : decode code 455 = .ok (.iadd, 1) := by decide +kernel
theorem d_Lw_law_456 : decode code 456 = .ok (.iaload, 1) := by decide +kernel
theorem d_Lw_law_457 : decode code 457 = .ok (.aload_n 0, 1) := by decide +kernel
theorem d_Lw_law_458 : decode code 458 = .ok (.iload_n 3, 1) := by decide +kernel
theorem d_Lw_law_459 : decode code 459 = .ok (.iconst 2, 1) := by decide +kernel
theorem d_Lw_law_460 : decode code 460 = .ok (.iadd, 1) := by decide +kernel
theorem d_Lw_law_461 : decode code 461 = .ok (.iaload, 1) := by decide +kernel
theorem d_Lw_law_462 : decode code 462 = .ok (.aload_n 0, 1) := by decide +kernel
theorem d_Lw_law_463 : decode code 463 = .ok (.iload_n 3, 1) := by decide +kernel
theorem d_Lw_law_464 : decode code 464 = .ok (.iconst 3, 1) := by decide +kernel
theorem d_Lw_law_465 : decode code 465 = .ok (.iadd, 1) := by decide +kernel
theorem d_Lw_law_466 : decode code 466 = .ok (.iaload, 1) := by decide +kernel
theorem d_Lw_law_467 : decode code 467 = .ok (.invokevirtual 52, 3) := by decide +kernel
theorem d_Lw_law_470 : decode code 470 = .ok (.if_icmp .eq 163, 3) := by decide +kernel
theorem d_Lw_law_473 : decode code 473 = .ok (.iconst 0, 1) := by decide +kernel
theorem d_Lw_law_474 : decode code 474 = .ok (.ireturn, 1) := by decide +kernel
theorem d_Lw_law_475 : decode code 475 = .ok (.aload_n 1, 1) := by decide +kernel
theorem d_Lw_law_476 : decode code 476 = .ok (.aload_n 0, 1) := by decide +kernel
theorem d_Lw_law_477 : decode code 477 = .ok (.iload_n 3, 1) := by decide +kernel
theorem d_Lw_law_478 : decode code 478 = .ok (.iconst 1, 1) := by decide +kernel
theorem d_Lw_law_479 : decode code 479 = .ok (.iadd, 1) := by decide +kernel
theorem d_Lw_law_480 : decode code 480 = .ok (.iaload, 1) := by decide +kernel
theorem d_Lw_law_481 : decode code 481 = .ok (.invokevirtual 53, 3) := by decide +kernel
theorem d_Lw_law_484 : decode code 484 = .ok (.aload_n 2, 1) := by decide +kernel
theorem d_Lw_law_485 : decode code 485 = .ok (.aload_n 0, 1) := by decide +kernel
theorem d_Lw_law_486 : decode code 486 = .ok (.iload_n 3, 1) := by decide +kernel
theorem d_Lw_law_487 : decode code 487 = .ok (.iconst 1, 1) := by decide +kernel
theorem d_Lw_law_488 : decode code 488 = .ok (.iadd, 1) := by decide +kernel
theorem d_Lw_law_489 : decode code 489 = .ok (.iaload, 1) := by decide +kernel
theorem d_Lw_law_490 : decode code 490 = .ok (.invokevirtual 57, 3) := by decide +kernel
theorem d_Lw_law_493 : decode code 493 = .ok (.if_icmp .eq 140, 3) := by decide +kernel
theorem d_Lw_law_496 : decode code 496 = .ok (.iconst 0, 1) := by decide +kernel
theorem d_Lw_law_497 : decode code 497 = .ok (.ireturn, 1) := by decide +kernel
theorem d_Lw_law_498 : decode code 498 = .ok (.aload_n 1, 1) := by decide +kernel
theorem d_Lw_law_499 : decode code 499 = .ok (.invokevirtual 58, 3) := by decide +kernel
theorem d_Lw_law_502 : decode code 502 = .ok (.aload_n 2, 1) := by decide +kernel
theorem d_Lw_law_503 : decode code 503 = .ok (.invokevirtual 62, 3) := by decide +kernel
theorem d_Lw_law_506 : decode code 506 = .ok (.if_icmp .eq 127, 3) := by decide +kernel
theorem d_Lw_law_509 : decode code 509 = .ok (.iconst 0, 1) := by decide +kernel
theorem d_Lw_law_510 : decode code 510 = .ok (.ireturn, 1) := by decide +kernel
theorem d_Lw_law_511 : decode code 511 = .ok (.aload_n 1, 1) := by decide +kernel
theorem d_Lw_law_512 : decode code 512 = .ok (.aload_n 0, 1) := by decide +kernel
theorem d_Lw_law_513 : decode code 513 = .ok (.iload_n 3, 1) := by decide +kernel
theorem d_Lw_law_514 : decode code 514 = .ok (.iconst 1, 1) := by decide +kernel
theorem d_Lw_law_515 : decode code 515 = .ok (.iadd, 1) := by decide +kernel
theorem d_Lw_law_516 : decode code 516 = .ok (.iaload, 1) := by decide +kernel
theorem d_Lw_law_517 : decode code 517 = .ok (.aload_n 0, 1) := by decide +kernel
theorem d_Lw_law_518 : decode code 518 = .ok (.iload_n 3, 1) := by decide +kernel
theorem d_Lw_law_519 : decode code 519 = .ok (.iconst 2, 1) := by decide +kernel
theorem d_Lw_law_520 : decode code 520 = .ok (.iadd, 1) := by decide +kernel
theorem d_Lw_law_521 : decode code 521 = .ok (.iaload, 1) := by decide +kernel
theorem d_Lw_law_522 : decode code 522 = .ok (.invokevirtual 63, 3) := by decide +kernel
theorem d_Lw_law_525 : decode code 525 = .ok (.aload_n 2, 1) := by decide +kernel
theorem d_Lw_law_526 : decode code 526 = .ok (.aload_n 0, 1) := by decide +kernel
theorem d_Lw_law_527 : decode code 527 = .ok (.iload_n 3, 1) := by decide +kernel
theorem d_Lw_law_528 : decode code 528 = .ok (.iconst 1, 1) := by decide +kernel
theorem d_Lw_law_529 : decode code 529 = .ok (.iadd, 1) := by decide +kernel
theorem d_Lw_law_530 : decode code 530 = .ok (.iaload, 1) := by decide +kernel
theorem d_Lw_law_531 : decode code 531 = .ok (.aload_n 0, 1) := by decide +kernel
theorem d_Lw_law_532 : decode code 532 = .ok (.iload_n 3, 1) := by decide +kernel
theorem d_Lw_law_533 : decode code 533 = .ok (.iconst 2, 1) := by decide +kernel
theorem d_Lw_law_534 : decode code 534 = .ok (.iadd, 1) := by decide +kernel
theorem d_Lw_law_535 : decode code 535 = .ok (.iaload, 1) := by decide +kernel
theorem d_Lw_law_536 : decode code 536 = .ok (.invokevirtual 66, 3) := by decide +kernel
theorem d_Lw_law_539 : decode code 539 = .ok (.if_icmp .eq 94, 3) := by decide +kernel
theorem d_Lw_law_542 : decode code 542 = .ok (.iconst 0, 1) := by decide +kernel
theorem d_Lw_law_543 : decode code 543 = .ok (.ireturn, 1) := by decide +kernel
theorem d_Lw_law_544 : decode code 544 = .ok (.aload_n 1, 1) := by decide +kernel
theorem d_Lw_law_545 : decode code 545 = .ok (.aload_n 0, 1) := by decide +kernel
theorem d_Lw_law_546 : decode code 546 = .ok (.iload_n 3, 1) := by decide +kernel
theorem d_Lw_law_547 : decode code 547 = .ok (.iconst 1, 1) := by decide +kernel
theorem d_Lw_law_548 : decode code 548 = .ok (.iadd, 1) := by decide +kernel
theorem d_Lw_law_549 : decode code 549 = .ok (.iaload, 1) := by decide +kernel
theorem d_Lw_law_550 : decode code 550 = .ok (.aload_n 0, 1) := by decide +kernel
theorem d_Lw_law_551 : decode code 551 = .ok (.iload_n 3, 1) := by decide +kernel
theorem d_Lw_law_552 : decode code 552 = .ok (.iconst 2, 1) := by decide +kernel
theorem d_Lw_law_553 : decode code 553 = .ok (.iadd, 1) := by decide +kernel
theorem d_Lw_law_554 : decode code 554 = .ok (.iaload, 1) := by decide +kernel
theorem d_Lw_law_555 : decode code 555 = .ok (.invokevirtual 67, 3) := by decide +kernel
theorem d_Lw_law_558 : decode code 558 = .ok (.aload_n 2, 1) := by decide +kernel
theorem d_Lw_law_559 : decode code 559 = .ok (.aload_n 0, 1) := by decide +kernel
theorem d_Lw_law_560 : decode code 560 = .ok (.iload_n 3, 1) := by decide +kernel
theorem d_Lw_law_561 : decode code 561 = .ok (.iconst 1, 1) := by decide +kernel
theorem d_Lw_law_562 : decode code 562 = .ok (.iadd, 1) := by decide +kernel
theorem d_Lw_law_563 : decode code 563 = .ok (.iaload, 1) := by decide +kernel
theorem d_Lw_law_564 : decode code 564 = .ok (.aload_n 0, 1) := by decide +kernel
theorem d_Lw_law_565 : decode code 565 = .ok (.iload_n 3, 1) := by decide +kernel
theorem d_Lw_law_566 : decode code 566 = .ok (.iconst 2, 1) := by decide +kernel
theorem d_Lw_law_567 : decode code 567 = .ok (.iadd, 1) := by decide +kernel
theorem d_Lw_law_568 : decode code 568 = .ok (.iaload, 1) := by decide +kernel
theorem d_Lw_law_569 : decode code 569 = .ok (.invokevirtual 70, 3) := by decide +kernel
theorem d_Lw_law_572 : decode code 572 = .ok (.if_icmp .eq 61, 3) := by decide +kernel
theorem d_Lw_law_575 : decode code 575 = .ok (.iconst 0, 1) := by decide +kernel
theorem d_Lw_law_576 : decode code 576 = .ok (.ireturn, 1) := by decide +kernel
theorem d_Lw_law_577 : decode code 577 = .ok (.aload_n 1, 1) := by decide +kernel
theorem d_Lw_law_578 : decode code 578 = .ok (.aload_n 0, 1) := by decide +kernel
theorem d_Lw_law_579 : decode code 579 = .ok (.iload_n 3, 1) := by decide +kernel
theorem d_Lw_law_580 : decode code 580 = .ok (.iconst 1, 1) := by decide +kernel
theorem d_Lw_law_581 : decode code 581 = .ok (.iadd, 1) := by decide +kernel
theorem d_Lw_law_582 : decode code 582 = .ok (.iaload, 1) := by decide +kernel
theorem d_Lw_law_583 : decode code 583 = .ok (.aload_n 0, 1) := by decide +kernel
theorem d_Lw_law_584 : decode code 584 = .ok (.iload_n 3, 1) := by decide +kernel
theorem d_Lw_law_585 : decode code 585 = .ok (.iconst 2, 1) := by decide +kernel
theorem d_Lw_law_586 : decode code 586 = .ok (.iadd, 1) := by decide +kernel
theorem d_Lw_law_587 : decode code 587 = .ok (.iaload, 1) := by decide +kernel
theorem d_Lw_law_588 : decode code 588 = .ok (.invokevirtual 71, 3) := by decide +kernel
theorem d_Lw_law_591 : decode code 591 = .ok (.aload_n 2, 1) := by decide +kernel
theorem d_Lw_law_592 : decode code 592 = .ok (.aload_n 0, 1) := by decide +kernel
theorem d_Lw_law_593 : decode code 593 = .ok (.iload_n 3, 1) := by decide +kernel
theorem d_Lw_law_594 : decode code 594 = .ok (.iconst 1, 1) := by decide +kernel
theorem d_Lw_law_595 : decode code 595 = .ok (.iadd, 1) := by decide +kernel
theorem d_Lw_law_596 : decode code 596 = .ok (.iaload, 1) := by decide +kernel
theorem d_Lw_law_597 : decode code 597 = .ok (.aload_n 0, 1) := by decide +kernel
theorem d_Lw_law_598 : decode code 598 = .ok (.iload_n 3, 1) := by decide +kernel
theorem d_Lw_law_599 : decode code 599 = .ok (.iconst 2, 1) := by decide +kernel
theorem d_Lw_law_600 : decode code 600 = .ok (.iadd, 1) := by decide +kernel
theorem d_Lw_law_601 : decode code 601 = .ok (.iaload, 1) := by decide +kernel
theorem d_Lw_law_602 : decode code 602 = .ok (.invokevirtual 75, 3) := by decide +kernel
theorem d_Lw_law_605 : decode code 605 = .ok (.if_icmp .eq 28, 3) := by decide +kernel
theorem d_Lw_law_608 : decode code 608 = .ok (.iconst 0, 1) := by decide +kernel
theorem d_Lw_law_609 : decode code 609 = .ok (.ireturn, 1) := by decide +kernel
theorem d_Lw_law_610 : decode code 610 = .ok (.aload_n 1, 1) := by decide +kernel
theorem d_Lw_law_611 : decode code 611 = .ok (.aload_n 0, 1) := by decide +kernel
theorem d_Lw_law_612 : decode code 612 = .ok (.iload_n 3, 1) := by decide +kernel
theorem d_Lw_law_613 : decode code 613 = .ok (.iconst 1, 1) := by decide +kernel
theorem d_Lw_law_614 : decode code 614 = .ok (.iadd, 1) := by decide +kernel
theorem d_Lw_law_615 : decode code 615 = .ok (.iaload, 1) := by decide +kernel
theorem d_Lw_law_616 : decode code 616 = .ok (.invokevirtual 76, 3) := by decide +kernel
theorem d_Lw_law_619 : decode code 619 = .ok (.aload_n 2, 1) := by decide +kernel
theorem d_Lw_law_620 : decode code 620 = .ok (.aload_n 0, 1) := by decide +kernel
theorem d_Lw_law_621 : decode code 621 = .ok (.iload_n 3, 1) := by decide +kernel
theorem d_Lw_law_622 : decode code 622 = .ok (.iconst 1, 1) := by decide +kernel
theorem d_Lw_law_623 : decode code 623 = .ok (.iadd, 1) := by decide +kernel
theorem d_Lw_law_624 : decode code 624 = .ok (.iaload, 1) := by decide +kernel
theorem d_Lw_law_625 : decode code 625 = .ok (.invokevirtual 79, 3) := by decide +kernel
theorem d_Lw_law_628 : decode code 628 = .ok (.if_icmp .eq 5, 3) := by decide +kernel
theorem d_Lw_law_631 : decode code 631 = .ok (.iconst 0, 1) := by decide +kernel
theorem d_Lw_law_632 : decode code 632 = .ok (.ireturn, 1) := by decide +kernel
theorem d_Lw_law_633 : decode code 633 = .ok (.iinc 3 5, 3) := by decide +kernel
theorem d_Lw_law_636 : decode code 636 = .ok (.goto (-618), 3) := by decide +kernel
theorem d_Lw_law_639 : decode code 639 = .ok (.iconst 1, 1) := by decide +kernel
theorem d_Lw_law_640 : decode code 640 = .ok (.ireturn, 1) := by decide +kernel
