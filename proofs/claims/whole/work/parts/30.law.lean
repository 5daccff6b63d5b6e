theorem d_LAW_law_0 : decode b_LAW_law 0 = .ok (.new 7, 3) := by decide +kernel
theorem d_LAW_law_3 : decode b_LAW_law 3 = .ok (.dup, 1) := by decide +kernel
theorem d_LAW_law_4 : decode b_LAW_law 4 = .ok (.aload_n 0, 1) := by decide +kernel
theorem d_LAW_law_5 : decode b_LAW_law 5 = .ok (.iconst 0, 1) := by decide +kernel
theorem d_LAW_law_6 : decode b_LAW_law 6 = .ok (.invokestatic 9, 3) := by decide +kernel
theorem d_LAW_law_9 : decode b_LAW_law 9 = .ok (.invokespecial 15, 3) := by decide +kernel
theorem d_LAW_law_12 : decode b_LAW_law 12 = .ok (.astore_n 1, 1) := by decide +kernel
theorem d_LAW_law_13 : decode b_LAW_law 13 = .ok (.new 18, 3) := by decide +kernel
theorem d_LAW_law_16 : decode b_LAW_law 16 = .ok (.dup, 1) := by decide +kernel
theorem d_LAW_law_17 : decode b_LAW_law 17 = .ok (.aload_n 0, 1) := by decide +kernel
theorem d_LAW_law_18 : decode b_LAW_law 18 = .ok (.iconst 0, 1) := by decide +kernel
theorem d_LAW_law_19 : decode b_LAW_law 19 = .ok (.invokestatic 9, 3) := by decide +kernel
theorem d_LAW_law_22 : decode b_LAW_law 22 = .ok (.invokespecial 20, 3) := by decide +kernel
theorem d_LAW_law_25 : decode b_LAW_law 25 = .ok (.astore_n 2, 1) := by decide +kernel
theorem d_LAW_law_26 : decode b_LAW_law 26 = .ok (.iconst 1, 1) := by decide +kernel
theorem d_LAW_law_27 : decode b_LAW_law 27 = .ok (.istore_n 3, 1) := by decide +kernel
theorem d_LAW_law_28 : decode b_LAW_law 28 = .ok (.iload_n 3, 1) := by decide +kernel
theorem d_LAW_law_29 : decode b_LAW_law 29 = .ok (.aload_n 0, 1) := by decide +kernel
theorem d_LAW_law_30 : decode b_LAW_law 30 = .ok (.arraylength, 1) := by decide +kernel
theorem d_LAW_law_31 : decode b_LAW_law 31 = .ok (.iconst 4, 1) := by decide +kernel
theorem d_LAW_law_32 : decode b_LAW_law 32 = .ok (.isub, 1) := by decide +kernel
theorem d_LAW_law_33 : decode b_LAW_law 33 = .ok (.if_icmp .gt 429, 3) := by decide +kernel
theorem d_LAW_law_36 : decode b_LAW_law 36 = .ok (.aload_n 0, 1) := by decide +kernel
theorem d_LAW_law_37 : decode b_LAW_law 37 = .ok (.iload_n 3, 1) := by decide +kernel
theorem d_LAW_law_38 : decode b_LAW_law 38 = .ok (.iaload, 1) := by decide +kernel
theorem d_LAW_law_39 : decode b_LAW_law 39 = .ok (.bipush 15, 2) := by decide +kernel
theorem d_LAW_law_41 : decode b_LAW_law 41 = .ok (.iand, 1) := by decide +kernel
theorem d_LAW_law_42 : decode b_LAW_law 42 = .ok (.tableswitch 414 0 11 #[62, 105, 128, 141, 164, 187, 220, 253, 286, 319, 378, 401], 62) := by decide +kernel
theorem d_LAW_law_104 : decode b_LAW_law 104 = .ok (.aload_n 1, 1) := by decide +kernel
theorem d_LAW_law_105 : decode b_LAW_law 105 = .ok (.aload_n 0, 1) := by decide +kernel
theorem d_LAW_law_106 : decode b_LAW_law 106 = .ok (.iload_n 3, 1) := by decide +kernel
theorem d_LAW_law_107 : decode b_LAW_law 107 = .ok (.iconst 1, 1) := by decide +kernel
theorem d_LAW_law_108 : decode b_LAW_law 108 = .ok (.iadd, 1) := by decide +kernel
theorem d_LAW_law_109 : decode b_LAW_law 109 = .ok (.iaload, 1) := by decide +kernel
theorem d_LAW_law_110 : decode b_LAW_law 110 = .ok (.aload_n 0, 1) := by decide +kernel
theorem d_LAW_law_111 : decode b_LAW_law 111 = .ok (.iload_n 3, 1) := by decide +kernel
theorem d_LAW_law_112 : decode b_LAW_law 112 = .ok (.iconst 2, 1) := by decide +kernel
theorem d_LAW_law_113 : decode b_LAW_law 113 = .ok (.iadd, 1) := by decide +kernel
theorem d_LAW_law_114 : decode b_LAW_law 114 = .ok (.iaload, 1) := by decide +kernel
theorem d_LAW_law_115 : decode b_LAW_law 115 = .ok (.aload_n 0, 1) := by decide +kernel
theorem d_LAW_law_116 : decode b_LAW_law 116 = .ok (.iload_n 3, 1) := by decide +kernel
theorem d_LAW_law_117 : decode b_LAW_law 117 = .ok (.iconst 3, 1) := by decide +kernel
theorem d_LAW_law_118 : decode b_LAW_law 118 = .ok (.iadd, 1) := by decide +kernel
theorem d_LAW_law_119 : decode b_LAW_law 119 = .ok (.iaload, 1) := by decide +kernel
theorem d_LAW_law_120 : decode b_LAW_law 120 = .ok (.invokevirtual 21, 3) := by decide +kernel
theorem d_LAW_law_123 : decode b_LAW_law 123 = .ok (.aload_n 2, 1) := by decide +kernel
theorem d_LAW_law_124 : decode b_LAW_law 124 = .ok (.aload_n 0, 1) := by decide +kernel
theorem d_LAW_law_125 : decode b_LAW_law 125 = .ok (.iload_n 3, 1) := by decide +kernel
theorem d_LAW_law_126 : decode b_LAW_law 126 = .ok (.iconst 1, 1) := by decide +kernel
theorem d_LAW_law_127 : decode b_LAW_law 127 = .ok (.iadd, 1) := by decide +kernel
theorem d_LAW_law_128 : decode b_LAW_law 128 = .ok (.iaload, 1) := by decide +kernel
theorem d_LAW_law_129 : decode b_LAW_law 129 = .ok (.aload_n 0, 1) := by decide +kernel
theorem d_LAW_law_130 : decode b_LAW_law 130 = .ok (.iload_n 3, 1) := by decide +kernel
theorem d_LAW_law_131 : decode b_LAW_law 131 = .ok (.iconst 2, 1) := by decide +kernel
theorem d_LAW_law_132 : decode b_LAW_law 132 = .ok (.iadd, 1) := by decide +kernel
theorem d_LAW_law_133 : decode b_LAW_law 133 = .ok (.iaload, 1) := by decide +kernel
theorem d_LAW_law_134 : decode b_LAW_law 134 = .ok (.aload_n 0, 1) := by decide +kernel
theorem d_LAW_law_135 : decode b_LAW_law 135 = .ok (.iload_n 3, 1) := by decide +kernel
theorem d_LAW_law_136 : decode b_LAW_law 136 = .ok (.iconst 3, 1) := by decide +kernel
theorem d_LAW_law_137 : decode b_LAW_law 137 = .ok (.iadd, 1) := by decide +kernel
theorem d_LAW_law_138 : decode b_LAW_law 138 = .ok (.iaload, 1) := by decide +kernel
theorem d_LAW_law_139 : decode b_LAW_law 139 = .ok (.invokevirtual 25, 3) := by decide +kernel
theorem d_LAW_law_142 : decode b_LAW_law 142 = .ok (.if_icmp .eq 314, 3) := by decide +kernel
theorem d_LAW_law_145 : decode b_LAW_law 145 = .ok (.iconst 0, 1) := by decide +kernel
theorem d_LAW_law_146 : decode b_LAW_law 146 = .ok (.ireturn, 1) := by decide +kernel
theorem d_LAW_law_147 : decode b_LAW_law 147 = .ok (.aload_n 1, 1) := by decide +kernel
theorem d_LAW_law_148 : decode b_LAW_law 148 = .ok (.aload_n 0, 1) := by decide +kernel
theorem d_LAW_law_149 : decode b_LAW_law 149 = .ok (.iload_n 3, 1) := by decide +kernel
theorem d_LAW_law_150 : decode b_LAW_law 150 = .ok (.iconst 1, 1) := by decide +kernel
theorem d_LAW_law_151 : decode b_LAW_law 151 = .ok (.iadd, 1) := by decide +kernel
theorem d_LAW_law_152 : decode b_LAW_law 152 = .ok (.iaload, 1) := by decide +kernel
theorem d_LAW_law_153 : decode b_LAW_law 153 = .ok (.invokevirtual 26, 3) := by decide +kernel
theorem d_LAW_law_156 : decode b_LAW_law 156 = .ok (.aload_n 2, 1) := by decide +kernel
theorem d_LAW_law_157 : decode b_LAW_law 157 = .ok (.aload_n 0, 1) := by decide +kernel
theorem d_LAW_law_158 : decode b_LAW_law 158 = .ok (.iload_n 3, 1) := by decide +kernel
theorem d_LAW_law_159 : decode b_LAW_law 159 = .ok (.iconst 1, 1) := by decide +kernel
theorem d_LAW_law_160 : decode b_LAW_law 160 = .ok (.iadd, 1) := by decide +kernel
theorem d_LAW_law_161 : decode b_LAW_law 161 = .ok (.iaload, 1) := by decide +kernel
theorem d_LAW_law_162 : decode b_LAW_law 162 = .ok (.invokevirtual 30, 3) := by decide +kernel
theorem d_LAW_law_165 : decode b_LAW_law 165 = .ok (.if_icmp .eq 291, 3) := by decide +kernel
theorem d_LAW_law_168 : decode b_LAW_law 168 = .ok (.iconst 0, 1) := by decide +kernel
theorem d_LAW_law_169 : decode b_LAW_law 169 = .ok (.ireturn, 1) := by decide +kernel
theorem d_LAW_law_170 : decode b_LAW_law 170 = .ok (.aload_n 1, 1) := by decide +kernel
theorem d_LAW_law_171 : decode b_LAW_law 171 = .ok (.invokevirtual 31, 3) := by decide +kernel
theorem d_LAW_law_174 : decode b_LAW_law 174 = .ok (.aload_n 2, 1) := by decide +kernel
theorem d_LAW_law_175 : decode b_LAW_law 175 = .ok (.invokevirtual 35, 3) := by decide +kernel
theorem d_LAW_law_178 : decode b_LAW_law 178 = .ok (.if_icmp .eq 278, 3) := by decide +kernel
theorem d_LAW_law_181 : decode b_LAW_law 181 = .ok (.iconst 0, 1) := by decide +kernel
theorem d_LAW_law_182 : decode b_LAW_law 182 = .ok (.ireturn, 1) := by decide +kernel
theorem d_LAW_law_183 : decode b_LAW_law 183 = .ok (.aload_n 1, 1) := by decide +kernel
theorem d_LAW_law_184 : decode b_LAW_law 184 = .ok (.aload_n 0, 1) := by decide +kernel
theorem d_LAW_law_185 : decode b_LAW_law 185 = .ok (.iload_n 3, 1) := by decide +kernel
theorem d_LAW_law_186 : decode b_LAW_law 186 = .ok (.iconst 1, 1) := by decide +kernel
theorem d_LAW_law_187 : decode b_LAW_law 187 = .ok (.iadd, 1) := by decide +kernel
theorem d_LAW_law_188 : decode b_LAW_law 188 = .ok (.iaload, 1) := by decide +kernel
theorem d_LAW_law_189 : decode b_LAW_law 189 = .ok (.invokevirtual 36, 3) := by decide +kernel
theorem d_LAW_law_192 : decode b_LAW_law 192 = .ok (.aload_n 2, 1) := by decide +kernel
theorem d_LAW_law_193 : decode b_LAW_law 193 = .ok (.aload_n 0, 1) := by decide +kernel
theorem d_LAW_law_194 : decode b_LAW_law 194 = .ok (.iload_n 3, 1) := by decide +kernel
theorem d_LAW_law_195 : decode b_LAW_law 195 = .ok (.iconst 1, 1) := by decide +kernel
theorem d_LAW_law_196 : decode b_LAW_law 196 = .ok (.iadd, 1) := by decide +kernel
theorem d_LAW_law_197 : decode b_LAW_law 197 = .ok (.iaload, 1) := by decide +kernel
theorem d_LAW_law_198 : decode b_LAW_law 198 = .ok (.invokevirtual 40, 3) := by decide +kernel
theorem d_LAW_law_201 : decode b_LAW_law 201 = .ok (.if_icmp .eq 255, 3) := by decide +kernel
theorem d_LAW_law_204 : decode b_LAW_law 204 = .ok (.iconst 0, 1) := by decide +kernel
theorem d_LAW_law_205 : decode b_LAW_law 205 = .ok (.ireturn, 1) := by decide +kernel
theorem d_LAW_law_206 : decode b_LAW_law 206 = .ok (.aload_n 1, 1) := by decide +kernel
theorem d_LAW_law_207 : decode b_LAW_law 207 = .ok (.aload_n 0, 1) := by decide +kernel
theorem d_LAW_law_208 : decode b_LAW_law 208 = .ok (.iload_n 3, 1) := by decide +kernel
theorem d_LAW_law_209 : decode b_LAW_law 209 = .ok (.iconst 1, 1) := by decide +kernel
theorem d_LAW_law_210 : decode b_LAW_law 210 = .ok (.iadd, 1) := by decide +kernel
theorem d_LAW_law_211 : decode b_LAW_law 211 = .ok (.iaload, 1) := by decide +kernel
theorem d_LAW_law_212 : decode b_LAW_law 212 = .ok (.invokevirtual 41, 3) := by decide +kernel
theorem d_LAW_law_215 : decode b_LAW_law 215 = .ok (.aload_n 2, 1) := by decide +kernel
theorem d_LAW_law_216 : decode b_LAW_law 216 = .ok (.aload_n 0, 1) := by decide +kernel
theorem d_LAW_law_217 : decode b_LAW_law 217 = .ok (.iload_n 3, 1) := by decide +kernel
theorem d_LAW_law_218 : decode b_LAW_law 218 = .ok (.iconst 1, 1) := by decide +kernel
theorem d_LAW_law_219 : decode b_LAW_law 219 = .ok (.iadd, 1) := by decide +kernel
theorem d_LAW_law_220 : decode b_LAW_law 220 = .ok (.iaload, 1) := by decide +kernel
theorem d_LAW_law_221 : decode b_LAW_law 221 = .ok (.invokevirtual 44, 3) := by decide +kernel
theorem d_LAW_law_224 : decode b_LAW_law 224 = .ok (.if_icmp .eq 232, 3) := by decide +kernel
theorem d_LAW_law_227 : decode b_LAW_law 227 = .ok (.iconst 0, 1) := by decide +kernel
theorem d_LAW_law_228 : decode b_LAW_law 228 = .ok (.ireturn, 1) := by decide +kernel
theorem d_LAW_law_229 : decode b_LAW_law 229 = .ok (.aload_n 1, 1) := by decide +kernel
theorem d_LAW_law_230 : decode b_LAW_law 230 = .ok (.aload_n 0, 1) := by decide +kernel
theorem d_LAW_law_231 : decode b_LAW_law 231 = .ok (.iload_n 3, 1) := by decide +kernel
theorem d_LAW_law_232 : decode b_LAW_law 232 = .ok (.iconst 1, 1) := by decide +kernel
theorem d_LAW_law_233 : decode b_LAW_law 233 = .ok (.iadd, 1) := by decide +kernel
theorem d_LAW_law_234 : decode b_LAW_law 234 = .ok (.iaload, 1) := by decide +kernel
theorem d_LAW_law_235 : decode b_LAW_law 235 = .ok (.aload_n 0, 1) := by decide +kernel
theorem d_LAW_law_236 : decode b_LAW_law 236 = .ok (.iload_n 3, 1) := by decide +kernel
theorem d_LAW_law_237 : decode b_LAW_law 237 = .ok (.iconst 2, 1) := by decide +kernel
theorem d_LAW_law_238 : decode b_LAW_law 238 = .ok (.iadd, 1) := by decide +kernel
theorem d_LAW_law_239 : decode b_LAW_law 239 = .ok (.iaload, 1) := by decide +kernel
theorem d_LAW_law_240 : decode b_LAW_law 240 = .ok (.invokevirtual 45, 3) := by decide +kernel
theorem d_LAW_law_243 : decode b_LAW_law 243 = .ok (.aload_n 2, 1) := by decide +kernel
theorem d_LAW_law_244 : decode b_LAW_law 244 = .ok (.aload_n 0, 1) := by decide +kernel
theorem d_LAW_law_245 : decode b_LAW_law 245 = .ok (.iload_n 3, 1) := by decide +kernel
theorem d_LAW_law_246 : decode b_LAW_law 246 = .ok (.iconst 1, 1) := by decide +kernel
theorem d_LAW_law_247 : decode b_LAW_law 247 = .ok (.iadd, 1) := by decide +kernel
theorem d_LAW_law_248 : decode b_LAW_law 248 = .ok (.iaload, 1) := by decide +kernel
theorem d_LAW_law_249 : decode b_LAW_law 249 = .ok (.aload_n 0, 1) := by decide +kernel
theorem d_LAW_law_250 : decode b_LAW_law 250 = .ok (.iload_n 3, 1) := by decide +kernel
theorem d_LAW_law_251 : decode b_LAW_law 251 = .ok (.iconst 2, 1) := by decide +kernel
theorem d_LAW_law_252 : decode b_LAW_law 252 = .ok (.iadd, 1) := by decide +kernel
theorem d_LAW_law_253 : decode b_LAW_law 253 = .ok (.iaload, 1) := by decide +kernel
theorem d_LAW_law_254 : decode b_LAW_law 254 = .ok (.invokevirtual 49, 3) := by decide +kernel
theorem d_LAW_law_257 : decode b_LAW_law 257 = .ok (.if_icmp .eq 199, 3) := by decide +kernel
theorem d_LAW_law_260 : decode b_LAW_law 260 = .ok (.iconst 0, 1) := by decide +kernel
theorem d_LAW_law_261 : decode b_LAW_law 261 = .ok (.ireturn, 1) := by decide +kernel
theorem d_LAW_law_262 : decode b_LAW_law 262 = .ok (.aload_n 1, 1) := by decide +kernel
theorem d_LAW_law_263 : decode b_LAW_law 263 = .ok (.aload_n 0, 1) := by decide +kernel
theorem d_LAW_law_264 : decode b_LAW_law 264 = .ok (.iload_n 3, 1) := by decide +kernel
theorem d_LAW_law_265 : decode b_LAW_law 265 = .ok (.iconst 1, 1) := by decide +kernel
theorem d_LAW_law_266 : decode b_LAW_law 266 = .ok (.iadd, 1) := by decide +kernel
theorem d_LAW_law_267 : decode b_LAW_law 267 = .ok (.iaload, 1) := by decide +kernel
theorem d_LAW_law_268 : decode b_LAW_law 268 = .ok (.aload_n 0, 1) := by decide +kernel
theorem d_LAW_law_269 : decode b_LAW_law 269 = .ok (.iload_n 3, 1) := by decide +kernel
theorem d_LAW_law_270 : decode b_LAW_law 270 = .ok (.iconst 2, 1) := by decide +kernel
theorem d_LAW_law_271 : decode b_LAW_law 271 = .ok (.iadd, 1) := by decide +kernel
theorem d_LAW_law_272 : decode b_LAW_law 272 = .ok (.iaload, 1) := by decide +kernel
theorem d_LAW_law_273 : decode b_LAW_law 273 = .ok (.invokevirtual 50, 3) := by decide +kernel
theorem d_LAW_law_276 : decode b_LAW_law 276 = .ok (.aload_n 2, 1) := by decide +kernel
theorem d_LAW_law_277 : decode b_LAW_law 277 = .ok (.aload_n 0, 1) := by decide +kernel
theorem d_LAW_law_278 : decode b_LAW_law 278 = .ok (.iload_n 3, 1) := by decide +kernel
theorem d_LAW_law_279 : decode b_LAW_law 279 = .ok (.iconst 1, 1) := by decide +kernel
theorem d_LAW_law_280 : decode b_LAW_law 280 = .ok (.iadd, 1) := by decide +kernel
theorem d_LAW_law_281 : decode b_LAW_law 281 = .ok (.iaload, 1) := by decide +kernel
theorem d_LAW_law_282 : decode b_LAW_law 282 = .ok (.aload_n 0, 1) := by decide +kernel
theorem d_LAW_law_283 : decode b_LAW_law 283 = .ok (.iload_n 3, 1) := by decide +kernel
theorem d_LAW_law_284 : decode b_LAW_law 284 = .ok (.iconst 2, 1) := by decide +kernel
theorem d_LAW_law_285 : decode b_LAW_law 285 = .ok (.iadd, 1) := by decide +kernel
theorem d_LAW_law_286 : decode b_LAW_law 286 = .ok (.iaload, 1) := by decide +kernel
theorem d_LAW_law_287 : decode b_LAW_law 287 = .ok (.invokevirtual 53, 3) := by decide +kernel
theorem d_LAW_law_290 : decode b_LAW_law 290 = .ok (.if_icmp .eq 166, 3) := by decide +kernel
theorem d_LAW_law_293 : decode b_LAW_law 293 = .ok (.iconst 0, 1) := by decide +kernel
theorem d_LAW_law_294 : decode b_LAW_law 294 = .ok (.ireturn, 1) := by decide +kernel
theorem d_LAW_law_295 : decode b_LAW_law 295 = .ok (.aload_n 1, 1) := by decide +kernel
theorem d_LAW_law_296 : decode b_LAW_law 296 = .ok (.aload_n 0, 1) := by decide +kernel
theorem d_LAW_law_297 : decode b_LAW_law 297 = .ok (.iload_n 3, 1) := by decide +kernel
theorem d_LAW_law_298 : decode b_LAW_law 298 = .ok (.iconst 1, 1) := by decide +kernel
theorem d_LAW_law_299 : decode b_LAW_law 299 = .ok (.iadd, 1) := by decide +kernel
theorem d_LAW_law_300 : decode b_LAW_law 300 = .ok (.iaload, 1) := by decide +kernel
theorem d_LAW_law_301 : decode b_LAW_law 301 = .ok (.aload_n 0, 1) := by decide +kernel
theorem d_LAW_law_302 : decode b_LAW_law 302 = .ok (.iload_n 3, 1) := by decide +kernel
theorem d_LAW_law_303 : decode b_LAW_law 303 = .ok (.iconst 2, 1) := by decide +kernel
theorem d_LAW_law_304 : decode b_LAW_law 304 = .ok (.iadd, 1) := by decide +kernel
theorem d_LAW_law_305 : decode b_LAW_law 305 = .ok (.iaload, 1) := by decide +kernel
theorem d_LAW_law_306 : decode b_LAW_law 306 = .ok (.invokevirtual 54, 3) := by decide +kernel
theorem d_LAW_law_309 : decode b_LAW_law 309 = .ok (.aload_n 2, 1) := by decide +kernel
theorem d_LAW_law_310 : decode b_LAW_law 310 = .ok (.aload_n 0, 1) := by decide +kernel
theorem d_LAW_law_311 : decode b_LAW_law 311 = .ok (.iload_n 3, 1) := by decide +kernel
theorem d_LAW_law_312 : decode b_LAW_law 312 = .ok (.iconst 1, 1) := by decide +kernel
theorem d_LAW_law_313 : decode b_LAW_law 313 = .ok (.iadd, 1) := by decide +kernel
theorem d_LAW_law_314 : decode b_LAW_law 314 = .ok (.iaload, 1) := by decide +kernel
theorem d_LAW_law_315 : decode b_LAW_law 315 = .ok (.aload_n 0, 1) := by decide +kernel
theorem d_LAW_law_316 : decode b_LAW_law 316 = .ok (.iload_n 3, 1) := by decide +kernel
theorem d_LAW_law_317 : decode b_LAW_law 317 = .ok (.iconst 2, 1) := by decide +kernel
theorem d_LAW_law_318 : decode b_LAW_law 318 = .ok (.iadd, 1) := by decide +kernel
theorem d_LAW_law_319 : decode b_LAW_law 319 = .ok (.iaload, 1) := by decide +kernel
theorem d_LAW_law_320 : decode b_LAW_law 320 = .ok (.invokevirtual 57, 3) := by decide +kernel
theorem d_LAW_law_323 : decode b_LAW_law 323 = .ok (.if_icmp .eq 133, 3) := by decide +kernel
theorem d_LAW_law_326 : decode b_LAW_law 326 = .ok (.iconst 0, 1) := by decide +kernel
theorem d_LAW_law_327 : decode b_LAW_law 327 = .ok (.ireturn, 1) := by decide +kernel
theorem d_LAW_law_328 : decode b_LAW_law 328 = .ok (.aload_n 1, 1) := by decide +kernel
theorem d_LAW_law_329 : decode b_LAW_law 329 = .ok (.aload_n 0, 1) := by decide +kernel
theorem d_LAW_law_330 : decode b_LAW_law 330 = .ok (.iload_n 3, 1) := by decide +kernel
theorem d_LAW_law_331 : decode b_LAW_law 331 = .ok (.iconst 1, 1) := by decide +kernel
theorem d_LAW_law_332 : decode b_LAW_law 332 = .ok (.iadd, 1) := by decide +kernel
theorem d_LAW_law_333 : decode b_LAW_law 333 = .ok (.iaload, 1) := by decide +kernel
theorem d_LAW_law_334 : decode b_LAW_law 334 = .ok (.aload_n 0, 1) := by decide +kernel
theorem d_LAW_law_335 : decode b_LAW_law 335 = .ok (.iload_n 3, 1) := by decide +kernel
theorem d_LAW_law_336 : decode b_LAW_law 336 = .ok (.iconst 2, 1) := by decide +kernel
theorem d_LAW_law_337 : decode b_LAW_law 337 = .ok (.iadd, 1) := by decide +kernel
theorem d_LAW_law_338 : decode b_LAW_law 338 = .ok (.iaload, 1) := by decide +kernel
theorem d_LAW_law_339 : decode b_LAW_law 339 = .ok (.invokevirtual 58, 3) := by decide +kernel
theorem d_LAW_law_342 : decode b_LAW_law 342 = .ok (.aload_n 2, 1) := by decide +kernel
theorem d_LAW_law_343 : decode b_LAW_law 343 = .ok (.aload_n 0, 1) := by decide +kernel
theorem d_LAW_law_344 : decode b_LAW_law 344 = .ok (.iload_n 3, 1) := by decide +kernel
theorem d_LAW_law_345 : decode b_LAW_law 345 = .ok (.iconst 1, 1) := by decide +kernel
theorem d_LAW_law_346 : decode b_LAW_law 346 = .ok (.iadd, 1) := by decide +kernel
theorem d_LAW_law_347 : decode b_LAW_law 347 = .ok (.iaload, 1) := by decide +kernel
theorem d_LAW_law_348 : decode b_LAW_law 348 = .ok (.aload_n 0, 1) := by decide +kernel
theorem d_LAW_law_349 : decode b_LAW_law 349 = .ok (.iload_n 3, 1) := by decide +kernel
theorem d_LAW_law_350 : decode b_LAW_law 350 = .ok (.iconst 2, 1) := by decide +kernel
theorem d_LAW_law_351 : decode b_LAW_law 351 = .ok (.iadd, 1) := by decide +kernel
theorem d_LAW_law_352 : decode b_LAW_law 352 = .ok (.iaload, 1) := by decide +kernel
theorem d_LAW_law_353 : decode b_LAW_law 353 = .ok (.invokevirtual 61, 3) := by decide +kernel
theorem d_LAW_law_356 : decode b_LAW_law 356 = .ok (.if_icmp .eq 100, 3) := by decide +kernel
theorem d_LAW_law_359 : decode b_LAW_law 359 = .ok (.iconst 0, 1) := by decide +kernel
theorem d_LAW_law_360 : decode b_LAW_law 360 = .ok (.ireturn, 1) := by decide +kernel
theorem d_LAW_law_361 : decode b_LAW_law 361 = .ok (.aload_n 1, 1) := by decide +kernel
theorem d_LAW_law_362 : decode b_LAW_law 362 = .ok (.aload_n 0, 1) := by decide +kernel
theorem d_LAW_law_363 : decode b_LAW_law 363 = .ok (.iload_n 3, 1) := by decide +kernel
theorem d_LAW_law_364 : decode b_LAW_law 364 = .ok (.iconst 1, 1) := by decide +kernel
theorem d_LAW_law_365 : decode b_LAW_law 365 = .ok (.iadd, 1) := by decide +kernel
theorem d_LAW_law_366 : decode b_LAW_law 366 = .ok (.iaload, 1) := by decide +kernel
theorem d_LAW_law_367 : decode b_LAW_law 367 = .ok (.aload_n 0, 1) := by decide +kernel
theorem d_LAW_law_368 : decode b_LAW_law 368 = .ok (.iload_n 3, 1) := by decide +kernel
theorem d_LAW_law_369 : decode b_LAW_law 369 = .ok (.iconst 2, 1) := by decide +kernel
theorem d_LAW_law_370 : decode b_LAW_law 370 = .ok (.iadd, 1) := by decide +kernel
theorem d_LAW_law_371 : decode b_LAW_law 371 = .ok (.iaload, 1) := by decide +kernel
theorem d_LAW_law_372 : decode b_LAW_law 372 = .ok (.ifCond .eq 7, 3) := by decide +kernel
theorem d_LAW_law_375 : decode b_LAW_law 375 = .ok (.iconst 1, 1) := by decide +kernel
theorem d_LAW_law_376 : decode b_LAW_law 376 = .ok (.goto 4, 3) := by decide +kernel
theorem d_LAW_law_379 : decode b_LAW_law 379 = .ok (.iconst 0, 1) := by decide +kernel
theorem d_LAW_law_380 : decode b_LAW_law 380 = .ok (.aload_n 0, 1) := by decide +kernel
theorem d_LAW_law_381 : decode b_LAW_law 381 = .ok (.iload_n 3, 1) := by decide +kernel
theorem d_LAW_law_382 : decode b_LAW_law 382 = .ok (.iconst 3, 1) := by decide +kernel
theorem d_LAW_law_383 : decode b_LAW_law 383 = .ok (.iadd, 1) := by decide +kernel
theorem d_LAW_law_384 : decode b_LAW_law 384 = .ok (.iaload, 1) := by decide +kernel
theorem d_LAW_law_385 : decode b_LAW_law 385 = .ok (.invokevirtual 62, 3) := by decide +kernel
theorem d_LAW_law_388 : decode b_LAW_law 388 = .ok (.aload_n 2, 1) := by decide +kernel
theorem d_LAW_law_389 : decode b_LAW_law 389 = .ok (.aload_n 0, 1) := by decide +kernel
theorem d_LAW_law_390 : decode b_LAW_law 390 = .ok (.iload_n 3, 1) := by decide +kernel
theorem d_LAW_law_391 : decode b_LAW_law 391 = .ok (.iconst 1, 1) := by decide +kernel
theorem d_LAW_law_392 : decode b_LAW_law 392 = .ok (.iadd, 1) := by decide +kernel
theorem d_LAW_law_393 : decode b_LAW_law 393 = .ok (.iaload, 1) := by decide +kernel
theorem d_LAW_law_394 : decode b_LAW_law 394 = .ok (.aload_n 0, 1) := by decide +kernel
theorem d_LAW_law_395 : decode b_LAW_law 395 = .ok (.iload_n 3, 1) := by decide +kernel
theorem d_LAW_law_396 : decode b_LAW_law 396 = .ok (.iconst 2, 1) := by decide +kernel
theorem d_LAW_law_397 : decode b_LAW_law 397 = .ok (.iadd, 1) := by decide +kernel
theorem d_LAW_law_398 : decode b_LAW_law 398 = .ok (.iaload, 1) := by decide +kernel
theorem d_LAW_law_399 : decode b_LAW_law 399 = .ok (.ifCond .eq 7, 3) := by decide +kernel
theorem d_LAW_law_402 : decode b_LAW_law 402 = .ok (.iconst 1, 1) := by decide +kernel
theorem d_LAW_law_403 : decode b_LAW_law 403 = .ok (.goto 4, 3) := by decide +kernel
theorem d_LAW_law_406 : decode b_LAW_law 406 = .ok (.iconst 0, 1) := by decide +kernel
theorem d_LAW_law_407 : decode b_LAW_law 407 = .ok (.aload_n 0, 1) := by decide +kernel
theorem d_LAW_law_408 : decode b_LAW_law 408 = .ok (.iload_n 3, 1) := by decide +kernel
theorem d_LAW_law_409 : decode b_LAW_law 409 = .ok (.iconst 3, 1) := by decide +kernel
theorem d_LAW_law_410 : decode b_LAW_law 410 = .ok (.iadd, 1) := by decide +kernel
theorem d_LAW_law_411 : decode b_LAW_law 411 = .ok (.iaload, 1) := by decide +kernel
theorem d_LAW_law_412 : decode b_LAW_law 412 = .ok (.invokevirtual 66, 3) := by decide +kernel
theorem d_LAW_law_415 : decode b_LAW_law 415 = .ok (.if_icmp .eq 41, 3) := by decide +kernel
theorem d_LAW_law_418 : decode b_LAW_law 418 = .ok (.iconst 0, 1) := by decide +kernel
theorem d_LAW_law_419 : decode b_LAW_law 419 = .ok (.ireturn, 1) := by decide +kernel
theorem d_LAW_law_420 : decode b_LAW_law 420 = .ok (.aload_n 1, 1) := by decide +kernel
theorem d_LAW_law_421 : decode b_LAW_law 421 = .ok (.aload_n 0, 1) := by decide +kernel
theorem d_LAW_law_422 : decode b_LAW_law 422 = .ok (.iload_n 3, 1) := by decide +kernel
theorem d_LAW_law_423 : decode b_LAW_law 423 = .ok (.iconst 1, 1) := by decide +kernel
theorem d_LAW_law_424 : decode b_LAW_law 424 = .ok (.iadd, 1) := by decide +kernel
theorem d_LAW_law_425 : decode b_LAW_law 425 = .ok (.iaload, 1) := by decide +kernel
theorem d_LAW_law_426 : decode b_LAW_law 426 = .ok (.invokevirtual 67, 3) := by decide +kernel
theorem d_LAW_law_429 : decode b_LAW_law 429 = .ok (.aload_n 2, 1) := by decide +kernel
theorem d_LAW_law_430 : decode b_LAW_law 430 = .ok (.aload_n 0, 1) := by decide +kernel
theorem d_LAW_law_431 : decode b_LAW_law 431 = .ok (.iload_n 3, 1) := by decide +kernel
theorem d_LAW_law_432 : decode b_LAW_law 432 = .ok (.iconst 1, 1) := by decide +kernel
theorem d_LAW_law_433 : decode b_LAW_law 433 = .ok (.iadd, 1) := by decide +kernel
theorem d_LAW_law_434 : decode b_LAW_law 434 = .ok (.iaload, 1) := by decide +kernel
theorem d_LAW_law_435 : decode b_LAW_law 435 = .ok (.invokevirtual 70, 3) := by decide +kernel
theorem d_LAW_law_438 : decode b_LAW_law 438 = .ok (.if_icmp .eq 18, 3) := by decide +kernel
theorem d_LAW_law_441 : decode b_LAW_law 441 = .ok (.iconst 0, 1) := by decide +kernel
theorem d_LAW_law_442 : decode b_LAW_law 442 = .ok (.ireturn, 1) := by decide +kernel
theorem d_LAW_law_443 : decode b_LAW_law 443 = .ok (.aload_n 1, 1) := by decide +kernel
theorem d_LAW_law_444 : decode b_LAW_law 444 = .ok (.invokevirtual 71, 3) := by decide +kernel
theorem d_LAW_law_447 : decode b_LAW_law 447 = .ok (.aload_n 2, 1) := by decide +kernel
theorem d_LAW_law_448 : decode b_LAW_law 448 = .ok (.invokevirtual 74, 3) := by decide +kernel
theorem d_LAW_law_451 : decode b_LAW_law 451 = .ok (.if_icmp .eq 5, 3) := by decide +kernel
theorem d_LAW_law_454 : decode b_LAW_law 454 = .ok (.iconst 0, 1) := by decide +kernel
theorem d_LAW_law_455 : decode b_LAW_law 455 = .ok (.ireturn, 1) := by decide +kernel
theorem d_LAW_law_456 : decode b_LAW_law 456 = .ok (.iinc 3 4, 3) := by decide +kernel
theorem d_LAW_law_459 : decode b_LAW_law 459 = .ok (.goto (-431), 3) := by decide +kernel
theorem d_LAW_law_462 : decode b_LAW_law 462 = .ok (.iconst 1, 1) := by decide +kernel
theorem d_LAW_law_463 : decode b_LAW_law 463 = .ok (.ireturn, 1) := by decide +kernel
noncomputable def j_LAW_law_456 (L : Nat) (xs : Nat → Int32) (a23 : Int32) (M24 : Mem) : Option ((Int32 × Mem) ⊕ (Int32 × Mem)) :=
  nx (a23 + (4 : Int32)) (fun v25 => some (.inl (v25, M24)))
noncomputable def j_LAW_law_407 (L : Nat) (xs : Nat → Int32) (a26 : Int32) (a27 : Int32) (a28 : Int32) (a29 : Int32) (M30 : Mem) : Option ((Int32 × Mem) ⊕ (Int32 × Mem)) :=
  ck (a26 + (3 : Int32)) L (bi (s_MO_findingByte a28 a27 (xs (a26 + (3 : Int32)).toNatClampNeg) M30) (fun r34 M32 => if a29 = r34 then (j_LAW_law_456 L xs a26 M32) else (some (.inr ((0 : Int32), M32)))))
noncomputable def j_LAW_law_380 (L : Nat) (xs : Nat → Int32) (a35 : Int32) (a36 : Int32) (a37 : Int32) (M38 : Mem) : Option ((Int32 × Mem) ⊕ (Int32 × Mem)) :=
  ck (a35 + (3 : Int32)) L (bi (s_EC_findingByte a37 a36 (xs (a35 + (3 : Int32)).toNatClampNeg) M38) (fun r42 M40 => ck (a35 + (1 : Int32)) L (ck (a35 + (2 : Int32)) L (if (xs (a35 + (2 : Int32)).toNatClampNeg) = 0 then (j_LAW_law_407 L xs a35 (0 : Int32) (xs (a35 + (1 : Int32)).toNatClampNeg) r42 M40) else (j_LAW_law_407 L xs a35 (1 : Int32) (xs (a35 + (1 : Int32)).toNatClampNeg) r42 M40)))))
noncomputable def l_LAW_law_28 (L : Nat) (xs : Nat → Int32)  (v21 : Int32) (M22 : Mem) : Option ((Int32 × Mem) ⊕ (Int32 × Mem)) :=
  if ((Int32.ofNat L) - (4 : Int32)) < v21 then (some (.inr ((1 : Int32), M22))) else (ck v21 L (if ((xs v21.toNatClampNeg) &&& (15 : Int32)) = (0 : Int32) then (ck (v21 + (1 : Int32)) L (ck (v21 + (2 : Int32)) L (ck (v21 + (3 : Int32)) L (bi (s_EC_emit (xs (v21 + (1 : Int32)).toNatClampNeg) (xs (v21 + (2 : Int32)).toNatClampNeg) (xs (v21 + (3 : Int32)).toNatClampNeg) M22) (fun r51 M49 => ck (v21 + (1 : Int32)) L (ck (v21 + (2 : Int32)) L (ck (v21 + (3 : Int32)) L (bi (s_MO_emit (xs (v21 + (1 : Int32)).toNatClampNeg) (xs (v21 + (2 : Int32)).toNatClampNeg) (xs (v21 + (3 : Int32)).toNatClampNeg) M49) (fun r57 M55 => if r51 = r57 then (j_LAW_law_456 L xs v21 M55) else (some (.inr ((0 : Int32), M55)))))))))))) else (if ((xs v21.toNatClampNeg) &&& (15 : Int32)) = (1 : Int32) then (ck (v21 + (1 : Int32)) L (bi (s_EC_feed (xs (v21 + (1 : Int32)).toNatClampNeg) M22) (fun r62 M60 => ck (v21 + (1 : Int32)) L (bi (s_MO_feed (xs (v21 + (1 : Int32)).toNatClampNeg) M60) (fun r66 M64 => if r62 = r66 then (j_LAW_law_456 L xs v21 M64) else (some (.inr ((0 : Int32), M64)))))))) else (if ((xs v21.toNatClampNeg) &&& (15 : Int32)) = (2 : Int32) then (bi (s_EC_plant M22) (fun r70 M68 => bi (s_MO_plant M68) (fun r73 M71 => if r70 = r73 then (j_LAW_law_456 L xs v21 M71) else (some (.inr ((0 : Int32), M71)))))) else (if ((xs v21.toNatClampNeg) &&& (15 : Int32)) = (3 : Int32) then (ck (v21 + (1 : Int32)) L (bi (s_EC_fuzz (xs (v21 + (1 : Int32)).toNatClampNeg) M22) (fun r78 M76 => ck (v21 + (1 : Int32)) L (bi (s_MO_fuzz (xs (v21 + (1 : Int32)).toNatClampNeg) M76) (fun r82 M80 => if r78 = r82 then (j_LAW_law_456 L xs v21 M80) else (some (.inr ((0 : Int32), M80)))))))) else (if ((xs v21.toNatClampNeg) &&& (15 : Int32)) = (4 : Int32) then (ck (v21 + (1 : Int32)) L (bi (s_EC_count (xs (v21 + (1 : Int32)).toNatClampNeg) M22) (fun r87 M85 => ck (v21 + (1 : Int32)) L (bi (s_MO_count (xs (v21 + (1 : Int32)).toNatClampNeg) M85) (fun r91 M89 => if r87 = r91 then (j_LAW_law_456 L xs v21 M89) else (some (.inr ((0 : Int32), M89)))))))) else (if ((xs v21.toNatClampNeg) &&& (15 : Int32)) = (5 : Int32) then (ck (v21 + (1 : Int32)) L (ck (v21 + (2 : Int32)) L (bi (s_EC_entry (xs (v21 + (1 : Int32)).toNatClampNeg) (xs (v21 + (2 : Int32)).toNatClampNeg) M22) (fun r97 M95 => ck (v21 + (1 : Int32)) L (ck (v21 + (2 : Int32)) L (bi (s_MO_entry (xs (v21 + (1 : Int32)).toNatClampNeg) (xs (v21 + (2 : Int32)).toNatClampNeg) M95) (fun r102 M100 => if r97 = r102 then (j_LAW_law_456 L xs v21 M100) else (some (.inr ((0 : Int32), M100)))))))))) else (if ((xs v21.toNatClampNeg) &&& (15 : Int32)) = (6 : Int32) then (ck (v21 + (1 : Int32)) L (ck (v21 + (2 : Int32)) L (bi (s_EC_entryByte (xs (v21 + (1 : Int32)).toNatClampNeg) (xs (v21 + (2 : Int32)).toNatClampNeg) M22) (fun r108 M106 => ck (v21 + (1 : Int32)) L (ck (v21 + (2 : Int32)) L (bi (s_MO_entryByte (xs (v21 + (1 : Int32)).toNatClampNeg) (xs (v21 + (2 : Int32)).toNatClampNeg) M106) (fun r113 M111 => if r108 = r113 then (j_LAW_law_456 L xs v21 M111) else (some (.inr ((0 : Int32), M111)))))))))) else (if ((xs v21.toNatClampNeg) &&& (15 : Int32)) = (7 : Int32) then (ck (v21 + (1 : Int32)) L (ck (v21 + (2 : Int32)) L (bi (s_EC_seen (xs (v21 + (1 : Int32)).toNatClampNeg) (xs (v21 + (2 : Int32)).toNatClampNeg) M22) (fun r119 M117 => ck (v21 + (1 : Int32)) L (ck (v21 + (2 : Int32)) L (bi (s_MO_seen (xs (v21 + (1 : Int32)).toNatClampNeg) (xs (v21 + (2 : Int32)).toNatClampNeg) M117) (fun r124 M122 => if r119 = r124 then (j_LAW_law_456 L xs v21 M122) else (some (.inr ((0 : Int32), M122)))))))))) else (if ((xs v21.toNatClampNeg) &&& (15 : Int32)) = (8 : Int32) then (ck (v21 + (1 : Int32)) L (ck (v21 + (2 : Int32)) L (bi (s_EC_finding (xs (v21 + (1 : Int32)).toNatClampNeg) (xs (v21 + (2 : Int32)).toNatClampNeg) M22) (fun r130 M128 => ck (v21 + (1 : Int32)) L (ck (v21 + (2 : Int32)) L (bi (s_MO_finding (xs (v21 + (1 : Int32)).toNatClampNeg) (xs (v21 + (2 : Int32)).toNatClampNeg) M128) (fun r135 M133 => if r130 = r135 then (j_LAW_law_456 L xs v21 M133) else (some (.inr ((0 : Int32), M133)))))))))) else (if ((xs v21.toNatClampNeg) &&& (15 : Int32)) = (9 : Int32) then (ck (v21 + (1 : Int32)) L (ck (v21 + (2 : Int32)) L (if (xs (v21 + (2 : Int32)).toNatClampNeg) = 0 then (j_LAW_law_380 L xs v21 (0 : Int32) (xs (v21 + (1 : Int32)).toNatClampNeg) M22) else (j_LAW_law_380 L xs v21 (1 : Int32) (xs (v21 + (1 : Int32)).toNatClampNeg) M22)))) else (if ((xs v21.toNatClampNeg) &&& (15 : Int32)) = (10 : Int32) then (ck (v21 + (1 : Int32)) L (bi (s_EC_current (xs (v21 + (1 : Int32)).toNatClampNeg) M22) (fun r143 M141 => ck (v21 + (1 : Int32)) L (bi (s_MO_current (xs (v21 + (1 : Int32)).toNatClampNeg) M141) (fun r147 M145 => if r143 = r147 then (j_LAW_law_456 L xs v21 M145) else (some (.inr ((0 : Int32), M145)))))))) else (if ((xs v21.toNatClampNeg) &&& (15 : Int32)) = (11 : Int32) then (bi (s_EC_state M22) (fun r151 M149 => bi (s_MO_state M149) (fun r154 M152 => if r151 = r154 then (j_LAW_law_456 L xs v21 M152) else (some (.inr ((0 : Int32), M152)))))) else (j_LAW_law_456 L xs v21 M22))))))))))))))
noncomputable def s_LAW_law (L : Nat) (xs : Nat → Int32) (a3 : Int32) (M : Mem) : Option (Int32 × Mem) :=
  lp (fun q : Int32 × Mem => l_LAW_law_28 L xs q.1 q.2) (a3, M)
set_option maxHeartbeats 4000000 in
set_option maxRecDepth 100000 in
theorem w_LAW_law (l : Launch) (x : Cx) (hJ : Inj x) {p : Program} {e : Env} {s : State} {m : MethodId} {args : Array Value} {below : List Frame} {meth : Method} {c : Code} {Q : State → Prop} {G0 : Int32 × Mem → Prop} {b L : Nat} {xs : Nat → Int32} {cells slots : Nat} {a3 : Int32} {M : Mem} {out : Int32 × Mem} {H : Heap} {locs : List Loc} {ls : Array Slot} (h : s_LAW_law L xs a3 M = some out) (g : G0 out) (hcs : cells ≤ room_1.cells ∧ slots ≤ room_1.slots) (hx : p.tables.exec = Jvm.exec) (hb : c.code = b_LAW_law) (hml : c.maxLocals = 4) (hown : s.vm.findClass R_LAW = some m.cls) (hts : Tb args s) (hK : va_K x.1 vwCl (tysx x) s) (hZ : Stc x s s.heap) (hX : va_X b L xs s s.heap) (hbl : b < s.heap.size) (hbA : ¬ A0 x b) (hP : va_P x.1 vwCl (wld x M) H) (hS : va_S (A0 x) s.heap H locs) (hl : lv_has ls 4 [(0, .ref b), (1, .ref (x.2.1 0)), (2, .ref (x.2.1 26)), (3, .int a3)])
    (hret : ∀ {v : Int32} {M1 : Mem} {H : Heap} {locs : List Loc} {ls : Array Slot} {pc : Nat}, (v = 0 ∨ v = 1) → decode b_LAW_law pc = .ok (.ireturn, 1) → G0 (v, M1) → va_P x.1 vwCl (wld x M1) H → va_S (A0 x) s.heap H locs → W p l e room_1 s m args below meth c H locs cells slots Q (F0 m pc ls [.int v])) : W p l e room_1 s m args below meth c H locs cells slots Q (F0 m 28 ls []) := by
  unfold s_LAW_law at h
  obtain ⟨P28, eP28⟩ : ∃ P : (Int32 × Mem) → Prop, P = (fun q => ∀ (H : Heap) (locs : List Loc) (ls : Array Slot), va_P x.1 vwCl (wld x (q.2)) H → va_S (A0 x) s.heap H locs → lv_has ls 4 [(0, .ref b), (1, .ref (x.2.1 0)), (2, .ref (x.2.1 26)), (3, .int (q.1))] → W p l e room_1 s m args below meth c H locs cells slots Q (F0 m 28 ls [])) := ⟨_, rfl⟩
  have L28 : P28 (a3, M) := by
    refine lp_walk (G := G0) ?_ h g
    intro q res h g
    obtain ⟨v21, M22⟩ := q
    rw [eP28]
    intro H locs ls hP hS hl
    have hP : va_P x.1 vwCl (wld x M22) H := hP
    have hl : lv_has ls 4 [(0, .ref b), (1, .ref (x.2.1 0)), (2, .ref (x.2.1 26)), (3, .int v21)] := hl
    have h : l_LAW_law_28 L xs v21 M22 = some res := h
    unfold l_LAW_law_28 at h
    have J456 : ∀ (a23 : Int32) (M24 : Mem)  (res : (Int32 × Mem) ⊕ (Int32 × Mem)) (h : j_LAW_law_456 L xs a23 M24 = some res) (g : (lpG P28 G0) res) (H : Heap) (locs : List Loc) (ls : Array Slot) (hP : va_P x.1 vwCl (wld x M24) H) (hS : va_S (A0 x) s.heap H locs) (hl : lv_has ls 4 [(0, .ref b), (1, .ref (x.2.1 0)), (2, .ref (x.2.1 26)), (3, .int a23)]), W p l e room_1 s m args below meth c H locs cells slots Q (F0 m 456 ls []) := by
      intro a23 M24 res h g H locs ls hP hS hl
      unfold j_LAW_law_456 at h
      obtain ⟨v25, ev25, h⟩ := nx_e h
      refine lv_iinc (k := 3) hx hb d_LAW_law_456 hl rfl (iinc_v (k := (4 : Int32)) (by decide) ev25) (by decide) rfl (fun ls hl => ?_)
      have hl : lv_has ls 4 [(3, .int v25), (0, .ref b), (1, .ref (x.2.1 0)), (2, .ref (x.2.1 26))] := hl
      refine lv_goto (tgt := 28) hx hb d_LAW_law_459 rfl ?_
      obtain rfl := Option.some.inj h
      have g : P28 (v25, M24) := g
      rw [eP28] at g
      exact g H locs ls hP hS (lv_sub hl [1, 2, 3, 0] rfl)
    have J407 : ∀ (a26 : Int32) (a27 : Int32) (a28 : Int32) (a29 : Int32) (M30 : Mem)  (res : (Int32 × Mem) ⊕ (Int32 × Mem)) (h : j_LAW_law_407 L xs a26 a27 a28 a29 M30 = some res) (g : (lpG P28 G0) res) (H : Heap) (locs : List Loc) (ls : Array Slot) (hP : va_P x.1 vwCl (wld x M30) H) (hS : va_S (A0 x) s.heap H locs) (hl : lv_has ls 4 [(0, .ref b), (1, .ref (x.2.1 0)), (2, .ref (x.2.1 26)), (3, .int a26)]), W p l e room_1 s m args below meth c H locs cells slots Q (F0 m 407 ls [.int a27, .int a28, .ref (x.2.1 26), .int a29]) := by
      intro a26 a27 a28 a29 M30 res h g H locs ls hP hS hl
      unfold j_LAW_law_407 at h
      refine lv_aload_n hx hb d_LAW_law_407 rfl (lv_at hl 0 rfl) ?_
      refine lv_iload_n hx hb d_LAW_law_408 rfl (lv_at hl 3 rfl) ?_
      refine lv_iconst (v := (3 : Int32)) hx hb d_LAW_law_409 (by decide) ?_
      refine lv_iadd hx hb d_LAW_law_410 ?_
      obtain ⟨b31, h⟩ := ck_e h
      refine va_sld hx hb hX hbl hbA hS b31 d_LAW_law_411 ?_
      obtain ⟨r34, M32, c33, h⟩ := bi_e h
      refine cl_LAW_66 (rest := [.int a29]) (R := room_1) (c_MO_findingByte l x hJ a28 a27 (xs (a26 + (3 : Int32)).toNatClampNeg) c33) hx hb hml hts hown hK hZ hP hS hl.1 (Nat.le_of_ble_eq_true rfl) (Nat.le_of_ble_eq_true rfl) (Nat.le_of_ble_eq_true rfl) ⟨rfl, rfl, hcs.1, hcs.2⟩ d_LAW_law_412 (fun H locs hP hS => ?_)
      refine lv_icmp_eq (tgt := 456) hx hb d_LAW_law_415 rfl (fun hc => ?_) (fun hc => ?_)
      · have h := if_p hc h
        exact J456 a26 M32 _ h g H locs ls hP hS (lv_sub hl [0, 1, 2, 3] rfl)
      · have h := if_m hc h
        refine lv_iconst (v := (0 : Int32)) hx hb d_LAW_law_418 (by decide) ?_
        obtain rfl := Option.some.inj h
        exact hret (by decide) d_LAW_law_419 g hP hS
    have J380 : ∀ (a35 : Int32) (a36 : Int32) (a37 : Int32) (M38 : Mem)  (res : (Int32 × Mem) ⊕ (Int32 × Mem)) (h : j_LAW_law_380 L xs a35 a36 a37 M38 = some res) (g : (lpG P28 G0) res) (H : Heap) (locs : List Loc) (ls : Array Slot) (hP : va_P x.1 vwCl (wld x M38) H) (hS : va_S (A0 x) s.heap H locs) (hl : lv_has ls 4 [(0, .ref b), (1, .ref (x.2.1 0)), (2, .ref (x.2.1 26)), (3, .int a35)]), W p l e room_1 s m args below meth c H locs cells slots Q (F0 m 380 ls [.int a36, .int a37, .ref (x.2.1 0)]) := by
      intro a35 a36 a37 M38 res h g H locs ls hP hS hl
      unfold j_LAW_law_380 at h
      refine lv_aload_n hx hb d_LAW_law_380 rfl (lv_at hl 0 rfl) ?_
      refine lv_iload_n hx hb d_LAW_law_381 rfl (lv_at hl 3 rfl) ?_
      refine lv_iconst (v := (3 : Int32)) hx hb d_LAW_law_382 (by decide) ?_
      refine lv_iadd hx hb d_LAW_law_383 ?_
      obtain ⟨b39, h⟩ := ck_e h
      refine va_sld hx hb hX hbl hbA hS b39 d_LAW_law_384 ?_
      obtain ⟨r42, M40, c41, h⟩ := bi_e h
      refine cl_LAW_62 (rest := []) (R := room_1) (c_EC_findingByte l x hJ a37 a36 (xs (a35 + (3 : Int32)).toNatClampNeg) c41) hx hb hml hts hown hK hZ hP hS hl.1 (Nat.le_of_ble_eq_true rfl) (Nat.le_of_ble_eq_true rfl) (Nat.le_of_ble_eq_true rfl) ⟨rfl, rfl, hcs.1, hcs.2⟩ d_LAW_law_385 (fun H locs hP hS => ?_)
      refine lv_aload_n hx hb d_LAW_law_388 rfl (lv_at hl 2 rfl) ?_
      refine lv_aload_n hx hb d_LAW_law_389 rfl (lv_at hl 0 rfl) ?_
      refine lv_iload_n hx hb d_LAW_law_390 rfl (lv_at hl 3 rfl) ?_
      refine lv_iconst (v := (1 : Int32)) hx hb d_LAW_law_391 (by decide) ?_
      refine lv_iadd hx hb d_LAW_law_392 ?_
      obtain ⟨b43, h⟩ := ck_e h
      refine va_sld hx hb hX hbl hbA hS b43 d_LAW_law_393 ?_
      refine lv_aload_n hx hb d_LAW_law_394 rfl (lv_at hl 0 rfl) ?_
      refine lv_iload_n hx hb d_LAW_law_395 rfl (lv_at hl 3 rfl) ?_
      refine lv_iconst (v := (2 : Int32)) hx hb d_LAW_law_396 (by decide) ?_
      refine lv_iadd hx hb d_LAW_law_397 ?_
      obtain ⟨b44, h⟩ := ck_e h
      refine va_sld hx hb hX hbl hbA hS b44 d_LAW_law_398 ?_
      refine lv_if_eq (tgt := 406) hx hb d_LAW_law_399 rfl (fun hc => ?_) (fun hc => ?_)
      · have h := if_p hc h
        refine lv_iconst (v := (0 : Int32)) hx hb d_LAW_law_406 (by decide) ?_
        exact J407 a35 (0 : Int32) (xs (a35 + (1 : Int32)).toNatClampNeg) r42 M40 _ h g H locs ls hP hS (lv_sub hl [0, 1, 2, 3] rfl)
      · have h := if_m hc h
        refine lv_iconst (v := (1 : Int32)) hx hb d_LAW_law_402 (by decide) ?_
        refine lv_goto (tgt := 407) hx hb d_LAW_law_403 rfl ?_
        exact J407 a35 (1 : Int32) (xs (a35 + (1 : Int32)).toNatClampNeg) r42 M40 _ h g H locs ls hP hS (lv_sub hl [0, 1, 2, 3] rfl)
    refine lv_iload_n hx hb d_LAW_law_28 rfl (lv_at hl 3 rfl) ?_
    refine lv_aload_n hx hb d_LAW_law_29 rfl (lv_at hl 0 rfl) ?_
    refine va_slen hx hb hX hbl hbA hS d_LAW_law_30 ?_
    refine lv_iconst (v := (4 : Int32)) hx hb d_LAW_law_31 (by decide) ?_
    refine lv_isub hx hb d_LAW_law_32 ?_
    refine lv_icmp_gt (tgt := 462) hx hb d_LAW_law_33 rfl (fun hc => ?_) (fun hc => ?_)
    · have h := if_p hc h
      refine lv_iconst (v := (1 : Int32)) hx hb d_LAW_law_462 (by decide) ?_
      obtain rfl := Option.some.inj h
      exact hret (by decide) d_LAW_law_463 g hP hS
    · have h := if_m hc h
      refine lv_aload_n hx hb d_LAW_law_36 rfl (lv_at hl 0 rfl) ?_
      refine lv_iload_n hx hb d_LAW_law_37 rfl (lv_at hl 3 rfl) ?_
      obtain ⟨b45, h⟩ := ck_e h
      refine va_sld hx hb hX hbl hbA hS b45 d_LAW_law_38 ?_
      refine lv_bipush (v := (15 : Int32)) hx hb d_LAW_law_39 (by decide) ?_
      refine lv_iand hx hb d_LAW_law_41 ?_
      by_cases n58 : ((xs v21.toNatClampNeg) &&& (15 : Int32)) = (0 : Int32)
      · have h := if_p n58 h
        refine sw_in (k := (0 : Int32)) (tgt := 104) hx hb n58 d_LAW_law_42 (by decide) (by decide) rfl rfl ?_
        refine lv_aload_n hx hb d_LAW_law_104 rfl (lv_at hl 1 rfl) ?_
        refine lv_aload_n hx hb d_LAW_law_105 rfl (lv_at hl 0 rfl) ?_
        refine lv_iload_n hx hb d_LAW_law_106 rfl (lv_at hl 3 rfl) ?_
        refine lv_iconst (v := (1 : Int32)) hx hb d_LAW_law_107 (by decide) ?_
        refine lv_iadd hx hb d_LAW_law_108 ?_
        obtain ⟨b46, h⟩ := ck_e h
        refine va_sld hx hb hX hbl hbA hS b46 d_LAW_law_109 ?_
        refine lv_aload_n hx hb d_LAW_law_110 rfl (lv_at hl 0 rfl) ?_
        refine lv_iload_n hx hb d_LAW_law_111 rfl (lv_at hl 3 rfl) ?_
        refine lv_iconst (v := (2 : Int32)) hx hb d_LAW_law_112 (by decide) ?_
        refine lv_iadd hx hb d_LAW_law_113 ?_
        obtain ⟨b47, h⟩ := ck_e h
        refine va_sld hx hb hX hbl hbA hS b47 d_LAW_law_114 ?_
        refine lv_aload_n hx hb d_LAW_law_115 rfl (lv_at hl 0 rfl) ?_
        refine lv_iload_n hx hb d_LAW_law_116 rfl (lv_at hl 3 rfl) ?_
        refine lv_iconst (v := (3 : Int32)) hx hb d_LAW_law_117 (by decide) ?_
        refine lv_iadd hx hb d_LAW_law_118 ?_
        obtain ⟨b48, h⟩ := ck_e h
        refine va_sld hx hb hX hbl hbA hS b48 d_LAW_law_119 ?_
        obtain ⟨r51, M49, c50, h⟩ := bi_e h
        refine cl_LAW_21 (rest := []) (R := room_1) (c_EC_emit l x hJ (xs (v21 + (1 : Int32)).toNatClampNeg) (xs (v21 + (2 : Int32)).toNatClampNeg) (xs (v21 + (3 : Int32)).toNatClampNeg) c50) hx hb hml hts hown hK hZ hP hS hl.1 (Nat.le_of_ble_eq_true rfl) (Nat.le_of_ble_eq_true rfl) (Nat.le_of_ble_eq_true rfl) ⟨rfl, rfl, hcs.1, hcs.2⟩ d_LAW_law_120 (fun H locs hP hS => ?_)
        refine lv_aload_n hx hb d_LAW_law_123 rfl (lv_at hl 2 rfl) ?_
        refine lv_aload_n hx hb d_LAW_law_124 rfl (lv_at hl 0 rfl) ?_
        refine lv_iload_n hx hb d_LAW_law_125 rfl (lv_at hl 3 rfl) ?_
        refine lv_iconst (v := (1 : Int32)) hx hb d_LAW_law_126 (by decide) ?_
        refine lv_iadd hx hb d_LAW_law_127 ?_
        obtain ⟨b52, h⟩ := ck_e h
        refine va_sld hx hb hX hbl hbA hS b52 d_LAW_law_128 ?_
        refine lv_aload_n hx hb d_LAW_law_129 rfl (lv_at hl 0 rfl) ?_
        refine lv_iload_n hx hb d_LAW_law_130 rfl (lv_at hl 3 rfl) ?_
        refine lv_iconst (v := (2 : Int32)) hx hb d_LAW_law_131 (by decide) ?_
        refine lv_iadd hx hb d_LAW_law_132 ?_
        obtain ⟨b53, h⟩ := ck_e h
        refine va_sld hx hb hX hbl hbA hS b53 d_LAW_law_133 ?_
        refine lv_aload_n hx hb d_LAW_law_134 rfl (lv_at hl 0 rfl) ?_
        refine lv_iload_n hx hb d_LAW_law_135 rfl (lv_at hl 3 rfl) ?_
        refine lv_iconst (v := (3 : Int32)) hx hb d_LAW_law_136 (by decide) ?_
        refine lv_iadd hx hb d_LAW_law_137 ?_
        obtain ⟨b54, h⟩ := ck_e h
        refine va_sld hx hb hX hbl hbA hS b54 d_LAW_law_138 ?_
        obtain ⟨r57, M55, c56, h⟩ := bi_e h
        refine cl_LAW_25 (rest := [.int r51]) (R := room_1) (c_MO_emit l x hJ (xs (v21 + (1 : Int32)).toNatClampNeg) (xs (v21 + (2 : Int32)).toNatClampNeg) (xs (v21 + (3 : Int32)).toNatClampNeg) c56) hx hb hml hts hown hK hZ hP hS hl.1 (Nat.le_of_ble_eq_true rfl) (Nat.le_of_ble_eq_true rfl) (Nat.le_of_ble_eq_true rfl) ⟨rfl, rfl, hcs.1, hcs.2⟩ d_LAW_law_139 (fun H locs hP hS => ?_)
        refine lv_icmp_eq (tgt := 456) hx hb d_LAW_law_142 rfl (fun hc => ?_) (fun hc => ?_)
        · have h := if_p hc h
          exact J456 v21 M55 _ h g H locs ls hP hS (lv_sub hl [0, 1, 2, 3] rfl)
        · have h := if_m hc h
          refine lv_iconst (v := (0 : Int32)) hx hb d_LAW_law_145 (by decide) ?_
          obtain rfl := Option.some.inj h
          exact hret (by decide) d_LAW_law_146 g hP hS
      have h := if_m n58 h
      by_cases n67 : ((xs v21.toNatClampNeg) &&& (15 : Int32)) = (1 : Int32)
      · have h := if_p n67 h
        refine sw_in (k := (1 : Int32)) (tgt := 147) hx hb n67 d_LAW_law_42 (by decide) (by decide) rfl rfl ?_
        refine lv_aload_n hx hb d_LAW_law_147 rfl (lv_at hl 1 rfl) ?_
        refine lv_aload_n hx hb d_LAW_law_148 rfl (lv_at hl 0 rfl) ?_
        refine lv_iload_n hx hb d_LAW_law_149 rfl (lv_at hl 3 rfl) ?_
        refine lv_iconst (v := (1 : Int32)) hx hb d_LAW_law_150 (by decide) ?_
        refine lv_iadd hx hb d_LAW_law_151 ?_
        obtain ⟨b59, h⟩ := ck_e h
        refine va_sld hx hb hX hbl hbA hS b59 d_LAW_law_152 ?_
        obtain ⟨r62, M60, c61, h⟩ := bi_e h
        refine cl_LAW_26 (rest := []) (R := room_1) (c_EC_feed l x hJ (xs (v21 + (1 : Int32)).toNatClampNeg) c61) hx hb hml hts hown hK hZ hP hS hl.1 (Nat.le_of_ble_eq_true rfl) (Nat.le_of_ble_eq_true rfl) (Nat.le_of_ble_eq_true rfl) ⟨rfl, rfl, hcs.1, hcs.2⟩ d_LAW_law_153 (fun H locs hP hS => ?_)
        refine lv_aload_n hx hb d_LAW_law_156 rfl (lv_at hl 2 rfl) ?_
        refine lv_aload_n hx hb d_LAW_law_157 rfl (lv_at hl 0 rfl) ?_
        refine lv_iload_n hx hb d_LAW_law_158 rfl (lv_at hl 3 rfl) ?_
        refine lv_iconst (v := (1 : Int32)) hx hb d_LAW_law_159 (by decide) ?_
        refine lv_iadd hx hb d_LAW_law_160 ?_
        obtain ⟨b63, h⟩ := ck_e h
        refine va_sld hx hb hX hbl hbA hS b63 d_LAW_law_161 ?_
        obtain ⟨r66, M64, c65, h⟩ := bi_e h
        refine cl_LAW_30 (rest := [.int r62]) (R := room_1) (c_MO_feed l x hJ (xs (v21 + (1 : Int32)).toNatClampNeg) c65) hx hb hml hts hown hK hZ hP hS hl.1 (Nat.le_of_ble_eq_true rfl) (Nat.le_of_ble_eq_true rfl) (Nat.le_of_ble_eq_true rfl) ⟨rfl, rfl, hcs.1, hcs.2⟩ d_LAW_law_162 (fun H locs hP hS => ?_)
        refine lv_icmp_eq (tgt := 456) hx hb d_LAW_law_165 rfl (fun hc => ?_) (fun hc => ?_)
        · have h := if_p hc h
          exact J456 v21 M64 _ h g H locs ls hP hS (lv_sub hl [0, 1, 2, 3] rfl)
        · have h := if_m hc h
          refine lv_iconst (v := (0 : Int32)) hx hb d_LAW_law_168 (by decide) ?_
          obtain rfl := Option.some.inj h
          exact hret (by decide) d_LAW_law_169 g hP hS
      have h := if_m n67 h
      by_cases n74 : ((xs v21.toNatClampNeg) &&& (15 : Int32)) = (2 : Int32)
      · have h := if_p n74 h
        refine sw_in (k := (2 : Int32)) (tgt := 170) hx hb n74 d_LAW_law_42 (by decide) (by decide) rfl rfl ?_
        refine lv_aload_n hx hb d_LAW_law_170 rfl (lv_at hl 1 rfl) ?_
        obtain ⟨r70, M68, c69, h⟩ := bi_e h
        refine cl_LAW_31 (rest := []) (R := room_1) (c_EC_plant l x hJ c69) hx hb hml hts hown hK hZ hP hS hl.1 (Nat.le_of_ble_eq_true rfl) (Nat.le_of_ble_eq_true rfl) (Nat.le_of_ble_eq_true rfl) ⟨rfl, rfl, hcs.1, hcs.2⟩ d_LAW_law_171 (fun H locs hP hS => ?_)
        refine lv_aload_n hx hb d_LAW_law_174 rfl (lv_at hl 2 rfl) ?_
        obtain ⟨r73, M71, c72, h⟩ := bi_e h
        refine cl_LAW_35 (rest := [.int r70]) (R := room_1) (c_MO_plant l x hJ c72) hx hb hml hts hown hK hZ hP hS hl.1 (Nat.le_of_ble_eq_true rfl) (Nat.le_of_ble_eq_true rfl) (Nat.le_of_ble_eq_true rfl) ⟨rfl, rfl, hcs.1, hcs.2⟩ d_LAW_law_175 (fun H locs hP hS => ?_)
        refine lv_icmp_eq (tgt := 456) hx hb d_LAW_law_178 rfl (fun hc => ?_) (fun hc => ?_)
        · have h := if_p hc h
          exact J456 v21 M71 _ h g H locs ls hP hS (lv_sub hl [0, 1, 2, 3] rfl)
        · have h := if_m hc h
          refine lv_iconst (v := (0 : Int32)) hx hb d_LAW_law_181 (by decide) ?_
          obtain rfl := Option.some.inj h
          exact hret (by decide) d_LAW_law_182 g hP hS
      have h := if_m n74 h
      by_cases n83 : ((xs v21.toNatClampNeg) &&& (15 : Int32)) = (3 : Int32)
      · have h := if_p n83 h
        refine sw_in (k := (3 : Int32)) (tgt := 183) hx hb n83 d_LAW_law_42 (by decide) (by decide) rfl rfl ?_
        refine lv_aload_n hx hb d_LAW_law_183 rfl (lv_at hl 1 rfl) ?_
        refine lv_aload_n hx hb d_LAW_law_184 rfl (lv_at hl 0 rfl) ?_
        refine lv_iload_n hx hb d_LAW_law_185 rfl (lv_at hl 3 rfl) ?_
        refine lv_iconst (v := (1 : Int32)) hx hb d_LAW_law_186 (by decide) ?_
        refine lv_iadd hx hb d_LAW_law_187 ?_
        obtain ⟨b75, h⟩ := ck_e h
        refine va_sld hx hb hX hbl hbA hS b75 d_LAW_law_188 ?_
        obtain ⟨r78, M76, c77, h⟩ := bi_e h
        refine cl_LAW_36 (rest := []) (R := room_1) (c_EC_fuzz l x hJ (xs (v21 + (1 : Int32)).toNatClampNeg) c77) hx hb hml hts hown hK hZ hP hS hl.1 (Nat.le_of_ble_eq_true rfl) (Nat.le_of_ble_eq_true rfl) (Nat.le_of_ble_eq_true rfl) ⟨rfl, rfl, hcs.1, hcs.2⟩ d_LAW_law_189 (fun H locs hP hS => ?_)
        refine lv_aload_n hx hb d_LAW_law_192 rfl (lv_at hl 2 rfl) ?_
        refine lv_aload_n hx hb d_LAW_law_193 rfl (lv_at hl 0 rfl) ?_
        refine lv_iload_n hx hb d_LAW_law_194 rfl (lv_at hl 3 rfl) ?_
        refine lv_iconst (v := (1 : Int32)) hx hb d_LAW_law_195 (by decide) ?_
        refine lv_iadd hx hb d_LAW_law_196 ?_
        obtain ⟨b79, h⟩ := ck_e h
        refine va_sld hx hb hX hbl hbA hS b79 d_LAW_law_197 ?_
        obtain ⟨r82, M80, c81, h⟩ := bi_e h
        refine cl_LAW_40 (rest := [.int r78]) (R := room_1) (c_MO_fuzz l x hJ (xs (v21 + (1 : Int32)).toNatClampNeg) c81) hx hb hml hts hown hK hZ hP hS hl.1 (Nat.le_of_ble_eq_true rfl) (Nat.le_of_ble_eq_true rfl) (Nat.le_of_ble_eq_true rfl) ⟨rfl, rfl, hcs.1, hcs.2⟩ d_LAW_law_198 (fun H locs hP hS => ?_)
        refine lv_icmp_eq (tgt := 456) hx hb d_LAW_law_201 rfl (fun hc => ?_) (fun hc => ?_)
        · have h := if_p hc h
          exact J456 v21 M80 _ h g H locs ls hP hS (lv_sub hl [0, 1, 2, 3] rfl)
        · have h := if_m hc h
          refine lv_iconst (v := (0 : Int32)) hx hb d_LAW_law_204 (by decide) ?_
          obtain rfl := Option.some.inj h
          exact hret (by decide) d_LAW_law_205 g hP hS
      have h := if_m n83 h
      by_cases n92 : ((xs v21.toNatClampNeg) &&& (15 : Int32)) = (4 : Int32)
      · have h := if_p n92 h
        refine sw_in (k := (4 : Int32)) (tgt := 206) hx hb n92 d_LAW_law_42 (by decide) (by decide) rfl rfl ?_
        refine lv_aload_n hx hb d_LAW_law_206 rfl (lv_at hl 1 rfl) ?_
        refine lv_aload_n hx hb d_LAW_law_207 rfl (lv_at hl 0 rfl) ?_
        refine lv_iload_n hx hb d_LAW_law_208 rfl (lv_at hl 3 rfl) ?_
        refine lv_iconst (v := (1 : Int32)) hx hb d_LAW_law_209 (by decide) ?_
        refine lv_iadd hx hb d_LAW_law_210 ?_
        obtain ⟨b84, h⟩ := ck_e h
        refine va_sld hx hb hX hbl hbA hS b84 d_LAW_law_211 ?_
        obtain ⟨r87, M85, c86, h⟩ := bi_e h
        refine cl_LAW_41 (rest := []) (R := room_1) (c_EC_count l x hJ (xs (v21 + (1 : Int32)).toNatClampNeg) c86) hx hb hml hts hown hK hZ hP hS hl.1 (Nat.le_of_ble_eq_true rfl) (Nat.le_of_ble_eq_true rfl) (Nat.le_of_ble_eq_true rfl) ⟨rfl, rfl, hcs.1, hcs.2⟩ d_LAW_law_212 (fun H locs hP hS => ?_)
        refine lv_aload_n hx hb d_LAW_law_215 rfl (lv_at hl 2 rfl) ?_
        refine lv_aload_n hx hb d_LAW_law_216 rfl (lv_at hl 0 rfl) ?_
        refine lv_iload_n hx hb d_LAW_law_217 rfl (lv_at hl 3 rfl) ?_
        refine lv_iconst (v := (1 : Int32)) hx hb d_LAW_law_218 (by decide) ?_
        refine lv_iadd hx hb d_LAW_law_219 ?_
        obtain ⟨b88, h⟩ := ck_e h
        refine va_sld hx hb hX hbl hbA hS b88 d_LAW_law_220 ?_
        obtain ⟨r91, M89, c90, h⟩ := bi_e h
        refine cl_LAW_44 (rest := [.int r87]) (R := room_1) (c_MO_count l x hJ (xs (v21 + (1 : Int32)).toNatClampNeg) c90) hx hb hml hts hown hK hZ hP hS hl.1 (Nat.le_of_ble_eq_true rfl) (Nat.le_of_ble_eq_true rfl) (Nat.le_of_ble_eq_true rfl) ⟨rfl, rfl, hcs.1, hcs.2⟩ d_LAW_law_221 (fun H locs hP hS => ?_)
        refine lv_icmp_eq (tgt := 456) hx hb d_LAW_law_224 rfl (fun hc => ?_) (fun hc => ?_)
        · have h := if_p hc h
          exact J456 v21 M89 _ h g H locs ls hP hS (lv_sub hl [0, 1, 2, 3] rfl)
        · have h := if_m hc h
          refine lv_iconst (v := (0 : Int32)) hx hb d_LAW_law_227 (by decide) ?_
          obtain rfl := Option.some.inj h
          exact hret (by decide) d_LAW_law_228 g hP hS
      have h := if_m n92 h
      by_cases n103 : ((xs v21.toNatClampNeg) &&& (15 : Int32)) = (5 : Int32)
      · have h := if_p n103 h
        refine sw_in (k := (5 : Int32)) (tgt := 229) hx hb n103 d_LAW_law_42 (by decide) (by decide) rfl rfl ?_
        refine lv_aload_n hx hb d_LAW_law_229 rfl (lv_at hl 1 rfl) ?_
        refine lv_aload_n hx hb d_LAW_law_230 rfl (lv_at hl 0 rfl) ?_
        refine lv_iload_n hx hb d_LAW_law_231 rfl (lv_at hl 3 rfl) ?_
        refine lv_iconst (v := (1 : Int32)) hx hb d_LAW_law_232 (by decide) ?_
        refine lv_iadd hx hb d_LAW_law_233 ?_
        obtain ⟨b93, h⟩ := ck_e h
        refine va_sld hx hb hX hbl hbA hS b93 d_LAW_law_234 ?_
        refine lv_aload_n hx hb d_LAW_law_235 rfl (lv_at hl 0 rfl) ?_
        refine lv_iload_n hx hb d_LAW_law_236 rfl (lv_at hl 3 rfl) ?_
        refine lv_iconst (v := (2 : Int32)) hx hb d_LAW_law_237 (by decide) ?_
        refine lv_iadd hx hb d_LAW_law_238 ?_
        obtain ⟨b94, h⟩ := ck_e h
        refine va_sld hx hb hX hbl hbA hS b94 d_LAW_law_239 ?_
        obtain ⟨r97, M95, c96, h⟩ := bi_e h
        refine cl_LAW_45 (rest := []) (R := room_1) (c_EC_entry l x hJ (xs (v21 + (1 : Int32)).toNatClampNeg) (xs (v21 + (2 : Int32)).toNatClampNeg) c96) hx hb hml hts hown hK hZ hP hS hl.1 (Nat.le_of_ble_eq_true rfl) (Nat.le_of_ble_eq_true rfl) (Nat.le_of_ble_eq_true rfl) ⟨rfl, rfl, hcs.1, hcs.2⟩ d_LAW_law_240 (fun H locs hP hS => ?_)
        refine lv_aload_n hx hb d_LAW_law_243 rfl (lv_at hl 2 rfl) ?_
        refine lv_aload_n hx hb d_LAW_law_244 rfl (lv_at hl 0 rfl) ?_
        refine lv_iload_n hx hb d_LAW_law_245 rfl (lv_at hl 3 rfl) ?_
        refine lv_iconst (v := (1 : Int32)) hx hb d_LAW_law_246 (by decide) ?_
        refine lv_iadd hx hb d_LAW_law_247 ?_
        obtain ⟨b98, h⟩ := ck_e h
        refine va_sld hx hb hX hbl hbA hS b98 d_LAW_law_248 ?_
        refine lv_aload_n hx hb d_LAW_law_249 rfl (lv_at hl 0 rfl) ?_
        refine lv_iload_n hx hb d_LAW_law_250 rfl (lv_at hl 3 rfl) ?_
        refine lv_iconst (v := (2 : Int32)) hx hb d_LAW_law_251 (by decide) ?_
        refine lv_iadd hx hb d_LAW_law_252 ?_
        obtain ⟨b99, h⟩ := ck_e h
        refine va_sld hx hb hX hbl hbA hS b99 d_LAW_law_253 ?_
        obtain ⟨r102, M100, c101, h⟩ := bi_e h
        refine cl_LAW_49 (rest := [.int r97]) (R := room_1) (c_MO_entry l x hJ (xs (v21 + (1 : Int32)).toNatClampNeg) (xs (v21 + (2 : Int32)).toNatClampNeg) c101) hx hb hml hts hown hK hZ hP hS hl.1 (Nat.le_of_ble_eq_true rfl) (Nat.le_of_ble_eq_true rfl) (Nat.le_of_ble_eq_true rfl) ⟨rfl, rfl, hcs.1, hcs.2⟩ d_LAW_law_254 (fun H locs hP hS => ?_)
        refine lv_icmp_eq (tgt := 456) hx hb d_LAW_law_257 rfl (fun hc => ?_) (fun hc => ?_)
        · have h := if_p hc h
          exact J456 v21 M100 _ h g H locs ls hP hS (lv_sub hl [0, 1, 2, 3] rfl)
        · have h := if_m hc h
          refine lv_iconst (v := (0 : Int32)) hx hb d_LAW_law_260 (by decide) ?_
          obtain rfl := Option.some.inj h
          exact hret (by decide) d_LAW_law_261 g hP hS
      have h := if_m n103 h
      by_cases n114 : ((xs v21.toNatClampNeg) &&& (15 : Int32)) = (6 : Int32)
      · have h := if_p n114 h
        refine sw_in (k := (6 : Int32)) (tgt := 262) hx hb n114 d_LAW_law_42 (by decide) (by decide) rfl rfl ?_
        refine lv_aload_n hx hb d_LAW_law_262 rfl (lv_at hl 1 rfl) ?_
        refine lv_aload_n hx hb d_LAW_law_263 rfl (lv_at hl 0 rfl) ?_
        refine lv_iload_n hx hb d_LAW_law_264 rfl (lv_at hl 3 rfl) ?_
        refine lv_iconst (v := (1 : Int32)) hx hb d_LAW_law_265 (by decide) ?_
        refine lv_iadd hx hb d_LAW_law_266 ?_
        obtain ⟨b104, h⟩ := ck_e h
        refine va_sld hx hb hX hbl hbA hS b104 d_LAW_law_267 ?_
        refine lv_aload_n hx hb d_LAW_law_268 rfl (lv_at hl 0 rfl) ?_
        refine lv_iload_n hx hb d_LAW_law_269 rfl (lv_at hl 3 rfl) ?_
        refine lv_iconst (v := (2 : Int32)) hx hb d_LAW_law_270 (by decide) ?_
        refine lv_iadd hx hb d_LAW_law_271 ?_
        obtain ⟨b105, h⟩ := ck_e h
        refine va_sld hx hb hX hbl hbA hS b105 d_LAW_law_272 ?_
        obtain ⟨r108, M106, c107, h⟩ := bi_e h
        refine cl_LAW_50 (rest := []) (R := room_1) (c_EC_entryByte l x hJ (xs (v21 + (1 : Int32)).toNatClampNeg) (xs (v21 + (2 : Int32)).toNatClampNeg) c107) hx hb hml hts hown hK hZ hP hS hl.1 (Nat.le_of_ble_eq_true rfl) (Nat.le_of_ble_eq_true rfl) (Nat.le_of_ble_eq_true rfl) ⟨rfl, rfl, hcs.1, hcs.2⟩ d_LAW_law_273 (fun H locs hP hS => ?_)
        refine lv_aload_n hx hb d_LAW_law_276 rfl (lv_at hl 2 rfl) ?_
        refine lv_aload_n hx hb d_LAW_law_277 rfl (lv_at hl 0 rfl) ?_
        refine lv_iload_n hx hb d_LAW_law_278 rfl (lv_at hl 3 rfl) ?_
        refine lv_iconst (v := (1 : Int32)) hx hb d_LAW_law_279 (by decide) ?_
        refine lv_iadd hx hb d_LAW_law_280 ?_
        obtain ⟨b109, h⟩ := ck_e h
        refine va_sld hx hb hX hbl hbA hS b109 d_LAW_law_281 ?_
        refine lv_aload_n hx hb d_LAW_law_282 rfl (lv_at hl 0 rfl) ?_
        refine lv_iload_n hx hb d_LAW_law_283 rfl (lv_at hl 3 rfl) ?_
        refine lv_iconst (v := (2 : Int32)) hx hb d_LAW_law_284 (by decide) ?_
        refine lv_iadd hx hb d_LAW_law_285 ?_
        obtain ⟨b110, h⟩ := ck_e h
        refine va_sld hx hb hX hbl hbA hS b110 d_LAW_law_286 ?_
        obtain ⟨r113, M111, c112, h⟩ := bi_e h
        refine cl_LAW_53 (rest := [.int r108]) (R := room_1) (c_MO_entryByte l x hJ (xs (v21 + (1 : Int32)).toNatClampNeg) (xs (v21 + (2 : Int32)).toNatClampNeg) c112) hx hb hml hts hown hK hZ hP hS hl.1 (Nat.le_of_ble_eq_true rfl) (Nat.le_of_ble_eq_true rfl) (Nat.le_of_ble_eq_true rfl) ⟨rfl, rfl, hcs.1, hcs.2⟩ d_LAW_law_287 (fun H locs hP hS => ?_)
        refine lv_icmp_eq (tgt := 456) hx hb d_LAW_law_290 rfl (fun hc => ?_) (fun hc => ?_)
        · have h := if_p hc h
          exact J456 v21 M111 _ h g H locs ls hP hS (lv_sub hl [0, 1, 2, 3] rfl)
        · have h := if_m hc h
          refine lv_iconst (v := (0 : Int32)) hx hb d_LAW_law_293 (by decide) ?_
          obtain rfl := Option.some.inj h
          exact hret (by decide) d_LAW_law_294 g hP hS
      have h := if_m n114 h
      by_cases n125 : ((xs v21.toNatClampNeg) &&& (15 : Int32)) = (7 : Int32)
      · have h := if_p n125 h
        refine sw_in (k := (7 : Int32)) (tgt := 295) hx hb n125 d_LAW_law_42 (by decide) (by decide) rfl rfl ?_
        refine lv_aload_n hx hb d_LAW_law_295 rfl (lv_at hl 1 rfl) ?_
        refine lv_aload_n hx hb d_LAW_law_296 rfl (lv_at hl 0 rfl) ?_
        refine lv_iload_n hx hb d_LAW_law_297 rfl (lv_at hl 3 rfl) ?_
        refine lv_iconst (v := (1 : Int32)) hx hb d_LAW_law_298 (by decide) ?_
        refine lv_iadd hx hb d_LAW_law_299 ?_
        obtain ⟨b115, h⟩ := ck_e h
        refine va_sld hx hb hX hbl hbA hS b115 d_LAW_law_300 ?_
        refine lv_aload_n hx hb d_LAW_law_301 rfl (lv_at hl 0 rfl) ?_
        refine lv_iload_n hx hb d_LAW_law_302 rfl (lv_at hl 3 rfl) ?_
        refine lv_iconst (v := (2 : Int32)) hx hb d_LAW_law_303 (by decide) ?_
        refine lv_iadd hx hb d_LAW_law_304 ?_
        obtain ⟨b116, h⟩ := ck_e h
        refine va_sld hx hb hX hbl hbA hS b116 d_LAW_law_305 ?_
        obtain ⟨r119, M117, c118, h⟩ := bi_e h
        refine cl_LAW_54 (rest := []) (R := room_1) (c_EC_seen l x hJ (xs (v21 + (1 : Int32)).toNatClampNeg) (xs (v21 + (2 : Int32)).toNatClampNeg) c118) hx hb hml hts hown hK hZ hP hS hl.1 (Nat.le_of_ble_eq_true rfl) (Nat.le_of_ble_eq_true rfl) (Nat.le_of_ble_eq_true rfl) ⟨rfl, rfl, hcs.1, hcs.2⟩ d_LAW_law_306 (fun H locs hP hS => ?_)
        refine lv_aload_n hx hb d_LAW_law_309 rfl (lv_at hl 2 rfl) ?_
        refine lv_aload_n hx hb d_LAW_law_310 rfl (lv_at hl 0 rfl) ?_
        refine lv_iload_n hx hb d_LAW_law_311 rfl (lv_at hl 3 rfl) ?_
        refine lv_iconst (v := (1 : Int32)) hx hb d_LAW_law_312 (by decide) ?_
        refine lv_iadd hx hb d_LAW_law_313 ?_
        obtain ⟨b120, h⟩ := ck_e h
        refine va_sld hx hb hX hbl hbA hS b120 d_LAW_law_314 ?_
        refine lv_aload_n hx hb d_LAW_law_315 rfl (lv_at hl 0 rfl) ?_
        refine lv_iload_n hx hb d_LAW_law_316 rfl (lv_at hl 3 rfl) ?_
        refine lv_iconst (v := (2 : Int32)) hx hb d_LAW_law_317 (by decide) ?_
        refine lv_iadd hx hb d_LAW_law_318 ?_
        obtain ⟨b121, h⟩ := ck_e h
        refine va_sld hx hb hX hbl hbA hS b121 d_LAW_law_319 ?_
        obtain ⟨r124, M122, c123, h⟩ := bi_e h
        refine cl_LAW_57 (rest := [.int r119]) (R := room_1) (c_MO_seen l x hJ (xs (v21 + (1 : Int32)).toNatClampNeg) (xs (v21 + (2 : Int32)).toNatClampNeg) c123) hx hb hml hts hown hK hZ hP hS hl.1 (Nat.le_of_ble_eq_true rfl) (Nat.le_of_ble_eq_true rfl) (Nat.le_of_ble_eq_true rfl) ⟨rfl, rfl, hcs.1, hcs.2⟩ d_LAW_law_320 (fun H locs hP hS => ?_)
        refine lv_icmp_eq (tgt := 456) hx hb d_LAW_law_323 rfl (fun hc => ?_) (fun hc => ?_)
        · have h := if_p hc h
          exact J456 v21 M122 _ h g H locs ls hP hS (lv_sub hl [0, 1, 2, 3] rfl)
        · have h := if_m hc h
          refine lv_iconst (v := (0 : Int32)) hx hb d_LAW_law_326 (by decide) ?_
          obtain rfl := Option.some.inj h
          exact hret (by decide) d_LAW_law_327 g hP hS
      have h := if_m n125 h
      by_cases n136 : ((xs v21.toNatClampNeg) &&& (15 : Int32)) = (8 : Int32)
      · have h := if_p n136 h
        refine sw_in (k := (8 : Int32)) (tgt := 328) hx hb n136 d_LAW_law_42 (by decide) (by decide) rfl rfl ?_
        refine lv_aload_n hx hb d_LAW_law_328 rfl (lv_at hl 1 rfl) ?_
        refine lv_aload_n hx hb d_LAW_law_329 rfl (lv_at hl 0 rfl) ?_
        refine lv_iload_n hx hb d_LAW_law_330 rfl (lv_at hl 3 rfl) ?_
        refine lv_iconst (v := (1 : Int32)) hx hb d_LAW_law_331 (by decide) ?_
        refine lv_iadd hx hb d_LAW_law_332 ?_
        obtain ⟨b126, h⟩ := ck_e h
        refine va_sld hx hb hX hbl hbA hS b126 d_LAW_law_333 ?_
        refine lv_aload_n hx hb d_LAW_law_334 rfl (lv_at hl 0 rfl) ?_
        refine lv_iload_n hx hb d_LAW_law_335 rfl (lv_at hl 3 rfl) ?_
        refine lv_iconst (v := (2 : Int32)) hx hb d_LAW_law_336 (by decide) ?_
        refine lv_iadd hx hb d_LAW_law_337 ?_
        obtain ⟨b127, h⟩ := ck_e h
        refine va_sld hx hb hX hbl hbA hS b127 d_LAW_law_338 ?_
        obtain ⟨r130, M128, c129, h⟩ := bi_e h
        refine cl_LAW_58 (rest := []) (R := room_1) (c_EC_finding l x hJ (xs (v21 + (1 : Int32)).toNatClampNeg) (xs (v21 + (2 : Int32)).toNatClampNeg) c129) hx hb hml hts hown hK hZ hP hS hl.1 (Nat.le_of_ble_eq_true rfl) (Nat.le_of_ble_eq_true rfl) (Nat.le_of_ble_eq_true rfl) ⟨rfl, rfl, hcs.1, hcs.2⟩ d_LAW_law_339 (fun H locs hP hS => ?_)
        refine lv_aload_n hx hb d_LAW_law_342 rfl (lv_at hl 2 rfl) ?_
        refine lv_aload_n hx hb d_LAW_law_343 rfl (lv_at hl 0 rfl) ?_
        refine lv_iload_n hx hb d_LAW_law_344 rfl (lv_at hl 3 rfl) ?_
        refine lv_iconst (v := (1 : Int32)) hx hb d_LAW_law_345 (by decide) ?_
        refine lv_iadd hx hb d_LAW_law_346 ?_
        obtain ⟨b131, h⟩ := ck_e h
        refine va_sld hx hb hX hbl hbA hS b131 d_LAW_law_347 ?_
        refine lv_aload_n hx hb d_LAW_law_348 rfl (lv_at hl 0 rfl) ?_
        refine lv_iload_n hx hb d_LAW_law_349 rfl (lv_at hl 3 rfl) ?_
        refine lv_iconst (v := (2 : Int32)) hx hb d_LAW_law_350 (by decide) ?_
        refine lv_iadd hx hb d_LAW_law_351 ?_
        obtain ⟨b132, h⟩ := ck_e h
        refine va_sld hx hb hX hbl hbA hS b132 d_LAW_law_352 ?_
        obtain ⟨r135, M133, c134, h⟩ := bi_e h
        refine cl_LAW_61 (rest := [.int r130]) (R := room_1) (c_MO_finding l x hJ (xs (v21 + (1 : Int32)).toNatClampNeg) (xs (v21 + (2 : Int32)).toNatClampNeg) c134) hx hb hml hts hown hK hZ hP hS hl.1 (Nat.le_of_ble_eq_true rfl) (Nat.le_of_ble_eq_true rfl) (Nat.le_of_ble_eq_true rfl) ⟨rfl, rfl, hcs.1, hcs.2⟩ d_LAW_law_353 (fun H locs hP hS => ?_)
        refine lv_icmp_eq (tgt := 456) hx hb d_LAW_law_356 rfl (fun hc => ?_) (fun hc => ?_)
        · have h := if_p hc h
          exact J456 v21 M133 _ h g H locs ls hP hS (lv_sub hl [0, 1, 2, 3] rfl)
        · have h := if_m hc h
          refine lv_iconst (v := (0 : Int32)) hx hb d_LAW_law_359 (by decide) ?_
          obtain rfl := Option.some.inj h
          exact hret (by decide) d_LAW_law_360 g hP hS
      have h := if_m n136 h
      by_cases n139 : ((xs v21.toNatClampNeg) &&& (15 : Int32)) = (9 : Int32)
      · have h := if_p n139 h
        refine sw_in (k := (9 : Int32)) (tgt := 361) hx hb n139 d_LAW_law_42 (by decide) (by decide) rfl rfl ?_
        refine lv_aload_n hx hb d_LAW_law_361 rfl (lv_at hl 1 rfl) ?_
        refine lv_aload_n hx hb d_LAW_law_362 rfl (lv_at hl 0 rfl) ?_
        refine lv_iload_n hx hb d_LAW_law_363 rfl (lv_at hl 3 rfl) ?_
        refine lv_iconst (v := (1 : Int32)) hx hb d_LAW_law_364 (by decide) ?_
        refine lv_iadd hx hb d_LAW_law_365 ?_
        obtain ⟨b137, h⟩ := ck_e h
        refine va_sld hx hb hX hbl hbA hS b137 d_LAW_law_366 ?_
        refine lv_aload_n hx hb d_LAW_law_367 rfl (lv_at hl 0 rfl) ?_
        refine lv_iload_n hx hb d_LAW_law_368 rfl (lv_at hl 3 rfl) ?_
        refine lv_iconst (v := (2 : Int32)) hx hb d_LAW_law_369 (by decide) ?_
        refine lv_iadd hx hb d_LAW_law_370 ?_
        obtain ⟨b138, h⟩ := ck_e h
        refine va_sld hx hb hX hbl hbA hS b138 d_LAW_law_371 ?_
        refine lv_if_eq (tgt := 379) hx hb d_LAW_law_372 rfl (fun hc => ?_) (fun hc => ?_)
        · have h := if_p hc h
          refine lv_iconst (v := (0 : Int32)) hx hb d_LAW_law_379 (by decide) ?_
          exact J380 v21 (0 : Int32) (xs (v21 + (1 : Int32)).toNatClampNeg) M22 _ h g H locs ls hP hS (lv_sub hl [0, 1, 2, 3] rfl)
        · have h := if_m hc h
          refine lv_iconst (v := (1 : Int32)) hx hb d_LAW_law_375 (by decide) ?_
          refine lv_goto (tgt := 380) hx hb d_LAW_law_376 rfl ?_
          exact J380 v21 (1 : Int32) (xs (v21 + (1 : Int32)).toNatClampNeg) M22 _ h g H locs ls hP hS (lv_sub hl [0, 1, 2, 3] rfl)
      have h := if_m n139 h
      by_cases n148 : ((xs v21.toNatClampNeg) &&& (15 : Int32)) = (10 : Int32)
      · have h := if_p n148 h
        refine sw_in (k := (10 : Int32)) (tgt := 420) hx hb n148 d_LAW_law_42 (by decide) (by decide) rfl rfl ?_
        refine lv_aload_n hx hb d_LAW_law_420 rfl (lv_at hl 1 rfl) ?_
        refine lv_aload_n hx hb d_LAW_law_421 rfl (lv_at hl 0 rfl) ?_
        refine lv_iload_n hx hb d_LAW_law_422 rfl (lv_at hl 3 rfl) ?_
        refine lv_iconst (v := (1 : Int32)) hx hb d_LAW_law_423 (by decide) ?_
        refine lv_iadd hx hb d_LAW_law_424 ?_
        obtain ⟨b140, h⟩ := ck_e h
        refine va_sld hx hb hX hbl hbA hS b140 d_LAW_law_425 ?_
        obtain ⟨r143, M141, c142, h⟩ := bi_e h
        refine cl_LAW_67 (rest := []) (R := room_1) (c_EC_current l x hJ (xs (v21 + (1 : Int32)).toNatClampNeg) c142) hx hb hml hts hown hK hZ hP hS hl.1 (Nat.le_of_ble_eq_true rfl) (Nat.le_of_ble_eq_true rfl) (Nat.le_of_ble_eq_true rfl) ⟨rfl, rfl, hcs.1, hcs.2⟩ d_LAW_law_426 (fun H locs hP hS => ?_)
        refine lv_aload_n hx hb d_LAW_law_429 rfl (lv_at hl 2 rfl) ?_
        refine lv_aload_n hx hb d_LAW_law_430 rfl (lv_at hl 0 rfl) ?_
        refine lv_iload_n hx hb d_LAW_law_431 rfl (lv_at hl 3 rfl) ?_
        refine lv_iconst (v := (1 : Int32)) hx hb d_LAW_law_432 (by decide) ?_
        refine lv_iadd hx hb d_LAW_law_433 ?_
        obtain ⟨b144, h⟩ := ck_e h
        refine va_sld hx hb hX hbl hbA hS b144 d_LAW_law_434 ?_
        obtain ⟨r147, M145, c146, h⟩ := bi_e h
        refine cl_LAW_70 (rest := [.int r143]) (R := room_1) (c_MO_current l x hJ (xs (v21 + (1 : Int32)).toNatClampNeg) c146) hx hb hml hts hown hK hZ hP hS hl.1 (Nat.le_of_ble_eq_true rfl) (Nat.le_of_ble_eq_true rfl) (Nat.le_of_ble_eq_true rfl) ⟨rfl, rfl, hcs.1, hcs.2⟩ d_LAW_law_435 (fun H locs hP hS => ?_)
        refine lv_icmp_eq (tgt := 456) hx hb d_LAW_law_438 rfl (fun hc => ?_) (fun hc => ?_)
        · have h := if_p hc h
          exact J456 v21 M145 _ h g H locs ls hP hS (lv_sub hl [0, 1, 2, 3] rfl)
        · have h := if_m hc h
          refine lv_iconst (v := (0 : Int32)) hx hb d_LAW_law_441 (by decide) ?_
          obtain rfl := Option.some.inj h
          exact hret (by decide) d_LAW_law_442 g hP hS
      have h := if_m n148 h
      by_cases n155 : ((xs v21.toNatClampNeg) &&& (15 : Int32)) = (11 : Int32)
      · have h := if_p n155 h
        refine sw_in (k := (11 : Int32)) (tgt := 443) hx hb n155 d_LAW_law_42 (by decide) (by decide) rfl rfl ?_
        refine lv_aload_n hx hb d_LAW_law_443 rfl (lv_at hl 1 rfl) ?_
        obtain ⟨r151, M149, c150, h⟩ := bi_e h
        refine cl_LAW_71 (rest := []) (R := room_1) (c_EC_state l x hJ c150) hx hb hml hts hown hK hZ hP hS hl.1 (Nat.le_of_ble_eq_true rfl) (Nat.le_of_ble_eq_true rfl) (Nat.le_of_ble_eq_true rfl) ⟨rfl, rfl, hcs.1, hcs.2⟩ d_LAW_law_444 (fun H locs hP hS => ?_)
        refine lv_aload_n hx hb d_LAW_law_447 rfl (lv_at hl 2 rfl) ?_
        obtain ⟨r154, M152, c153, h⟩ := bi_e h
        refine cl_LAW_74 (rest := [.int r151]) (R := room_1) (c_MO_state l x hJ c153) hx hb hml hts hown hK hZ hP hS hl.1 (Nat.le_of_ble_eq_true rfl) (Nat.le_of_ble_eq_true rfl) (Nat.le_of_ble_eq_true rfl) ⟨rfl, rfl, hcs.1, hcs.2⟩ d_LAW_law_448 (fun H locs hP hS => ?_)
        refine lv_icmp_eq (tgt := 456) hx hb d_LAW_law_451 rfl (fun hc => ?_) (fun hc => ?_)
        · have h := if_p hc h
          exact J456 v21 M152 _ h g H locs ls hP hS (lv_sub hl [0, 1, 2, 3] rfl)
        · have h := if_m hc h
          refine lv_iconst (v := (0 : Int32)) hx hb d_LAW_law_454 (by decide) ?_
          obtain rfl := Option.some.inj h
          exact hret (by decide) d_LAW_law_455 g hP hS
      have h := if_m n155 h
      have b0 := sw_ne (k := (0 : Int32)) (z := 0) (by decide) n58
      have b1 := sw_ne (k := (1 : Int32)) (z := 1) (by decide) n67
      have b2 := sw_ne (k := (2 : Int32)) (z := 2) (by decide) n74
      have b3 := sw_ne (k := (3 : Int32)) (z := 3) (by decide) n83
      have b4 := sw_ne (k := (4 : Int32)) (z := 4) (by decide) n92
      have b5 := sw_ne (k := (5 : Int32)) (z := 5) (by decide) n103
      have b6 := sw_ne (k := (6 : Int32)) (z := 6) (by decide) n114
      have b7 := sw_ne (k := (7 : Int32)) (z := 7) (by decide) n125
      have b8 := sw_ne (k := (8 : Int32)) (z := 8) (by decide) n136
      have b9 := sw_ne (k := (9 : Int32)) (z := 9) (by decide) n139
      have b10 := sw_ne (k := (10 : Int32)) (z := 10) (by decide) n148
      have b11 := sw_ne (k := (11 : Int32)) (z := 11) (by decide) n155
      refine lv_tableOut (tgt := 456) hx hb d_LAW_law_42 (by omega) rfl ?_
      exact J456 v21 M22 _ h g H locs ls hP hS (lv_sub hl [0, 1, 2, 3] rfl)
  rw [eP28] at L28
  exact L28 H locs ls hP hS (lv_sub hl [0, 1, 2, 3] rfl)
