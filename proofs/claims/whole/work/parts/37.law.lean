abbrev b_LAW_law : ByteArray := code
theorem d_LAW_law_0 : decode b_LAW_law 0 = .ok (.new 7, 3) := by decide +kernel
theorem d_LAW_law_3 : decode b_LAW_law 3 = .ok (.dup, 1) := by decide +kernel
theorem d_LAW_law_4 : decode b_LAW_law 4 = .ok (.aload_n 0, 1) := by decide +kernel
theorem d_LAW_law_5 : decode b_LAW_law 5 = .ok (.iconst 0, 1) := by decide +kernel
theorem d_LAW_law_6 : decode b_LAW_law 6 = .ok (.invokestatic 9, 3) := by decide +kernel
theorem d_LAW_law_9 : decode b_LAW_law 9 = .ok (.aload_n 0, 1) := by decide +kernel
theorem d_LAW_law_10 : decode b_LAW_law 10 = .ok (.iconst 1, 1) := by decide +kernel
theorem d_LAW_law_11 : decode b_LAW_law 11 = .ok (.invokestatic 9, 3) := by decide +kernel
theorem d_LAW_law_14 : decode b_LAW_law 14 = .ok (.invokespecial 15, 3) := by decide +kernel
theorem d_LAW_law_17 : decode b_LAW_law 17 = .ok (.astore_n 1, 1) := by decide +kernel
theorem d_LAW_law_18 : decode b_LAW_law 18 = .ok (.new 18, 3) := by decide +kernel
theorem d_LAW_law_21 : decode b_LAW_law 21 = .ok (.dup, 1) := by decide +kernel
theorem d_LAW_law_22 : decode b_LAW_law 22 = .ok (.aload_n 0, 1) := by decide +kernel
theorem d_LAW_law_23 : decode b_LAW_law 23 = .ok (.iconst 0, 1) := by decide +kernel
theorem d_LAW_law_24 : decode b_LAW_law 24 = .ok (.invokestatic 9, 3) := by decide +kernel
theorem d_LAW_law_27 : decode b_LAW_law 27 = .ok (.aload_n 0, 1) := by decide +kernel
theorem d_LAW_law_28 : decode b_LAW_law 28 = .ok (.iconst 1, 1) := by decide +kernel
theorem d_LAW_law_29 : decode b_LAW_law 29 = .ok (.invokestatic 9, 3) := by decide +kernel
theorem d_LAW_law_32 : decode b_LAW_law 32 = .ok (.invokespecial 20, 3) := by decide +kernel
theorem d_LAW_law_35 : decode b_LAW_law 35 = .ok (.astore_n 2, 1) := by decide +kernel
theorem d_LAW_law_36 : decode b_LAW_law 36 = .ok (.iconst 2, 1) := by decide +kernel
theorem d_LAW_law_37 : decode b_LAW_law 37 = .ok (.istore_n 3, 1) := by decide +kernel
theorem d_LAW_law_38 : decode b_LAW_law 38 = .ok (.iload_n 3, 1) := by decide +kernel
theorem d_LAW_law_39 : decode b_LAW_law 39 = .ok (.aload_n 0, 1) := by decide +kernel
theorem d_LAW_law_40 : decode b_LAW_law 40 = .ok (.arraylength, 1) := by decide +kernel
theorem d_LAW_law_41 : decode b_LAW_law 41 = .ok (.iconst 4, 1) := by decide +kernel
theorem d_LAW_law_42 : decode b_LAW_law 42 = .ok (.isub, 1) := by decide +kernel
theorem d_LAW_law_43 : decode b_LAW_law 43 = .ok (.if_icmp .gt 477, 3) := by decide +kernel
theorem d_LAW_law_46 : decode b_LAW_law 46 = .ok (.aload_n 0, 1) := by decide +kernel
theorem d_LAW_law_47 : decode b_LAW_law 47 = .ok (.iload_n 3, 1) := by decide +kernel
theorem d_LAW_law_48 : decode b_LAW_law 48 = .ok (.iaload, 1) := by decide +kernel
theorem d_LAW_law_49 : decode b_LAW_law 49 = .ok (.bipush 15, 2) := by decide +kernel
theorem d_LAW_law_51 : decode b_LAW_law 51 = .ok (.iand, 1) := by decide +kernel
theorem d_LAW_law_52 : decode b_LAW_law 52 = .ok (.tableswitch 462 0 13 #[72, 95, 118, 181, 192, 215, 238, 261, 274, 297, 340, 373, 406, 439], 72) := by decide +kernel
theorem d_LAW_law_124 : decode b_LAW_law 124 = .ok (.aload_n 1, 1) := by decide +kernel
theorem d_LAW_law_125 : decode b_LAW_law 125 = .ok (.aload_n 0, 1) := by decide +kernel
theorem d_LAW_law_126 : decode b_LAW_law 126 = .ok (.iload_n 3, 1) := by decide +kernel
theorem d_LAW_law_127 : decode b_LAW_law 127 = .ok (.iconst 1, 1) := by decide +kernel
theorem d_LAW_law_128 : decode b_LAW_law 128 = .ok (.iadd, 1) := by decide +kernel
theorem d_LAW_law_129 : decode b_LAW_law 129 = .ok (.iaload, 1) := by decide +kernel
theorem d_LAW_law_130 : decode b_LAW_law 130 = .ok (.invokevirtual 21, 3) := by decide +kernel
theorem d_LAW_law_133 : decode b_LAW_law 133 = .ok (.aload_n 2, 1) := by decide +kernel
theorem d_LAW_law_134 : decode b_LAW_law 134 = .ok (.aload_n 0, 1) := by decide +kernel
theorem d_LAW_law_135 : decode b_LAW_law 135 = .ok (.iload_n 3, 1) := by decide +kernel
theorem d_LAW_law_136 : decode b_LAW_law 136 = .ok (.iconst 1, 1) := by decide +kernel
theorem d_LAW_law_137 : decode b_LAW_law 137 = .ok (.iadd, 1) := by decide +kernel
theorem d_LAW_law_138 : decode b_LAW_law 138 = .ok (.iaload, 1) := by decide +kernel
theorem d_LAW_law_139 : decode b_LAW_law 139 = .ok (.invokevirtual 25, 3) := by decide +kernel
theorem d_LAW_law_142 : decode b_LAW_law 142 = .ok (.if_icmp .eq 372, 3) := by decide +kernel
theorem d_LAW_law_145 : decode b_LAW_law 145 = .ok (.iconst 0, 1) := by decide +kernel
theorem d_LAW_law_146 : decode b_LAW_law 146 = .ok (.ireturn, 1) := by decide +kernel
theorem d_LAW_law_147 : decode b_LAW_law 147 = .ok (.aload_n 1, 1) := by decide +kernel
theorem d_LAW_law_148 : decode b_LAW_law 148 = .ok (.aload_n 0, 1) := by decide +kernel
theorem d_LAW_law_149 : decode b_LAW_law 149 = .ok (.iload_n 3, 1) := by decide +kernel
theorem d_LAW_law_150 : decode b_LAW_law 150 = .ok (.iconst 1, 1) := by decide +kernel
theorem d_LAW_law_151 : decode b_LAW_law 151 = .ok (.iadd, 1) := by decide +kernel
theorem d_LAW_law_152 : decode b_LAW_law 152 = .ok (.iaload, 1) := by decide +kernel
theorem d_LAW_law_153 : decode b_LAW_law 153 = .ok (.invokevirtual 26, 3) := by decide +kernel
theorem d_LAW_law_156 : decode b_LAW_law 156 = .ok (.aload_n 2, 1) := by decide +kernel
theorem d_LAW_law_157 : decode b_LAW_law 157 = .ok (.aload_n 0, 1) := by decide +kernel
theorem d_LAW_law_158 : decode b_LAW_law 158 = .ok (.iload_n 3, 1) := by decide +kernel
theorem d_LAW_law_159 : decode b_LAW_law 159 = .ok (.iconst 1, 1) := by decide +kernel
theorem d_LAW_law_160 : decode b_LAW_law 160 = .ok (.iadd, 1) := by decide +kernel
theorem d_LAW_law_161 : decode b_LAW_law 161 = .ok (.iaload, 1) := by decide +kernel
theorem d_LAW_law_162 : decode b_LAW_law 162 = .ok (.invokevirtual 29, 3) := by decide +kernel
theorem d_LAW_law_165 : decode b_LAW_law 165 = .ok (.if_icmp .eq 349, 3) := by decide +kernel
theorem d_LAW_law_168 : decode b_LAW_law 168 = .ok (.iconst 0, 1) := by decide +kernel
theorem d_LAW_law_169 : decode b_LAW_law 169 = .ok (.ireturn, 1) := by decide +kernel
theorem d_LAW_law_170 : decode b_LAW_law 170 = .ok (.aload_n 1, 1) := by decide +kernel
theorem d_LAW_law_171 : decode b_LAW_law 171 = .ok (.aload_n 0, 1) := by decide +kernel
theorem d_LAW_law_172 : decode b_LAW_law 172 = .ok (.iload_n 3, 1) := by decide +kernel
theorem d_LAW_law_173 : decode b_LAW_law 173 = .ok (.iconst 1, 1) := by decide +kernel
theorem d_LAW_law_174 : decode b_LAW_law 174 = .ok (.iadd, 1) := by decide +kernel
theorem d_LAW_law_175 : decode b_LAW_law 175 = .ok (.iaload, 1) := by decide +kernel
theorem d_LAW_law_176 : decode b_LAW_law 176 = .ok (.aload_n 0, 1) := by decide +kernel
theorem d_LAW_law_177 : decode b_LAW_law 177 = .ok (.iload_n 3, 1) := by decide +kernel
theorem d_LAW_law_178 : decode b_LAW_law 178 = .ok (.iconst 2, 1) := by decide +kernel
theorem d_LAW_law_179 : decode b_LAW_law 179 = .ok (.iadd, 1) := by decide +kernel
theorem d_LAW_law_180 : decode b_LAW_law 180 = .ok (.iaload, 1) := by decide +kernel
theorem d_LAW_law_181 : decode b_LAW_law 181 = .ok (.i2l, 1) := by decide +kernel
theorem d_LAW_law_182 : decode b_LAW_law 182 = .ok (.bipush 32, 2) := by decide +kernel
theorem d_LAW_law_184 : decode b_LAW_law 184 = .ok (.lshl, 1) := by decide +kernel
theorem d_LAW_law_185 : decode b_LAW_law 185 = .ok (.aload_n 0, 1) := by decide +kernel
theorem d_LAW_law_186 : decode b_LAW_law 186 = .ok (.iload_n 3, 1) := by decide +kernel
theorem d_LAW_law_187 : decode b_LAW_law 187 = .ok (.iconst 3, 1) := by decide +kernel
theorem d_LAW_law_188 : decode b_LAW_law 188 = .ok (.iadd, 1) := by decide +kernel
theorem d_LAW_law_189 : decode b_LAW_law 189 = .ok (.iaload, 1) := by decide +kernel
theorem d_LAW_law_190 : decode b_LAW_law 190 = .ok (.i2l, 1) := by decide +kernel
theorem d_LAW_law_191 : decode b_LAW_law 191 = .ok (.ldc2_w 30, 3) := by decide +kernel
theorem d_LAW_law_194 : decode b_LAW_law 194 = .ok (.land, 1) := by decide +kernel
theorem d_LAW_law_195 : decode b_LAW_law 195 = .ok (.lor, 1) := by decide +kernel
theorem d_LAW_law_196 : decode b_LAW_law 196 = .ok (.invokevirtual 32, 3) := by decide +kernel
theorem d_LAW_law_199 : decode b_LAW_law 199 = .ok (.aload_n 2, 1) := by decide +kernel
theorem d_LAW_law_200 : decode b_LAW_law 200 = .ok (.aload_n 0, 1) := by decide +kernel
theorem d_LAW_law_201 : decode b_LAW_law 201 = .ok (.iload_n 3, 1) := by decide +kernel
theorem d_LAW_law_202 : decode b_LAW_law 202 = .ok (.iconst 1, 1) := by decide +kernel
theorem d_LAW_law_203 : decode b_LAW_law 203 = .ok (.iadd, 1) := by decide +kernel
theorem d_LAW_law_204 : decode b_LAW_law 204 = .ok (.iaload, 1) := by decide +kernel
theorem d_LAW_law_205 : decode b_LAW_law 205 = .ok (.aload_n 0, 1) := by decide +kernel
theorem d_LAW_law_206 : decode b_LAW_law 206 = .ok (.iload_n 3, 1) := by decide +kernel
theorem d_LAW_law_207 : decode b_LAW_law 207 = .ok (.iconst 2, 1) := by decide +kernel
theorem d_LAW_law_208 : decode b_LAW_law 208 = .ok (.iadd, 1) := by decide +kernel
theorem d_LAW_law_209 : decode b_LAW_law 209 = .ok (.iaload, 1) := by decide +kernel
theorem d_LAW_law_210 : decode b_LAW_law 210 = .ok (.i2l, 1) := by decide +kernel
theorem d_LAW_law_211 : decode b_LAW_law 211 = .ok (.bipush 32, 2) := by decide +kernel
theorem d_LAW_law_213 : decode b_LAW_law 213 = .ok (.lshl, 1) := by decide +kernel
theorem d_LAW_law_214 : decode b_LAW_law 214 = .ok (.aload_n 0, 1) := by decide +kernel
theorem d_LAW_law_215 : decode b_LAW_law 215 = .ok (.iload_n 3, 1) := by decide +kernel
theorem d_LAW_law_216 : decode b_LAW_law 216 = .ok (.iconst 3, 1) := by decide +kernel
theorem d_LAW_law_217 : decode b_LAW_law 217 = .ok (.iadd, 1) := by decide +kernel
theorem d_LAW_law_218 : decode b_LAW_law 218 = .ok (.iaload, 1) := by decide +kernel
theorem d_LAW_law_219 : decode b_LAW_law 219 = .ok (.i2l, 1) := by decide +kernel
theorem d_LAW_law_220 : decode b_LAW_law 220 = .ok (.ldc2_w 30, 3) := by decide +kernel
theorem d_LAW_law_223 : decode b_LAW_law 223 = .ok (.land, 1) := by decide +kernel
theorem d_LAW_law_224 : decode b_LAW_law 224 = .ok (.lor, 1) := by decide +kernel
theorem d_LAW_law_225 : decode b_LAW_law 225 = .ok (.invokevirtual 36, 3) := by decide +kernel
theorem d_LAW_law_228 : decode b_LAW_law 228 = .ok (.if_icmp .eq 286, 3) := by decide +kernel
theorem d_LAW_law_231 : decode b_LAW_law 231 = .ok (.iconst 0, 1) := by decide +kernel
theorem d_LAW_law_232 : decode b_LAW_law 232 = .ok (.ireturn, 1) := by decide +kernel
theorem d_LAW_law_233 : decode b_LAW_law 233 = .ok (.aload_n 1, 1) := by decide +kernel
theorem d_LAW_law_234 : decode b_LAW_law 234 = .ok (.invokevirtual 37, 3) := by decide +kernel
theorem d_LAW_law_237 : decode b_LAW_law 237 = .ok (.aload_n 2, 1) := by decide +kernel
theorem d_LAW_law_238 : decode b_LAW_law 238 = .ok (.invokevirtual 40, 3) := by decide +kernel
theorem d_LAW_law_241 : decode b_LAW_law 241 = .ok (.goto 273, 3) := by decide +kernel
theorem d_LAW_law_244 : decode b_LAW_law 244 = .ok (.aload_n 1, 1) := by decide +kernel
theorem d_LAW_law_245 : decode b_LAW_law 245 = .ok (.aload_n 0, 1) := by decide +kernel
theorem d_LAW_law_246 : decode b_LAW_law 246 = .ok (.iload_n 3, 1) := by decide +kernel
theorem d_LAW_law_247 : decode b_LAW_law 247 = .ok (.iconst 1, 1) := by decide +kernel
theorem d_LAW_law_248 : decode b_LAW_law 248 = .ok (.iadd, 1) := by decide +kernel
theorem d_LAW_law_249 : decode b_LAW_law 249 = .ok (.iaload, 1) := by decide +kernel
theorem d_LAW_law_250 : decode b_LAW_law 250 = .ok (.invokevirtual 41, 3) := by decide +kernel
theorem d_LAW_law_253 : decode b_LAW_law 253 = .ok (.aload_n 2, 1) := by decide +kernel
theorem d_LAW_law_254 : decode b_LAW_law 254 = .ok (.aload_n 0, 1) := by decide +kernel
theorem d_LAW_law_255 : decode b_LAW_law 255 = .ok (.iload_n 3, 1) := by decide +kernel
theorem d_LAW_law_256 : decode b_LAW_law 256 = .ok (.iconst 1, 1) := by decide +kernel
theorem d_LAW_law_257 : decode b_LAW_law 257 = .ok (.iadd, 1) := by decide +kernel
theorem d_LAW_law_258 : decode b_LAW_law 258 = .ok (.iaload, 1) := by decide +kernel
theorem d_LAW_law_259 : decode b_LAW_law 259 = .ok (.invokevirtual 45, 3) := by decide +kernel
theorem d_LAW_law_262 : decode b_LAW_law 262 = .ok (.if_icmp .eq 252, 3) := by decide +kernel
theorem d_LAW_law_265 : decode b_LAW_law 265 = .ok (.iconst 0, 1) := by decide +kernel
theorem d_LAW_law_266 : decode b_LAW_law 266 = .ok (.ireturn, 1) := by decide +kernel
theorem d_LAW_law_267 : decode b_LAW_law 267 = .ok (.aload_n 1, 1) := by decide +kernel
theorem d_LAW_law_268 : decode b_LAW_law 268 = .ok (.aload_n 0, 1) := by decide +kernel
theorem d_LAW_law_269 : decode b_LAW_law 269 = .ok (.iload_n 3, 1) := by decide +kernel
theorem d_LAW_law_270 : decode b_LAW_law 270 = .ok (.iconst 1, 1) := by decide +kernel
theorem d_LAW_law_271 : decode b_LAW_law 271 = .ok (.iadd, 1) := by decide +kernel
theorem d_LAW_law_272 : decode b_LAW_law 272 = .ok (.iaload, 1) := by decide +kernel
theorem d_LAW_law_273 : decode b_LAW_law 273 = .ok (.invokevirtual 46, 3) := by decide +kernel
theorem d_LAW_law_276 : decode b_LAW_law 276 = .ok (.aload_n 2, 1) := by decide +kernel
theorem d_LAW_law_277 : decode b_LAW_law 277 = .ok (.aload_n 0, 1) := by decide +kernel
theorem d_LAW_law_278 : decode b_LAW_law 278 = .ok (.iload_n 3, 1) := by decide +kernel
theorem d_LAW_law_279 : decode b_LAW_law 279 = .ok (.iconst 1, 1) := by decide +kernel
theorem d_LAW_law_280 : decode b_LAW_law 280 = .ok (.iadd, 1) := by decide +kernel
theorem d_LAW_law_281 : decode b_LAW_law 281 = .ok (.iaload, 1) := by decide +kernel
theorem d_LAW_law_282 : decode b_LAW_law 282 = .ok (.invokevirtual 49, 3) := by decide +kernel
theorem d_LAW_law_285 : decode b_LAW_law 285 = .ok (.if_icmp .eq 229, 3) := by decide +kernel
theorem d_LAW_law_288 : decode b_LAW_law 288 = .ok (.iconst 0, 1) := by decide +kernel
theorem d_LAW_law_289 : decode b_LAW_law 289 = .ok (.ireturn, 1) := by decide +kernel
theorem d_LAW_law_290 : decode b_LAW_law 290 = .ok (.aload_n 1, 1) := by decide +kernel
theorem d_LAW_law_291 : decode b_LAW_law 291 = .ok (.aload_n 0, 1) := by decide +kernel
theorem d_LAW_law_292 : decode b_LAW_law 292 = .ok (.iload_n 3, 1) := by decide +kernel
theorem d_LAW_law_293 : decode b_LAW_law 293 = .ok (.iconst 1, 1) := by decide +kernel
theorem d_LAW_law_294 : decode b_LAW_law 294 = .ok (.iadd, 1) := by decide +kernel
theorem d_LAW_law_295 : decode b_LAW_law 295 = .ok (.iaload, 1) := by decide +kernel
theorem d_LAW_law_296 : decode b_LAW_law 296 = .ok (.invokevirtual 50, 3) := by decide +kernel
theorem d_LAW_law_299 : decode b_LAW_law 299 = .ok (.aload_n 2, 1) := by decide +kernel
theorem d_LAW_law_300 : decode b_LAW_law 300 = .ok (.aload_n 0, 1) := by decide +kernel
theorem d_LAW_law_301 : decode b_LAW_law 301 = .ok (.iload_n 3, 1) := by decide +kernel
theorem d_LAW_law_302 : decode b_LAW_law 302 = .ok (.iconst 1, 1) := by decide +kernel
theorem d_LAW_law_303 : decode b_LAW_law 303 = .ok (.iadd, 1) := by decide +kernel
theorem d_LAW_law_304 : decode b_LAW_law 304 = .ok (.iaload, 1) := by decide +kernel
theorem d_LAW_law_305 : decode b_LAW_law 305 = .ok (.invokevirtual 53, 3) := by decide +kernel
theorem d_LAW_law_308 : decode b_LAW_law 308 = .ok (.if_icmp .eq 206, 3) := by decide +kernel
theorem d_LAW_law_311 : decode b_LAW_law 311 = .ok (.iconst 0, 1) := by decide +kernel
theorem d_LAW_law_312 : decode b_LAW_law 312 = .ok (.ireturn, 1) := by decide +kernel
theorem d_LAW_law_313 : decode b_LAW_law 313 = .ok (.aload_n 1, 1) := by decide +kernel
theorem d_LAW_law_314 : decode b_LAW_law 314 = .ok (.invokevirtual 54, 3) := by decide +kernel
theorem d_LAW_law_317 : decode b_LAW_law 317 = .ok (.aload_n 2, 1) := by decide +kernel
theorem d_LAW_law_318 : decode b_LAW_law 318 = .ok (.invokevirtual 58, 3) := by decide +kernel
theorem d_LAW_law_321 : decode b_LAW_law 321 = .ok (.if_icmp .eq 193, 3) := by decide +kernel
theorem d_LAW_law_324 : decode b_LAW_law 324 = .ok (.iconst 0, 1) := by decide +kernel
theorem d_LAW_law_325 : decode b_LAW_law 325 = .ok (.ireturn, 1) := by decide +kernel
theorem d_LAW_law_326 : decode b_LAW_law 326 = .ok (.aload_n 1, 1) := by decide +kernel
theorem d_LAW_law_327 : decode b_LAW_law 327 = .ok (.aload_n 0, 1) := by decide +kernel
theorem d_LAW_law_328 : decode b_LAW_law 328 = .ok (.iload_n 3, 1) := by decide +kernel
theorem d_LAW_law_329 : decode b_LAW_law 329 = .ok (.iconst 1, 1) := by decide +kernel
theorem d_LAW_law_330 : decode b_LAW_law 330 = .ok (.iadd, 1) := by decide +kernel
theorem d_LAW_law_331 : decode b_LAW_law 331 = .ok (.iaload, 1) := by decide +kernel
theorem d_LAW_law_332 : decode b_LAW_law 332 = .ok (.invokevirtual 59, 3) := by decide +kernel
theorem d_LAW_law_335 : decode b_LAW_law 335 = .ok (.aload_n 2, 1) := by decide +kernel
theorem d_LAW_law_336 : decode b_LAW_law 336 = .ok (.aload_n 0, 1) := by decide +kernel
theorem d_LAW_law_337 : decode b_LAW_law 337 = .ok (.iload_n 3, 1) := by decide +kernel
theorem d_LAW_law_338 : decode b_LAW_law 338 = .ok (.iconst 1, 1) := by decide +kernel
theorem d_LAW_law_339 : decode b_LAW_law 339 = .ok (.iadd, 1) := by decide +kernel
theorem d_LAW_law_340 : decode b_LAW_law 340 = .ok (.iaload, 1) := by decide +kernel
theorem d_LAW_law_341 : decode b_LAW_law 341 = .ok (.invokevirtual 62, 3) := by decide +kernel
theorem d_LAW_law_344 : decode b_LAW_law 344 = .ok (.if_icmp .eq 170, 3) := by decide +kernel
theorem d_LAW_law_347 : decode b_LAW_law 347 = .ok (.iconst 0, 1) := by decide +kernel
theorem d_LAW_law_348 : decode b_LAW_law 348 = .ok (.ireturn, 1) := by decide +kernel
theorem d_LAW_law_349 : decode b_LAW_law 349 = .ok (.aload_n 1, 1) := by decide +kernel
theorem d_LAW_law_350 : decode b_LAW_law 350 = .ok (.aload_n 0, 1) := by decide +kernel
theorem d_LAW_law_351 : decode b_LAW_law 351 = .ok (.iload_n 3, 1) := by decide +kernel
theorem d_LAW_law_352 : decode b_LAW_law 352 = .ok (.iconst 1, 1) := by decide +kernel
theorem d_LAW_law_353 : decode b_LAW_law 353 = .ok (.iadd, 1) := by decide +kernel
theorem d_LAW_law_354 : decode b_LAW_law 354 = .ok (.iaload, 1) := by decide +kernel
theorem d_LAW_law_355 : decode b_LAW_law 355 = .ok (.aload_n 0, 1) := by decide +kernel
theorem d_LAW_law_356 : decode b_LAW_law 356 = .ok (.iload_n 3, 1) := by decide +kernel
theorem d_LAW_law_357 : decode b_LAW_law 357 = .ok (.iconst 2, 1) := by decide +kernel
theorem d_LAW_law_358 : decode b_LAW_law 358 = .ok (.iadd, 1) := by decide +kernel
theorem d_LAW_law_359 : decode b_LAW_law 359 = .ok (.iaload, 1) := by decide +kernel
theorem d_LAW_law_360 : decode b_LAW_law 360 = .ok (.aload_n 0, 1) := by decide +kernel
theorem d_LAW_law_361 : decode b_LAW_law 361 = .ok (.iload_n 3, 1) := by decide +kernel
theorem d_LAW_law_362 : decode b_LAW_law 362 = .ok (.iconst 3, 1) := by decide +kernel
theorem d_LAW_law_363 : decode b_LAW_law 363 = .ok (.iadd, 1) := by decide +kernel
theorem d_LAW_law_364 : decode b_LAW_law 364 = .ok (.iaload, 1) := by decide +kernel
theorem d_LAW_law_365 : decode b_LAW_law 365 = .ok (.invokevirtual 63, 3) := by decide +kernel
theorem d_LAW_law_368 : decode b_LAW_law 368 = .ok (.aload_n 2, 1) := by decide +kernel
theorem d_LAW_law_369 : decode b_LAW_law 369 = .ok (.aload_n 0, 1) := by decide +kernel
theorem d_LAW_law_370 : decode b_LAW_law 370 = .ok (.iload_n 3, 1) := by decide +kernel
theorem d_LAW_law_371 : decode b_LAW_law 371 = .ok (.iconst 1, 1) := by decide +kernel
theorem d_LAW_law_372 : decode b_LAW_law 372 = .ok (.iadd, 1) := by decide +kernel
theorem d_LAW_law_373 : decode b_LAW_law 373 = .ok (.iaload, 1) := by decide +kernel
theorem d_LAW_law_374 : decode b_LAW_law 374 = .ok (.aload_n 0, 1) := by decide +kernel
theorem d_LAW_law_375 : decode b_LAW_law 375 = .ok (.iload_n 3, 1) := by decide +kernel
theorem d_LAW_law_376 : decode b_LAW_law 376 = .ok (.iconst 2, 1) := by decide +kernel
theorem d_LAW_law_377 : decode b_LAW_law 377 = .ok (.iadd, 1) := by decide +kernel
theorem d_LAW_law_378 : decode b_LAW_law 378 = .ok (.iaload, 1) := by decide +kernel
theorem d_LAW_law_379 : decode b_LAW_law 379 = .ok (.aload_n 0, 1) := by decide +kernel
theorem d_LAW_law_380 : decode b_LAW_law 380 = .ok (.iload_n 3, 1) := by decide +kernel
theorem d_LAW_law_381 : decode b_LAW_law 381 = .ok (.iconst 3, 1) := by decide +kernel
theorem d_LAW_law_382 : decode b_LAW_law 382 = .ok (.iadd, 1) := by decide +kernel
theorem d_LAW_law_383 : decode b_LAW_law 383 = .ok (.iaload, 1) := by decide +kernel
theorem d_LAW_law_384 : decode b_LAW_law 384 = .ok (.invokevirtual 67, 3) := by decide +kernel
theorem d_LAW_law_387 : decode b_LAW_law 387 = .ok (.if_icmp .eq 127, 3) := by decide +kernel
theorem d_LAW_law_390 : decode b_LAW_law 390 = .ok (.iconst 0, 1) := by decide +kernel
theorem d_LAW_law_391 : decode b_LAW_law 391 = .ok (.ireturn, 1) := by decide +kernel
theorem d_LAW_law_392 : decode b_LAW_law 392 = .ok (.aload_n 1, 1) := by decide +kernel
theorem d_LAW_law_393 : decode b_LAW_law 393 = .ok (.aload_n 0, 1) := by decide +kernel
theorem d_LAW_law_394 : decode b_LAW_law 394 = .ok (.iload_n 3, 1) := by decide +kernel
theorem d_LAW_law_395 : decode b_LAW_law 395 = .ok (.iconst 1, 1) := by decide +kernel
theorem d_LAW_law_396 : decode b_LAW_law 396 = .ok (.iadd, 1) := by decide +kernel
theorem d_LAW_law_397 : decode b_LAW_law 397 = .ok (.iaload, 1) := by decide +kernel
theorem d_LAW_law_398 : decode b_LAW_law 398 = .ok (.aload_n 0, 1) := by decide +kernel
theorem d_LAW_law_399 : decode b_LAW_law 399 = .ok (.iload_n 3, 1) := by decide +kernel
theorem d_LAW_law_400 : decode b_LAW_law 400 = .ok (.iconst 2, 1) := by decide +kernel
theorem d_LAW_law_401 : decode b_LAW_law 401 = .ok (.iadd, 1) := by decide +kernel
theorem d_LAW_law_402 : decode b_LAW_law 402 = .ok (.iaload, 1) := by decide +kernel
theorem d_LAW_law_403 : decode b_LAW_law 403 = .ok (.invokevirtual 68, 3) := by decide +kernel
theorem d_LAW_law_406 : decode b_LAW_law 406 = .ok (.aload_n 2, 1) := by decide +kernel
theorem d_LAW_law_407 : decode b_LAW_law 407 = .ok (.aload_n 0, 1) := by decide +kernel
theorem d_LAW_law_408 : decode b_LAW_law 408 = .ok (.iload_n 3, 1) := by decide +kernel
theorem d_LAW_law_409 : decode b_LAW_law 409 = .ok (.iconst 1, 1) := by decide +kernel
theorem d_LAW_law_410 : decode b_LAW_law 410 = .ok (.iadd, 1) := by decide +kernel
theorem d_LAW_law_411 : decode b_LAW_law 411 = .ok (.iaload, 1) := by decide +kernel
theorem d_LAW_law_412 : decode b_LAW_law 412 = .ok (.aload_n 0, 1) := by decide +kernel
theorem d_LAW_law_413 : decode b_LAW_law 413 = .ok (.iload_n 3, 1) := by decide +kernel
theorem d_LAW_law_414 : decode b_LAW_law 414 = .ok (.iconst 2, 1) := by decide +kernel
theorem d_LAW_law_415 : decode b_LAW_law 415 = .ok (.iadd, 1) := by decide +kernel
theorem d_LAW_law_416 : decode b_LAW_law 416 = .ok (.iaload, 1) := by decide +kernel
theorem d_LAW_law_417 : decode b_LAW_law 417 = .ok (.invokevirtual 72, 3) := by decide +kernel
theorem d_LAW_law_420 : decode b_LAW_law 420 = .ok (.if_icmp .eq 94, 3) := by decide +kernel
theorem d_LAW_law_423 : decode b_LAW_law 423 = .ok (.iconst 0, 1) := by decide +kernel
theorem d_LAW_law_424 : decode b_LAW_law 424 = .ok (.ireturn, 1) := by decide +kernel
theorem d_LAW_law_425 : decode b_LAW_law 425 = .ok (.aload_n 1, 1) := by decide +kernel
theorem d_LAW_law_426 : decode b_LAW_law 426 = .ok (.aload_n 0, 1) := by decide +kernel
theorem d_LAW_law_427 : decode b_LAW_law 427 = .ok (.iload_n 3, 1) := by decide +kernel
theorem d_LAW_law_428 : decode b_LAW_law 428 = .ok (.iconst 1, 1) := by decide +kernel
theorem d_LAW_law_429 : decode b_LAW_law 429 = .ok (.iadd, 1) := by decide +kernel
theorem d_LAW_law_430 : decode b_LAW_law 430 = .ok (.iaload, 1) := by decide +kernel
theorem d_LAW_law_431 : decode b_LAW_law 431 = .ok (.aload_n 0, 1) := by decide +kernel
theorem d_LAW_law_432 : decode b_LAW_law 432 = .ok (.iload_n 3, 1) := by decide +kernel
theorem d_LAW_law_433 : decode b_LAW_law 433 = .ok (.iconst 2, 1) := by decide +kernel
theorem d_LAW_law_434 : decode b_LAW_law 434 = .ok (.iadd, 1) := by decide +kernel
theorem d_LAW_law_435 : decode b_LAW_law 435 = .ok (.iaload, 1) := by decide +kernel
theorem d_LAW_law_436 : decode b_LAW_law 436 = .ok (.invokevirtual 73, 3) := by decide +kernel
theorem d_LAW_law_439 : decode b_LAW_law 439 = .ok (.aload_n 2, 1) := by decide +kernel
theorem d_LAW_law_440 : decode b_LAW_law 440 = .ok (.aload_n 0, 1) := by decide +kernel
theorem d_LAW_law_441 : decode b_LAW_law 441 = .ok (.iload_n 3, 1) := by decide +kernel
theorem d_LAW_law_442 : decode b_LAW_law 442 = .ok (.iconst 1, 1) := by decide +kernel
theorem d_LAW_law_443 : decode b_LAW_law 443 = .ok (.iadd, 1) := by decide +kernel
theorem d_LAW_law_444 : decode b_LAW_law 444 = .ok (.iaload, 1) := by decide +kernel
theorem d_LAW_law_445 : decode b_LAW_law 445 = .ok (.aload_n 0, 1) := by decide +kernel
theorem d_LAW_law_446 : decode b_LAW_law 446 = .ok (.iload_n 3, 1) := by decide +kernel
theorem d_LAW_law_447 : decode b_LAW_law 447 = .ok (.iconst 2, 1) := by decide +kernel
theorem d_LAW_law_448 : decode b_LAW_law 448 = .ok (.iadd, 1) := by decide +kernel
theorem d_LAW_law_449 : decode b_LAW_law 449 = .ok (.iaload, 1) := by decide +kernel
theorem d_LAW_law_450 : decode b_LAW_law 450 = .ok (.invokevirtual 76, 3) := by decide +kernel
theorem d_LAW_law_453 : decode b_LAW_law 453 = .ok (.if_icmp .eq 61, 3) := by decide +kernel
theorem d_LAW_law_456 : decode b_LAW_law 456 = .ok (.iconst 0, 1) := by decide +kernel
theorem d_LAW_law_457 : decode b_LAW_law 457 = .ok (.ireturn, 1) := by decide +kernel
theorem d_LAW_law_458 : decode b_LAW_law 458 = .ok (.aload_n 1, 1) := by decide +kernel
theorem d_LAW_law_459 : decode b_LAW_law 459 = .ok (.aload_n 0, 1) := by decide +kernel
theorem d_LAW_law_460 : decode b_LAW_law 460 = .ok (.iload_n 3, 1) := by decide +kernel
theorem d_LAW_law_461 : decode b_LAW_law 461 = .ok (.iconst 1, 1) := by decide +kernel
theorem d_LAW_law_462 : decode b_LAW_law 462 = .ok (.iadd, 1) := by decide +kernel
theorem d_LAW_law_463 : decode b_LAW_law 463 = .ok (.iaload, 1) := by decide +kernel
theorem d_LAW_law_464 : decode b_LAW_law 464 = .ok (.aload_n 0, 1) := by decide +kernel
theorem d_LAW_law_465 : decode b_LAW_law 465 = .ok (.iload_n 3, 1) := by decide +kernel
theorem d_LAW_law_466 : decode b_LAW_law 466 = .ok (.iconst 2, 1) := by decide +kernel
theorem d_LAW_law_467 : decode b_LAW_law 467 = .ok (.iadd, 1) := by decide +kernel
theorem d_LAW_law_468 : decode b_LAW_law 468 = .ok (.iaload, 1) := by decide +kernel
theorem d_LAW_law_469 : decode b_LAW_law 469 = .ok (.invokevirtual 77, 3) := by decide +kernel
theorem d_LAW_law_472 : decode b_LAW_law 472 = .ok (.aload_n 2, 1) := by decide +kernel
theorem d_LAW_law_473 : decode b_LAW_law 473 = .ok (.aload_n 0, 1) := by decide +kernel
theorem d_LAW_law_474 : decode b_LAW_law 474 = .ok (.iload_n 3, 1) := by decide +kernel
theorem d_LAW_law_475 : decode b_LAW_law 475 = .ok (.iconst 1, 1) := by decide +kernel
theorem d_LAW_law_476 : decode b_LAW_law 476 = .ok (.iadd, 1) := by decide +kernel
theorem d_LAW_law_477 : decode b_LAW_law 477 = .ok (.iaload, 1) := by decide +kernel
theorem d_LAW_law_478 : decode b_LAW_law 478 = .ok (.aload_n 0, 1) := by decide +kernel
theorem d_LAW_law_479 : decode b_LAW_law 479 = .ok (.iload_n 3, 1) := by decide +kernel
theorem d_LAW_law_480 : decode b_LAW_law 480 = .ok (.iconst 2, 1) := by decide +kernel
theorem d_LAW_law_481 : decode b_LAW_law 481 = .ok (.iadd, 1) := by decide +kernel
theorem d_LAW_law_482 : decode b_LAW_law 482 = .ok (.iaload, 1) := by decide +kernel
theorem d_LAW_law_483 : decode b_LAW_law 483 = .ok (.invokevirtual 80, 3) := by decide +kernel
theorem d_LAW_law_486 : decode b_LAW_law 486 = .ok (.if_icmp .eq 28, 3) := by decide +kernel
theorem d_LAW_law_489 : decode b_LAW_law 489 = .ok (.iconst 0, 1) := by decide +kernel
theorem d_LAW_law_490 : decode b_LAW_law 490 = .ok (.ireturn, 1) := by decide +kernel
theorem d_LAW_law_491 : decode b_LAW_law 491 = .ok (.aload_n 1, 1) := by decide +kernel
theorem d_LAW_law_492 : decode b_LAW_law 492 = .ok (.aload_n 0, 1) := by decide +kernel
theorem d_LAW_law_493 : decode b_LAW_law 493 = .ok (.iload_n 3, 1) := by decide +kernel
theorem d_LAW_law_494 : decode b_LAW_law 494 = .ok (.iconst 1, 1) := by decide +kernel
theorem d_LAW_law_495 : decode b_LAW_law 495 = .ok (.iadd, 1) := by decide +kernel
theorem d_LAW_law_496 : decode b_LAW_law 496 = .ok (.iaload, 1) := by decide +kernel
theorem d_LAW_law_497 : decode b_LAW_law 497 = .ok (.invokevirtual 81, 3) := by decide +kernel
theorem d_LAW_law_500 : decode b_LAW_law 500 = .ok (.aload_n 2, 1) := by decide +kernel
theorem d_LAW_law_501 : decode b_LAW_law 501 = .ok (.aload_n 0, 1) := by decide +kernel
theorem d_LAW_law_502 : decode b_LAW_law 502 = .ok (.iload_n 3, 1) := by decide +kernel
theorem d_LAW_law_503 : decode b_LAW_law 503 = .ok (.iconst 1, 1) := by decide +kernel
theorem d_LAW_law_504 : decode b_LAW_law 504 = .ok (.iadd, 1) := by decide +kernel
theorem d_LAW_law_505 : decode b_LAW_law 505 = .ok (.iaload, 1) := by decide +kernel
theorem d_LAW_law_506 : decode b_LAW_law 506 = .ok (.invokevirtual 84, 3) := by decide +kernel
theorem d_LAW_law_509 : decode b_LAW_law 509 = .ok (.if_icmp .eq 5, 3) := by decide +kernel
theorem d_LAW_law_512 : decode b_LAW_law 512 = .ok (.iconst 0, 1) := by decide +kernel
theorem d_LAW_law_513 : decode b_LAW_law 513 = .ok (.ireturn, 1) := by decide +kernel
theorem d_LAW_law_514 : decode b_LAW_law 514 = .ok (.iinc 3 4, 3) := by decide +kernel
theorem d_LAW_law_517 : decode b_LAW_law 517 = .ok (.goto (-479), 3) := by decide +kernel
theorem d_LAW_law_520 : decode b_LAW_law 520 = .ok (.iconst 1, 1) := by decide +kernel
theorem d_LAW_law_521 : decode b_LAW_law 521 = .ok (.ireturn, 1) := by decide +kernel
def l_LAW (L : Nat) (xs : Nat → Int32) (rec : cz_M → cz_M → Int32 → Option Int32) (M m1 : cz_M) (v3 : Int32) : Option Int32 :=
  (if ((Int32.ofNat L) - (4 : Int32)) < v3 then some (1 : Int32) else (if v3 < 0 ∨ L ≤ v3.toNatClampNeg then none else (if ((xs v3.toNatClampNeg) &&& (15 : Int32)) = (0 : Int32) then ((if (v3 + (1 : Int32)) < 0 ∨ L ≤ (v3 + (1 : Int32)).toNatClampNeg then none else (cz_bi (f_CP_open M (xs (v3 + (1 : Int32)).toNatClampNeg)) (fun r130 M130 => (if (v3 + (1 : Int32)) < 0 ∨ L ≤ (v3 + (1 : Int32)).toNatClampNeg then none else (cz_bi (f_MO_open m1 (xs (v3 + (1 : Int32)).toNatClampNeg)) (fun r139 m139 => (if r130 = r139 then (rec M130 m139 (v3 + 4)) else some (0 : Int32)))))))))
  else (if ((xs v3.toNatClampNeg) &&& (15 : Int32)) = (1 : Int32) then ((if (v3 + (1 : Int32)) < 0 ∨ L ≤ (v3 + (1 : Int32)).toNatClampNeg then none else (cz_bi (f_CP_close M (xs (v3 + (1 : Int32)).toNatClampNeg)) (fun r153 M153 => (if (v3 + (1 : Int32)) < 0 ∨ L ≤ (v3 + (1 : Int32)).toNatClampNeg then none else (cz_bi (f_MO_close m1 (xs (v3 + (1 : Int32)).toNatClampNeg)) (fun r162 m162 => (if r153 = r162 then (rec M153 m162 (v3 + 4)) else some (0 : Int32)))))))))
  else (if ((xs v3.toNatClampNeg) &&& (15 : Int32)) = (2 : Int32) then ((if (v3 + (1 : Int32)) < 0 ∨ L ≤ (v3 + (1 : Int32)).toNatClampNeg then none else (if (v3 + (2 : Int32)) < 0 ∨ L ≤ (v3 + (2 : Int32)).toNatClampNeg then none else (if (v3 + (3 : Int32)) < 0 ∨ L ≤ (v3 + (3 : Int32)).toNatClampNeg then none else (cz_bi (f_CP_put M (xs (v3 + (1 : Int32)).toNatClampNeg) ((cz_lshl ((xs (v3 + (2 : Int32)).toNatClampNeg).toInt64) (32 : Int32)) ||| (((xs (v3 + (3 : Int32)).toNatClampNeg).toInt64) &&& (4294967295 : Int64)))) (fun r196 M196 => (if (v3 + (1 : Int32)) < 0 ∨ L ≤ (v3 + (1 : Int32)).toNatClampNeg then none else (if (v3 + (2 : Int32)) < 0 ∨ L ≤ (v3 + (2 : Int32)).toNatClampNeg then none else (if (v3 + (3 : Int32)) < 0 ∨ L ≤ (v3 + (3 : Int32)).toNatClampNeg then none else (cz_bi (f_MO_put m1 (xs (v3 + (1 : Int32)).toNatClampNeg) ((cz_lshl ((xs (v3 + (2 : Int32)).toNatClampNeg).toInt64) (32 : Int32)) ||| (((xs (v3 + (3 : Int32)).toNatClampNeg).toInt64) &&& (4294967295 : Int64)))) (fun r225 m225 => (if r196 = r225 then (rec M196 m225 (v3 + 4)) else some (0 : Int32)))))))))))))
  else (if ((xs v3.toNatClampNeg) &&& (15 : Int32)) = (3 : Int32) then ((cz_bv (f_CP_clear M) (fun M234 => (cz_bv (f_MO_clear m1) (fun m238 => rec M234 m238 (v3 + 4))))))
  else (if ((xs v3.toNatClampNeg) &&& (15 : Int32)) = (4 : Int32) then ((if (v3 + (1 : Int32)) < 0 ∨ L ≤ (v3 + (1 : Int32)).toNatClampNeg then none else (cz_bi (f_CP_wire M (xs (v3 + (1 : Int32)).toNatClampNeg)) (fun r250 M250 => (if (v3 + (1 : Int32)) < 0 ∨ L ≤ (v3 + (1 : Int32)).toNatClampNeg then none else (cz_bi (f_MO_wire m1 (xs (v3 + (1 : Int32)).toNatClampNeg)) (fun r259 m259 => (if r250 = r259 then (rec M250 m259 (v3 + 4)) else some (0 : Int32)))))))))
  else (if ((xs v3.toNatClampNeg) &&& (15 : Int32)) = (5 : Int32) then ((if (v3 + (1 : Int32)) < 0 ∨ L ≤ (v3 + (1 : Int32)).toNatClampNeg then none else (cz_bi (f_CP_receive M (xs (v3 + (1 : Int32)).toNatClampNeg)) (fun r273 M273 => (if (v3 + (1 : Int32)) < 0 ∨ L ≤ (v3 + (1 : Int32)).toNatClampNeg then none else (cz_bi (f_MO_receive m1 (xs (v3 + (1 : Int32)).toNatClampNeg)) (fun r282 m282 => (if r273 = r282 then (rec M273 m282 (v3 + 4)) else some (0 : Int32)))))))))
  else (if ((xs v3.toNatClampNeg) &&& (15 : Int32)) = (6 : Int32) then ((if (v3 + (1 : Int32)) < 0 ∨ L ≤ (v3 + (1 : Int32)).toNatClampNeg then none else (cz_bi (f_CP_send M (xs (v3 + (1 : Int32)).toNatClampNeg)) (fun r296 M296 => (if (v3 + (1 : Int32)) < 0 ∨ L ≤ (v3 + (1 : Int32)).toNatClampNeg then none else (cz_bi (f_MO_send m1 (xs (v3 + (1 : Int32)).toNatClampNeg)) (fun r305 m305 => (if r296 = r305 then (rec M296 m305 (v3 + 4)) else some (0 : Int32)))))))))
  else (if ((xs v3.toNatClampNeg) &&& (15 : Int32)) = (7 : Int32) then ((cz_bi (f_CP_work M) (fun r314 M314 => (cz_bi (f_MO_work m1) (fun r318 m318 => (if r314 = r318 then (rec M314 m318 (v3 + 4)) else some (0 : Int32)))))))
  else (if ((xs v3.toNatClampNeg) &&& (15 : Int32)) = (8 : Int32) then ((if (v3 + (1 : Int32)) < 0 ∨ L ≤ (v3 + (1 : Int32)).toNatClampNeg then none else (cz_bi (f_CP_tick M (xs (v3 + (1 : Int32)).toNatClampNeg)) (fun r332 M332 => (if (v3 + (1 : Int32)) < 0 ∨ L ≤ (v3 + (1 : Int32)).toNatClampNeg then none else (cz_bi (f_MO_tick m1 (xs (v3 + (1 : Int32)).toNatClampNeg)) (fun r341 m341 => (if r332 = r341 then (rec M332 m341 (v3 + 4)) else some (0 : Int32)))))))))
  else (if ((xs v3.toNatClampNeg) &&& (15 : Int32)) = (9 : Int32) then ((if (v3 + (1 : Int32)) < 0 ∨ L ≤ (v3 + (1 : Int32)).toNatClampNeg then none else (if (v3 + (2 : Int32)) < 0 ∨ L ≤ (v3 + (2 : Int32)).toNatClampNeg then none else (if (v3 + (3 : Int32)) < 0 ∨ L ≤ (v3 + (3 : Int32)).toNatClampNeg then none else (cz_bi (f_CP_seal M (xs (v3 + (1 : Int32)).toNatClampNeg) (xs (v3 + (2 : Int32)).toNatClampNeg) (xs (v3 + (3 : Int32)).toNatClampNeg)) (fun r365 M365 => (if (v3 + (1 : Int32)) < 0 ∨ L ≤ (v3 + (1 : Int32)).toNatClampNeg then none else (if (v3 + (2 : Int32)) < 0 ∨ L ≤ (v3 + (2 : Int32)).toNatClampNeg then none else (if (v3 + (3 : Int32)) < 0 ∨ L ≤ (v3 + (3 : Int32)).toNatClampNeg then none else (cz_bi (f_MO_seal m1 (xs (v3 + (1 : Int32)).toNatClampNeg) (xs (v3 + (2 : Int32)).toNatClampNeg) (xs (v3 + (3 : Int32)).toNatClampNeg)) (fun r384 m384 => (if r365 = r384 then (rec M365 m384 (v3 + 4)) else some (0 : Int32)))))))))))))
  else (if ((xs v3.toNatClampNeg) &&& (15 : Int32)) = (10 : Int32) then ((if (v3 + (1 : Int32)) < 0 ∨ L ≤ (v3 + (1 : Int32)).toNatClampNeg then none else (if (v3 + (2 : Int32)) < 0 ∨ L ≤ (v3 + (2 : Int32)).toNatClampNeg then none else (cz_bi (f_CP_peer M (xs (v3 + (1 : Int32)).toNatClampNeg) (xs (v3 + (2 : Int32)).toNatClampNeg)) (fun r403 M403 => (if (v3 + (1 : Int32)) < 0 ∨ L ≤ (v3 + (1 : Int32)).toNatClampNeg then none else (if (v3 + (2 : Int32)) < 0 ∨ L ≤ (v3 + (2 : Int32)).toNatClampNeg then none else (cz_bi (f_MO_peer m1 (xs (v3 + (1 : Int32)).toNatClampNeg) (xs (v3 + (2 : Int32)).toNatClampNeg)) (fun r417 m417 => (if r403 = r417 then (rec M403 m417 (v3 + 4)) else some (0 : Int32)))))))))))
  else (if ((xs v3.toNatClampNeg) &&& (15 : Int32)) = (11 : Int32) then ((if (v3 + (1 : Int32)) < 0 ∨ L ≤ (v3 + (1 : Int32)).toNatClampNeg then none else (if (v3 + (2 : Int32)) < 0 ∨ L ≤ (v3 + (2 : Int32)).toNatClampNeg then none else (cz_bi (f_CP_block M (xs (v3 + (1 : Int32)).toNatClampNeg) (xs (v3 + (2 : Int32)).toNatClampNeg)) (fun r436 M436 => (if (v3 + (1 : Int32)) < 0 ∨ L ≤ (v3 + (1 : Int32)).toNatClampNeg then none else (if (v3 + (2 : Int32)) < 0 ∨ L ≤ (v3 + (2 : Int32)).toNatClampNeg then none else (cz_bi (f_MO_block m1 (xs (v3 + (1 : Int32)).toNatClampNeg) (xs (v3 + (2 : Int32)).toNatClampNeg)) (fun r450 m450 => (if r436 = r450 then (rec M436 m450 (v3 + 4)) else some (0 : Int32)))))))))))
  else (if ((xs v3.toNatClampNeg) &&& (15 : Int32)) = (12 : Int32) then ((if (v3 + (1 : Int32)) < 0 ∨ L ≤ (v3 + (1 : Int32)).toNatClampNeg then none else (if (v3 + (2 : Int32)) < 0 ∨ L ≤ (v3 + (2 : Int32)).toNatClampNeg then none else (cz_bi (f_CP_tx M (xs (v3 + (1 : Int32)).toNatClampNeg) (xs (v3 + (2 : Int32)).toNatClampNeg)) (fun r469 M469 => (if (v3 + (1 : Int32)) < 0 ∨ L ≤ (v3 + (1 : Int32)).toNatClampNeg then none else (if (v3 + (2 : Int32)) < 0 ∨ L ≤ (v3 + (2 : Int32)).toNatClampNeg then none else (cz_bi (f_MO_tx m1 (xs (v3 + (1 : Int32)).toNatClampNeg) (xs (v3 + (2 : Int32)).toNatClampNeg)) (fun r483 m483 => (if r469 = r483 then (rec M469 m483 (v3 + 4)) else some (0 : Int32)))))))))))
  else (if ((xs v3.toNatClampNeg) &&& (15 : Int32)) = (13 : Int32) then ((if (v3 + (1 : Int32)) < 0 ∨ L ≤ (v3 + (1 : Int32)).toNatClampNeg then none else (cz_bi (f_CP_state M (xs (v3 + (1 : Int32)).toNatClampNeg)) (fun r497 M497 => (if (v3 + (1 : Int32)) < 0 ∨ L ≤ (v3 + (1 : Int32)).toNatClampNeg then none else (cz_bi (f_MO_state m1 (xs (v3 + (1 : Int32)).toNatClampNeg)) (fun r506 m506 => (if r497 = r506 then (rec M497 m506 (v3 + 4)) else some (0 : Int32)))))))))
  else (rec M m1 (v3 + 4))))))))))))))))))
set_option maxHeartbeats 8000000 in
set_option maxRecDepth 100000 in
theorem lw_loop {p : Program} {l : Launch} {e : Env} {s : State} {m : MethodId} {below : List Frame} {meth : Method} {c : Code} {b L : Nat} {xs : Nat → Int32} {X Y : cz_X} (G : lw_G p s m c b L xs X Y) (hr : meth.sig.returnType = ret) (hlocks : meth.locks = false) : ∀ (n : Nat) (M m1 : cz_M) (v3 : Int32), cz_lp3 (l_LAW L xs) n M m1 v3 = some 1 → ∀ (H : Heap) (ls : Array Slot), lw_I s X Y M m1 H → lv_has ls 4 [(0, .ref b), (1, .ref (X.2.1 0)), (2, .ref (Y.2.1 0)), (3, .int v3)] → W p l e room_1 s m #[Value.ref b] below meth c H [] 600000 7302250 (lw_Z below #[Value.ref b] s) (F0 m 38 ls []) := by
  have hx := G.1.1.1
  have hb : c.code = code := G.1.1.2.1
  refine cz_ind3 (fun rec ih M m1 v3 h H ls hI hl => ?_)
  refine lv_iload_n hx hb d_LAW_law_38 rfl (lv_at hl 3 rfl) ?_
  refine lv_aload_n hx hb d_LAW_law_39 rfl (lv_at hl 0 rfl) ?_
  refine lw_ln G hI d_LAW_law_40 ?_
  refine lv_iconst (v := 4) hx hb d_LAW_law_41 (by decide) ?_
  refine lv_isub hx hb d_LAW_law_42 ?_
  refine lv_icmp_gt (tgt := 520) hx hb d_LAW_law_43 rfl (fun hc => ?_) (fun hc => ?_)
  · refine lv_iconst (v := 1) hx hb d_LAW_law_520 (by decide) ?_
    exact lw_ret hx hb hr hlocks d_LAW_law_521
  have h := cz_f hc h
  refine lv_aload_n hx hb d_LAW_law_46 rfl (lv_at hl 0 rfl) ?_
  refine lv_iload_n hx hb d_LAW_law_47 rfl (lv_at hl 3 rfl) ?_
  obtain ⟨hin48, h⟩ := cz_ck h
  refine lw_rd G hI hin48 d_LAW_law_48 ?_
  refine lv_bipush (v := 15) hx hb d_LAW_law_49 (by decide) ?_
  refine lv_iand hx hb d_LAW_law_51 ?_
  refine (Decidable.em (((xs v3.toNatClampNeg) &&& (15 : Int32)) = (0 : Int32))).elim (fun hc => ?_) (fun hc0 => ?_)
  · have h := cz_t hc h
    refine lv_tableIn (tgt := 124) hx hb d_LAW_law_52 (by rw [hc]; decide) (by rw [hc]; decide) (by rw [hc]; rfl) rfl ?_
    refine lv_aload_n hx hb d_LAW_law_124 rfl (lv_at hl 1 rfl) ?_
    refine lv_aload_n hx hb d_LAW_law_125 rfl (lv_at hl 0 rfl) ?_
    refine lv_iload_n hx hb d_LAW_law_126 rfl (lv_at hl 3 rfl) ?_
    refine lv_iconst (v := 1) hx hb d_LAW_law_127 (by decide) ?_
    refine lv_iadd hx hb d_LAW_law_128 ?_
    obtain ⟨hin129, h⟩ := cz_ck h
    refine lw_rd G hI hin129 d_LAW_law_129 ?_
    obtain ⟨r130, M130, hq130, h⟩ := cz_ubi h
    refine lw_C (rest := []) G hl.1 hI (c_CP_open l G.1.2.2.2 M (xs (v3 + (1 : Int32)).toNatClampNeg) hq130) Y_CP_open mw_223 mw_224 mw_225 rfl rfl ⟨Nat.le_of_ble_eq_true rfl, Nat.le_of_ble_eq_true rfl⟩ rfl (Nat.le_of_ble_eq_true rfl) ⟨by decide, by decide⟩ rfl d_LAW_law_130 (fun H hI => ?_)
    refine lv_aload_n hx hb d_LAW_law_133 rfl (lv_at hl 2 rfl) ?_
    refine lv_aload_n hx hb d_LAW_law_134 rfl (lv_at hl 0 rfl) ?_
    refine lv_iload_n hx hb d_LAW_law_135 rfl (lv_at hl 3 rfl) ?_
    refine lv_iconst (v := 1) hx hb d_LAW_law_136 (by decide) ?_
    refine lv_iadd hx hb d_LAW_law_137 ?_
    obtain ⟨hin138, h⟩ := cz_ck h
    refine lw_rd G hI hin138 d_LAW_law_138 ?_
    obtain ⟨r139, m139, hq139, h⟩ := cz_ubi h
    refine lw_M (rest := [.int r130]) G hl.1 hI (c_MO_open l G.2.1.2.2.2 m1 (xs (v3 + (1 : Int32)).toNatClampNeg) hq139) Y_MO_open mw_663 mw_664 mw_665 rfl rfl ⟨Nat.le_of_ble_eq_true rfl, Nat.le_of_ble_eq_true rfl⟩ rfl (Nat.le_of_ble_eq_true rfl) ⟨by decide, by decide⟩ rfl d_LAW_law_139 (fun H hI => ?_)
    refine lv_icmp_eq (tgt := 514) hx hb d_LAW_law_142 rfl (fun hc => ?_) (fun hc => ?_)
    · have h := cz_t hc h
      refine lv_iinc (lv' := [(3, .int (v3 + 4)), (0, .ref b), (1, .ref (X.2.1 0)), (2, .ref (Y.2.1 0))]) (v := v3 + 4) (k := 3) hx hb d_LAW_law_514 hl rfl (cz_inc4 _) (by decide) rfl (fun ls hl => ?_)
      refine lv_goto (tgt := 38) hx hb d_LAW_law_517 rfl ?_
      exact ih M130 m139 (v3 + 4) h _ _ hI (lv_sub hl [1, 2, 3, 0] rfl)
    have h := cz_f hc h
    exact absurd h (by decide)
  have h := cz_f hc0 h
  refine (Decidable.em (((xs v3.toNatClampNeg) &&& (15 : Int32)) = (1 : Int32))).elim (fun hc => ?_) (fun hc1 => ?_)
  · have h := cz_t hc h
    refine lv_tableIn (tgt := 147) hx hb d_LAW_law_52 (by rw [hc]; decide) (by rw [hc]; decide) (by rw [hc]; rfl) rfl ?_
    refine lv_aload_n hx hb d_LAW_law_147 rfl (lv_at hl 1 rfl) ?_
    refine lv_aload_n hx hb d_LAW_law_148 rfl (lv_at hl 0 rfl) ?_
    refine lv_iload_n hx hb d_LAW_law_149 rfl (lv_at hl 3 rfl) ?_
    refine lv_iconst (v := 1) hx hb d_LAW_law_150 (by decide) ?_
    refine lv_iadd hx hb d_LAW_law_151 ?_
    obtain ⟨hin152, h⟩ := cz_ck h
    refine lw_rd G hI hin152 d_LAW_law_152 ?_
    obtain ⟨r153, M153, hq153, h⟩ := cz_ubi h
    refine lw_C (rest := []) G hl.1 hI (c_CP_close l G.1.2.2.2 M (xs (v3 + (1 : Int32)).toNatClampNeg) hq153) Y_CP_close mw_287 mw_288 mw_289 rfl rfl ⟨Nat.le_of_ble_eq_true rfl, Nat.le_of_ble_eq_true rfl⟩ rfl (Nat.le_of_ble_eq_true rfl) ⟨by decide, by decide⟩ rfl d_LAW_law_153 (fun H hI => ?_)
    refine lv_aload_n hx hb d_LAW_law_156 rfl (lv_at hl 2 rfl) ?_
    refine lv_aload_n hx hb d_LAW_law_157 rfl (lv_at hl 0 rfl) ?_
    refine lv_iload_n hx hb d_LAW_law_158 rfl (lv_at hl 3 rfl) ?_
    refine lv_iconst (v := 1) hx hb d_LAW_law_159 (by decide) ?_
    refine lv_iadd hx hb d_LAW_law_160 ?_
    obtain ⟨hin161, h⟩ := cz_ck h
    refine lw_rd G hI hin161 d_LAW_law_161 ?_
    obtain ⟨r162, m162, hq162, h⟩ := cz_ubi h
    refine lw_M (rest := [.int r153]) G hl.1 hI (c_MO_close l G.2.1.2.2.2 m1 (xs (v3 + (1 : Int32)).toNatClampNeg) hq162) Y_MO_close mw_714 mw_715 mw_716 rfl rfl ⟨Nat.le_of_ble_eq_true rfl, Nat.le_of_ble_eq_true rfl⟩ rfl (Nat.le_of_ble_eq_true rfl) ⟨by decide, by decide⟩ rfl d_LAW_law_162 (fun H hI => ?_)
    refine lv_icmp_eq (tgt := 514) hx hb d_LAW_law_165 rfl (fun hc => ?_) (fun hc => ?_)
    · have h := cz_t hc h
      refine lv_iinc (lv' := [(3, .int (v3 + 4)), (0, .ref b), (1, .ref (X.2.1 0)), (2, .ref (Y.2.1 0))]) (v := v3 + 4) (k := 3) hx hb d_LAW_law_514 hl rfl (cz_inc4 _) (by decide) rfl (fun ls hl => ?_)
      refine lv_goto (tgt := 38) hx hb d_LAW_law_517 rfl ?_
      exact ih M153 m162 (v3 + 4) h _ _ hI (lv_sub hl [1, 2, 3, 0] rfl)
    have h := cz_f hc h
    exact absurd h (by decide)
  have h := cz_f hc1 h
  refine (Decidable.em (((xs v3.toNatClampNeg) &&& (15 : Int32)) = (2 : Int32))).elim (fun hc => ?_) (fun hc2 => ?_)
  · have h := cz_t hc h
    refine lv_tableIn (tgt := 170) hx hb d_LAW_law_52 (by rw [hc]; decide) (by rw [hc]; decide) (by rw [hc]; rfl) rfl ?_
    refine lv_aload_n hx hb d_LAW_law_170 rfl (lv_at hl 1 rfl) ?_
    refine lv_aload_n hx hb d_LAW_law_171 rfl (lv_at hl 0 rfl) ?_
    refine lv_iload_n hx hb d_LAW_law_172 rfl (lv_at hl 3 rfl) ?_
    refine lv_iconst (v := 1) hx hb d_LAW_law_173 (by decide) ?_
    refine lv_iadd hx hb d_LAW_law_174 ?_
    obtain ⟨hin175, h⟩ := cz_ck h
    refine lw_rd G hI hin175 d_LAW_law_175 ?_
    refine lv_aload_n hx hb d_LAW_law_176 rfl (lv_at hl 0 rfl) ?_
    refine lv_iload_n hx hb d_LAW_law_177 rfl (lv_at hl 3 rfl) ?_
    refine lv_iconst (v := 2) hx hb d_LAW_law_178 (by decide) ?_
    refine lv_iadd hx hb d_LAW_law_179 ?_
    obtain ⟨hin180, h⟩ := cz_ck h
    refine lw_rd G hI hin180 d_LAW_law_180 ?_
    refine lv_i2l (v := (xs (v3 + (2 : Int32)).toNatClampNeg).toInt64) hx hb d_LAW_law_181 rfl ?_
    refine lv_bipush (v := 32) hx hb d_LAW_law_182 (by decide) ?_
    refine lv_lshl (v := cz_lshl ((xs (v3 + (2 : Int32)).toNatClampNeg).toInt64) (32 : Int32)) hx hb d_LAW_law_184 rfl ?_
    refine lv_aload_n hx hb d_LAW_law_185 rfl (lv_at hl 0 rfl) ?_
    refine lv_iload_n hx hb d_LAW_law_186 rfl (lv_at hl 3 rfl) ?_
    refine lv_iconst (v := 3) hx hb d_LAW_law_187 (by decide) ?_
    refine lv_iadd hx hb d_LAW_law_188 ?_
    obtain ⟨hin189, h⟩ := cz_ck h
    refine lw_rd G hI hin189 d_LAW_law_189 ?_
    refine lv_i2l (v := (xs (v3 + (3 : Int32)).toNatClampNeg).toInt64) hx hb d_LAW_law_190 rfl ?_
    refine lv_ldc2 (v := 4294967295) hx hb G.1.1.2.2.2.1 (G.1.1.2.2.2.2 _ mw_825) d_LAW_law_191 ?_
    refine lv_land hx hb d_LAW_law_194 ?_
    refine lv_lor hx hb d_LAW_law_195 ?_
    obtain ⟨r196, M196, hq196, h⟩ := cz_ubi h
    refine lw_C (rest := []) G hl.1 hI (c_CP_put l G.1.2.2.2 M (xs (v3 + (1 : Int32)).toNatClampNeg) ((cz_lshl ((xs (v3 + (2 : Int32)).toNatClampNeg).toInt64) (32 : Int32)) ||| (((xs (v3 + (3 : Int32)).toNatClampNeg).toInt64) &&& (4294967295 : Int64))) hq196) Y_CP_put mw_303 mw_304 mw_305 rfl rfl ⟨Nat.le_of_ble_eq_true rfl, Nat.le_of_ble_eq_true rfl⟩ rfl (Nat.le_of_ble_eq_true rfl) ⟨by decide, by decide⟩ rfl d_LAW_law_196 (fun H hI => ?_)
    refine lv_aload_n hx hb d_LAW_law_199 rfl (lv_at hl 2 rfl) ?_
    refine lv_aload_n hx hb d_LAW_law_200 rfl (lv_at hl 0 rfl) ?_
    refine lv_iload_n hx hb d_LAW_law_201 rfl (lv_at hl 3 rfl) ?_
    refine lv_iconst (v := 1) hx hb d_LAW_law_202 (by decide) ?_
    refine lv_iadd hx hb d_LAW_law_203 ?_
    obtain ⟨hin204, h⟩ := cz_ck h
    refine lw_rd G hI hin204 d_LAW_law_204 ?_
    refine lv_aload_n hx hb d_LAW_law_205 rfl (lv_at hl 0 rfl) ?_
    refine lv_iload_n hx hb d_LAW_law_206 rfl (lv_at hl 3 rfl) ?_
    refine lv_iconst (v := 2) hx hb d_LAW_law_207 (by decide) ?_
    refine lv_iadd hx hb d_LAW_law_208 ?_
    obtain ⟨hin209, h⟩ := cz_ck h
    refine lw_rd G hI hin209 d_LAW_law_209 ?_
    refine lv_i2l (v := (xs (v3 + (2 : Int32)).toNatClampNeg).toInt64) hx hb d_LAW_law_210 rfl ?_
    refine lv_bipush (v := 32) hx hb d_LAW_law_211 (by decide) ?_
    refine lv_lshl (v := cz_lshl ((xs (v3 + (2 : Int32)).toNatClampNeg).toInt64) (32 : Int32)) hx hb d_LAW_law_213 rfl ?_
    refine lv_aload_n hx hb d_LAW_law_214 rfl (lv_at hl 0 rfl) ?_
    refine lv_iload_n hx hb d_LAW_law_215 rfl (lv_at hl 3 rfl) ?_
    refine lv_iconst (v := 3) hx hb d_LAW_law_216 (by decide) ?_
    refine lv_iadd hx hb d_LAW_law_217 ?_
    obtain ⟨hin218, h⟩ := cz_ck h
    refine lw_rd G hI hin218 d_LAW_law_218 ?_
    refine lv_i2l (v := (xs (v3 + (3 : Int32)).toNatClampNeg).toInt64) hx hb d_LAW_law_219 rfl ?_
    refine lv_ldc2 (v := 4294967295) hx hb G.1.1.2.2.2.1 (G.1.1.2.2.2.2 _ mw_825) d_LAW_law_220 ?_
    refine lv_land hx hb d_LAW_law_223 ?_
    refine lv_lor hx hb d_LAW_law_224 ?_
    obtain ⟨r225, m225, hq225, h⟩ := cz_ubi h
    refine lw_M (rest := [.int r196]) G hl.1 hI (c_MO_put l G.2.1.2.2.2 m1 (xs (v3 + (1 : Int32)).toNatClampNeg) ((cz_lshl ((xs (v3 + (2 : Int32)).toNatClampNeg).toInt64) (32 : Int32)) ||| (((xs (v3 + (3 : Int32)).toNatClampNeg).toInt64) &&& (4294967295 : Int64))) hq225) Y_MO_put mw_651 mw_652 mw_653 rfl rfl ⟨Nat.le_of_ble_eq_true rfl, Nat.le_of_ble_eq_true rfl⟩ rfl (Nat.le_of_ble_eq_true rfl) ⟨by decide, by decide⟩ rfl d_LAW_law_225 (fun H hI => ?_)
    refine lv_icmp_eq (tgt := 514) hx hb d_LAW_law_228 rfl (fun hc => ?_) (fun hc => ?_)
    · have h := cz_t hc h
      refine lv_iinc (lv' := [(3, .int (v3 + 4)), (0, .ref b), (1, .ref (X.2.1 0)), (2, .ref (Y.2.1 0))]) (v := v3 + 4) (k := 3) hx hb d_LAW_law_514 hl rfl (cz_inc4 _) (by decide) rfl (fun ls hl => ?_)
      refine lv_goto (tgt := 38) hx hb d_LAW_law_517 rfl ?_
      exact ih M196 m225 (v3 + 4) h _ _ hI (lv_sub hl [1, 2, 3, 0] rfl)
    have h := cz_f hc h
    exact absurd h (by decide)
  have h := cz_f hc2 h
  refine (Decidable.em (((xs v3.toNatClampNeg) &&& (15 : Int32)) = (3 : Int32))).elim (fun hc => ?_) (fun hc3 => ?_)
  · have h := cz_t hc h
    refine lv_tableIn (tgt := 233) hx hb d_LAW_law_52 (by rw [hc]; decide) (by rw [hc]; decide) (by rw [hc]; rfl) rfl ?_
    refine lv_aload_n hx hb d_LAW_law_233 rfl (lv_at hl 1 rfl) ?_
    obtain ⟨M234, hq234, h⟩ := cz_ubv h
    refine lw_C (rest := []) G hl.1 hI (c_CP_clear l G.1.2.2.2 M hq234) Y_CP_clear mw_308 mw_309 mw_310 rfl rfl ⟨Nat.le_of_ble_eq_true rfl, Nat.le_of_ble_eq_true rfl⟩ rfl (Nat.le_of_ble_eq_true rfl) ⟨by decide, by decide⟩ rfl d_LAW_law_234 (fun H hI => ?_)
    refine lv_aload_n hx hb d_LAW_law_237 rfl (lv_at hl 2 rfl) ?_
    obtain ⟨m238, hq238, h⟩ := cz_ubv h
    refine lw_M (rest := []) G hl.1 hI (c_MO_clear l G.2.1.2.2.2 m1 hq238) Y_MO_clear mw_655 mw_656 mw_657 rfl rfl ⟨Nat.le_of_ble_eq_true rfl, Nat.le_of_ble_eq_true rfl⟩ rfl (Nat.le_of_ble_eq_true rfl) ⟨by decide, by decide⟩ rfl d_LAW_law_238 (fun H hI => ?_)
    refine lv_goto (tgt := 514) hx hb d_LAW_law_241 rfl ?_
    refine lv_iinc (lv' := [(3, .int (v3 + 4)), (0, .ref b), (1, .ref (X.2.1 0)), (2, .ref (Y.2.1 0))]) (v := v3 + 4) (k := 3) hx hb d_LAW_law_514 hl rfl (cz_inc4 _) (by decide) rfl (fun ls hl => ?_)
    refine lv_goto (tgt := 38) hx hb d_LAW_law_517 rfl ?_
    exact ih M234 m238 (v3 + 4) h _ _ hI (lv_sub hl [1, 2, 3, 0] rfl)
  have h := cz_f hc3 h
  refine (Decidable.em (((xs v3.toNatClampNeg) &&& (15 : Int32)) = (4 : Int32))).elim (fun hc => ?_) (fun hc4 => ?_)
  · have h := cz_t hc h
    refine lv_tableIn (tgt := 244) hx hb d_LAW_law_52 (by rw [hc]; decide) (by rw [hc]; decide) (by rw [hc]; rfl) rfl ?_
    refine lv_aload_n hx hb d_LAW_law_244 rfl (lv_at hl 1 rfl) ?_
    refine lv_aload_n hx hb d_LAW_law_245 rfl (lv_at hl 0 rfl) ?_
    refine lv_iload_n hx hb d_LAW_law_246 rfl (lv_at hl 3 rfl) ?_
    refine lv_iconst (v := 1) hx hb d_LAW_law_247 (by decide) ?_
    refine lv_iadd hx hb d_LAW_law_248 ?_
    obtain ⟨hin249, h⟩ := cz_ck h
    refine lw_rd G hI hin249 d_LAW_law_249 ?_
    obtain ⟨r250, M250, hq250, h⟩ := cz_ubi h
    refine lw_C (rest := []) G hl.1 hI (c_CP_wire l G.1.2.2.2 M (xs (v3 + (1 : Int32)).toNatClampNeg) hq250) Y_CP_wire mw_312 mw_313 mw_314 rfl rfl ⟨Nat.le_of_ble_eq_true rfl, Nat.le_of_ble_eq_true rfl⟩ rfl (Nat.le_of_ble_eq_true rfl) ⟨by decide, by decide⟩ rfl d_LAW_law_250 (fun H hI => ?_)
    refine lv_aload_n hx hb d_LAW_law_253 rfl (lv_at hl 2 rfl) ?_
    refine lv_aload_n hx hb d_LAW_law_254 rfl (lv_at hl 0 rfl) ?_
    refine lv_iload_n hx hb d_LAW_law_255 rfl (lv_at hl 3 rfl) ?_
    refine lv_iconst (v := 1) hx hb d_LAW_law_256 (by decide) ?_
    refine lv_iadd hx hb d_LAW_law_257 ?_
    obtain ⟨hin258, h⟩ := cz_ck h
    refine lw_rd G hI hin258 d_LAW_law_258 ?_
    obtain ⟨r259, m259, hq259, h⟩ := cz_ubi h
    refine lw_M (rest := [.int r250]) G hl.1 hI (c_MO_wire l G.2.1.2.2.2 m1 (xs (v3 + (1 : Int32)).toNatClampNeg) hq259) Y_MO_wire mw_659 mw_660 mw_661 rfl rfl ⟨Nat.le_of_ble_eq_true rfl, Nat.le_of_ble_eq_true rfl⟩ rfl (Nat.le_of_ble_eq_true rfl) ⟨by decide, by decide⟩ rfl d_LAW_law_259 (fun H hI => ?_)
    refine lv_icmp_eq (tgt := 514) hx hb d_LAW_law_262 rfl (fun hc => ?_) (fun hc => ?_)
    · have h := cz_t hc h
      refine lv_iinc (lv' := [(3, .int (v3 + 4)), (0, .ref b), (1, .ref (X.2.1 0)), (2, .ref (Y.2.1 0))]) (v := v3 + 4) (k := 3) hx hb d_LAW_law_514 hl rfl (cz_inc4 _) (by decide) rfl (fun ls hl => ?_)
      refine lv_goto (tgt := 38) hx hb d_LAW_law_517 rfl ?_
      exact ih M250 m259 (v3 + 4) h _ _ hI (lv_sub hl [1, 2, 3, 0] rfl)
    have h := cz_f hc h
    exact absurd h (by decide)
  have h := cz_f hc4 h
  refine (Decidable.em (((xs v3.toNatClampNeg) &&& (15 : Int32)) = (5 : Int32))).elim (fun hc => ?_) (fun hc5 => ?_)
  · have h := cz_t hc h
    refine lv_tableIn (tgt := 267) hx hb d_LAW_law_52 (by rw [hc]; decide) (by rw [hc]; decide) (by rw [hc]; rfl) rfl ?_
    refine lv_aload_n hx hb d_LAW_law_267 rfl (lv_at hl 1 rfl) ?_
    refine lv_aload_n hx hb d_LAW_law_268 rfl (lv_at hl 0 rfl) ?_
    refine lv_iload_n hx hb d_LAW_law_269 rfl (lv_at hl 3 rfl) ?_
    refine lv_iconst (v := 1) hx hb d_LAW_law_270 (by decide) ?_
    refine lv_iadd hx hb d_LAW_law_271 ?_
    obtain ⟨hin272, h⟩ := cz_ck h
    refine lw_rd G hI hin272 d_LAW_law_272 ?_
    obtain ⟨r273, M273, hq273, h⟩ := cz_ubi h
    refine lw_C (rest := []) G hl.1 hI (c_CP_receive l G.1.2.2.2 M (xs (v3 + (1 : Int32)).toNatClampNeg) hq273) Y_CP_receive mw_320 mw_321 mw_322 rfl rfl ⟨Nat.le_of_ble_eq_true rfl, Nat.le_of_ble_eq_true rfl⟩ rfl (Nat.le_of_ble_eq_true rfl) ⟨by decide, by decide⟩ rfl d_LAW_law_273 (fun H hI => ?_)
    refine lv_aload_n hx hb d_LAW_law_276 rfl (lv_at hl 2 rfl) ?_
    refine lv_aload_n hx hb d_LAW_law_277 rfl (lv_at hl 0 rfl) ?_
    refine lv_iload_n hx hb d_LAW_law_278 rfl (lv_at hl 3 rfl) ?_
    refine lv_iconst (v := 1) hx hb d_LAW_law_279 (by decide) ?_
    refine lv_iadd hx hb d_LAW_law_280 ?_
    obtain ⟨hin281, h⟩ := cz_ck h
    refine lw_rd G hI hin281 d_LAW_law_281 ?_
    obtain ⟨r282, m282, hq282, h⟩ := cz_ubi h
    refine lw_M (rest := [.int r273]) G hl.1 hI (c_MO_receive l G.2.1.2.2.2 m1 (xs (v3 + (1 : Int32)).toNatClampNeg) hq282) Y_MO_receive mw_722 mw_723 mw_724 rfl rfl ⟨Nat.le_of_ble_eq_true rfl, Nat.le_of_ble_eq_true rfl⟩ rfl (Nat.le_of_ble_eq_true rfl) ⟨by decide, by decide⟩ rfl d_LAW_law_282 (fun H hI => ?_)
    refine lv_icmp_eq (tgt := 514) hx hb d_LAW_law_285 rfl (fun hc => ?_) (fun hc => ?_)
    · have h := cz_t hc h
      refine lv_iinc (lv' := [(3, .int (v3 + 4)), (0, .ref b), (1, .ref (X.2.1 0)), (2, .ref (Y.2.1 0))]) (v := v3 + 4) (k := 3) hx hb d_LAW_law_514 hl rfl (cz_inc4 _) (by decide) rfl (fun ls hl => ?_)
      refine lv_goto (tgt := 38) hx hb d_LAW_law_517 rfl ?_
      exact ih M273 m282 (v3 + 4) h _ _ hI (lv_sub hl [1, 2, 3, 0] rfl)
    have h := cz_f hc h
    exact absurd h (by decide)
  have h := cz_f hc5 h
  refine (Decidable.em (((xs v3.toNatClampNeg) &&& (15 : Int32)) = (6 : Int32))).elim (fun hc => ?_) (fun hc6 => ?_)
  · have h := cz_t hc h
    refine lv_tableIn (tgt := 290) hx hb d_LAW_law_52 (by rw [hc]; decide) (by rw [hc]; decide) (by rw [hc]; rfl) rfl ?_
    refine lv_aload_n hx hb d_LAW_law_290 rfl (lv_at hl 1 rfl) ?_
    refine lv_aload_n hx hb d_LAW_law_291 rfl (lv_at hl 0 rfl) ?_
    refine lv_iload_n hx hb d_LAW_law_292 rfl (lv_at hl 3 rfl) ?_
    refine lv_iconst (v := 1) hx hb d_LAW_law_293 (by decide) ?_
    refine lv_iadd hx hb d_LAW_law_294 ?_
    obtain ⟨hin295, h⟩ := cz_ck h
    refine lw_rd G hI hin295 d_LAW_law_295 ?_
    obtain ⟨r296, M296, hq296, h⟩ := cz_ubi h
    refine lw_C (rest := []) G hl.1 hI (c_CP_send l G.1.2.2.2 M (xs (v3 + (1 : Int32)).toNatClampNeg) hq296) Y_CP_send mw_454 mw_455 mw_456 rfl rfl ⟨Nat.le_of_ble_eq_true rfl, Nat.le_of_ble_eq_true rfl⟩ rfl (Nat.le_of_ble_eq_true rfl) ⟨by decide, by decide⟩ rfl d_LAW_law_296 (fun H hI => ?_)
    refine lv_aload_n hx hb d_LAW_law_299 rfl (lv_at hl 2 rfl) ?_
    refine lv_aload_n hx hb d_LAW_law_300 rfl (lv_at hl 0 rfl) ?_
    refine lv_iload_n hx hb d_LAW_law_301 rfl (lv_at hl 3 rfl) ?_
    refine lv_iconst (v := 1) hx hb d_LAW_law_302 (by decide) ?_
    refine lv_iadd hx hb d_LAW_law_303 ?_
    obtain ⟨hin304, h⟩ := cz_ck h
    refine lw_rd G hI hin304 d_LAW_law_304 ?_
    obtain ⟨r305, m305, hq305, h⟩ := cz_ubi h
    refine lw_M (rest := [.int r296]) G hl.1 hI (c_MO_send l G.2.1.2.2.2 m1 (xs (v3 + (1 : Int32)).toNatClampNeg) hq305) Y_MO_send mw_644 mw_645 mw_646 rfl rfl ⟨Nat.le_of_ble_eq_true rfl, Nat.le_of_ble_eq_true rfl⟩ rfl (Nat.le_of_ble_eq_true rfl) ⟨by decide, by decide⟩ rfl d_LAW_law_305 (fun H hI => ?_)
    refine lv_icmp_eq (tgt := 514) hx hb d_LAW_law_308 rfl (fun hc => ?_) (fun hc => ?_)
    · have h := cz_t hc h
      refine lv_iinc (lv' := [(3, .int (v3 + 4)), (0, .ref b), (1, .ref (X.2.1 0)), (2, .ref (Y.2.1 0))]) (v := v3 + 4) (k := 3) hx hb d_LAW_law_514 hl rfl (cz_inc4 _) (by decide) rfl (fun ls hl => ?_)
      refine lv_goto (tgt := 38) hx hb d_LAW_law_517 rfl ?_
      exact ih M296 m305 (v3 + 4) h _ _ hI (lv_sub hl [1, 2, 3, 0] rfl)
    have h := cz_f hc h
    exact absurd h (by decide)
  have h := cz_f hc6 h
  refine (Decidable.em (((xs v3.toNatClampNeg) &&& (15 : Int32)) = (7 : Int32))).elim (fun hc => ?_) (fun hc7 => ?_)
  · have h := cz_t hc h
    refine lv_tableIn (tgt := 313) hx hb d_LAW_law_52 (by rw [hc]; decide) (by rw [hc]; decide) (by rw [hc]; rfl) rfl ?_
    refine lv_aload_n hx hb d_LAW_law_313 rfl (lv_at hl 1 rfl) ?_
    obtain ⟨r314, M314, hq314, h⟩ := cz_ubi h
    refine lw_C (rest := []) G hl.1 hI (c_CP_work l G.1.2.2.2 M hq314) Y_CP_work mw_462 mw_463 mw_464 rfl rfl ⟨Nat.le_of_ble_eq_true rfl, Nat.le_of_ble_eq_true rfl⟩ rfl (Nat.le_of_ble_eq_true rfl) ⟨by decide, by decide⟩ rfl d_LAW_law_314 (fun H hI => ?_)
    refine lv_aload_n hx hb d_LAW_law_317 rfl (lv_at hl 2 rfl) ?_
    obtain ⟨r318, m318, hq318, h⟩ := cz_ubi h
    refine lw_M (rest := [.int r314]) G hl.1 hI (c_MO_work l G.2.1.2.2.2 m1 hq318) Y_MO_work mw_785 mw_786 mw_787 rfl rfl ⟨Nat.le_of_ble_eq_true rfl, Nat.le_of_ble_eq_true rfl⟩ rfl (Nat.le_of_ble_eq_true rfl) ⟨by decide, by decide⟩ rfl d_LAW_law_318 (fun H hI => ?_)
    refine lv_icmp_eq (tgt := 514) hx hb d_LAW_law_321 rfl (fun hc => ?_) (fun hc => ?_)
    · have h := cz_t hc h
      refine lv_iinc (lv' := [(3, .int (v3 + 4)), (0, .ref b), (1, .ref (X.2.1 0)), (2, .ref (Y.2.1 0))]) (v := v3 + 4) (k := 3) hx hb d_LAW_law_514 hl rfl (cz_inc4 _) (by decide) rfl (fun ls hl => ?_)
      refine lv_goto (tgt := 38) hx hb d_LAW_law_517 rfl ?_
      exact ih M314 m318 (v3 + 4) h _ _ hI (lv_sub hl [1, 2, 3, 0] rfl)
    have h := cz_f hc h
    exact absurd h (by decide)
  have h := cz_f hc7 h
  refine (Decidable.em (((xs v3.toNatClampNeg) &&& (15 : Int32)) = (8 : Int32))).elim (fun hc => ?_) (fun hc8 => ?_)
  · have h := cz_t hc h
    refine lv_tableIn (tgt := 326) hx hb d_LAW_law_52 (by rw [hc]; decide) (by rw [hc]; decide) (by rw [hc]; rfl) rfl ?_
    refine lv_aload_n hx hb d_LAW_law_326 rfl (lv_at hl 1 rfl) ?_
    refine lv_aload_n hx hb d_LAW_law_327 rfl (lv_at hl 0 rfl) ?_
    refine lv_iload_n hx hb d_LAW_law_328 rfl (lv_at hl 3 rfl) ?_
    refine lv_iconst (v := 1) hx hb d_LAW_law_329 (by decide) ?_
    refine lv_iadd hx hb d_LAW_law_330 ?_
    obtain ⟨hin331, h⟩ := cz_ck h
    refine lw_rd G hI hin331 d_LAW_law_331 ?_
    obtain ⟨r332, M332, hq332, h⟩ := cz_ubi h
    refine lw_C (rest := []) G hl.1 hI (c_CP_tick l G.1.2.2.2 M (xs (v3 + (1 : Int32)).toNatClampNeg) hq332) Y_CP_tick mw_502 mw_503 mw_504 rfl rfl ⟨Nat.le_of_ble_eq_true rfl, Nat.le_of_ble_eq_true rfl⟩ rfl (Nat.le_of_ble_eq_true rfl) ⟨by decide, by decide⟩ rfl d_LAW_law_332 (fun H hI => ?_)
    refine lv_aload_n hx hb d_LAW_law_335 rfl (lv_at hl 2 rfl) ?_
    refine lv_aload_n hx hb d_LAW_law_336 rfl (lv_at hl 0 rfl) ?_
    refine lv_iload_n hx hb d_LAW_law_337 rfl (lv_at hl 3 rfl) ?_
    refine lv_iconst (v := 1) hx hb d_LAW_law_338 (by decide) ?_
    refine lv_iadd hx hb d_LAW_law_339 ?_
    obtain ⟨hin340, h⟩ := cz_ck h
    refine lw_rd G hI hin340 d_LAW_law_340 ?_
    obtain ⟨r341, m341, hq341, h⟩ := cz_ubi h
    refine lw_M (rest := [.int r332]) G hl.1 hI (c_MO_tick l G.2.1.2.2.2 m1 (xs (v3 + (1 : Int32)).toNatClampNeg) hq341) Y_MO_tick mw_801 mw_802 mw_803 rfl rfl ⟨Nat.le_of_ble_eq_true rfl, Nat.le_of_ble_eq_true rfl⟩ rfl (Nat.le_of_ble_eq_true rfl) ⟨by decide, by decide⟩ rfl d_LAW_law_341 (fun H hI => ?_)
    refine lv_icmp_eq (tgt := 514) hx hb d_LAW_law_344 rfl (fun hc => ?_) (fun hc => ?_)
    · have h := cz_t hc h
      refine lv_iinc (lv' := [(3, .int (v3 + 4)), (0, .ref b), (1, .ref (X.2.1 0)), (2, .ref (Y.2.1 0))]) (v := v3 + 4) (k := 3) hx hb d_LAW_law_514 hl rfl (cz_inc4 _) (by decide) rfl (fun ls hl => ?_)
      refine lv_goto (tgt := 38) hx hb d_LAW_law_517 rfl ?_
      exact ih M332 m341 (v3 + 4) h _ _ hI (lv_sub hl [1, 2, 3, 0] rfl)
    have h := cz_f hc h
    exact absurd h (by decide)
  have h := cz_f hc8 h
  refine (Decidable.em (((xs v3.toNatClampNeg) &&& (15 : Int32)) = (9 : Int32))).elim (fun hc => ?_) (fun hc9 => ?_)
  · have h := cz_t hc h
    refine lv_tableIn (tgt := 349) hx hb d_LAW_law_52 (by rw [hc]; decide) (by rw [hc]; decide) (by rw [hc]; rfl) rfl ?_
    refine lv_aload_n hx hb d_LAW_law_349 rfl (lv_at hl 1 rfl) ?_
    refine lv_aload_n hx hb d_LAW_law_350 rfl (lv_at hl 0 rfl) ?_
    refine lv_iload_n hx hb d_LAW_law_351 rfl (lv_at hl 3 rfl) ?_
    refine lv_iconst (v := 1) hx hb d_LAW_law_352 (by decide) ?_
    refine lv_iadd hx hb d_LAW_law_353 ?_
    obtain ⟨hin354, h⟩ := cz_ck h
    refine lw_rd G hI hin354 d_LAW_law_354 ?_
    refine lv_aload_n hx hb d_LAW_law_355 rfl (lv_at hl 0 rfl) ?_
    refine lv_iload_n hx hb d_LAW_law_356 rfl (lv_at hl 3 rfl) ?_
    refine lv_iconst (v := 2) hx hb d_LAW_law_357 (by decide) ?_
    refine lv_iadd hx hb d_LAW_law_358 ?_
    obtain ⟨hin359, h⟩ := cz_ck h
    refine lw_rd G hI hin359 d_LAW_law_359 ?_
    refine lv_aload_n hx hb d_LAW_law_360 rfl (lv_at hl 0 rfl) ?_
    refine lv_iload_n hx hb d_LAW_law_361 rfl (lv_at hl 3 rfl) ?_
    refine lv_iconst (v := 3) hx hb d_LAW_law_362 (by decide) ?_
    refine lv_iadd hx hb d_LAW_law_363 ?_
    obtain ⟨hin364, h⟩ := cz_ck h
    refine lw_rd G hI hin364 d_LAW_law_364 ?_
    obtain ⟨r365, M365, hq365, h⟩ := cz_ubi h
    refine lw_C (rest := []) G hl.1 hI (c_CP_seal l G.1.2.2.2 M (xs (v3 + (1 : Int32)).toNatClampNeg) (xs (v3 + (2 : Int32)).toNatClampNeg) (xs (v3 + (3 : Int32)).toNatClampNeg) hq365) Y_CP_seal mw_514 mw_515 mw_516 rfl rfl ⟨Nat.le_of_ble_eq_true rfl, Nat.le_of_ble_eq_true rfl⟩ rfl (Nat.le_of_ble_eq_true rfl) ⟨by decide, by decide⟩ rfl d_LAW_law_365 (fun H hI => ?_)
    refine lv_aload_n hx hb d_LAW_law_368 rfl (lv_at hl 2 rfl) ?_
    refine lv_aload_n hx hb d_LAW_law_369 rfl (lv_at hl 0 rfl) ?_
    refine lv_iload_n hx hb d_LAW_law_370 rfl (lv_at hl 3 rfl) ?_
    refine lv_iconst (v := 1) hx hb d_LAW_law_371 (by decide) ?_
    refine lv_iadd hx hb d_LAW_law_372 ?_
    obtain ⟨hin373, h⟩ := cz_ck h
    refine lw_rd G hI hin373 d_LAW_law_373 ?_
    refine lv_aload_n hx hb d_LAW_law_374 rfl (lv_at hl 0 rfl) ?_
    refine lv_iload_n hx hb d_LAW_law_375 rfl (lv_at hl 3 rfl) ?_
    refine lv_iconst (v := 2) hx hb d_LAW_law_376 (by decide) ?_
    refine lv_iadd hx hb d_LAW_law_377 ?_
    obtain ⟨hin378, h⟩ := cz_ck h
    refine lw_rd G hI hin378 d_LAW_law_378 ?_
    refine lv_aload_n hx hb d_LAW_law_379 rfl (lv_at hl 0 rfl) ?_
    refine lv_iload_n hx hb d_LAW_law_380 rfl (lv_at hl 3 rfl) ?_
    refine lv_iconst (v := 3) hx hb d_LAW_law_381 (by decide) ?_
    refine lv_iadd hx hb d_LAW_law_382 ?_
    obtain ⟨hin383, h⟩ := cz_ck h
    refine lw_rd G hI hin383 d_LAW_law_383 ?_
    obtain ⟨r384, m384, hq384, h⟩ := cz_ubi h
    refine lw_M (rest := [.int r365]) G hl.1 hI (c_MO_seal l G.2.1.2.2.2 m1 (xs (v3 + (1 : Int32)).toNatClampNeg) (xs (v3 + (2 : Int32)).toNatClampNeg) (xs (v3 + (3 : Int32)).toNatClampNeg) hq384) Y_MO_seal mw_805 mw_806 mw_807 rfl rfl ⟨Nat.le_of_ble_eq_true rfl, Nat.le_of_ble_eq_true rfl⟩ rfl (Nat.le_of_ble_eq_true rfl) ⟨by decide, by decide⟩ rfl d_LAW_law_384 (fun H hI => ?_)
    refine lv_icmp_eq (tgt := 514) hx hb d_LAW_law_387 rfl (fun hc => ?_) (fun hc => ?_)
    · have h := cz_t hc h
      refine lv_iinc (lv' := [(3, .int (v3 + 4)), (0, .ref b), (1, .ref (X.2.1 0)), (2, .ref (Y.2.1 0))]) (v := v3 + 4) (k := 3) hx hb d_LAW_law_514 hl rfl (cz_inc4 _) (by decide) rfl (fun ls hl => ?_)
      refine lv_goto (tgt := 38) hx hb d_LAW_law_517 rfl ?_
      exact ih M365 m384 (v3 + 4) h _ _ hI (lv_sub hl [1, 2, 3, 0] rfl)
    have h := cz_f hc h
    exact absurd h (by decide)
  have h := cz_f hc9 h
  refine (Decidable.em (((xs v3.toNatClampNeg) &&& (15 : Int32)) = (10 : Int32))).elim (fun hc => ?_) (fun hc10 => ?_)
  · have h := cz_t hc h
    refine lv_tableIn (tgt := 392) hx hb d_LAW_law_52 (by rw [hc]; decide) (by rw [hc]; decide) (by rw [hc]; rfl) rfl ?_
    refine lv_aload_n hx hb d_LAW_law_392 rfl (lv_at hl 1 rfl) ?_
    refine lv_aload_n hx hb d_LAW_law_393 rfl (lv_at hl 0 rfl) ?_
    refine lv_iload_n hx hb d_LAW_law_394 rfl (lv_at hl 3 rfl) ?_
    refine lv_iconst (v := 1) hx hb d_LAW_law_395 (by decide) ?_
    refine lv_iadd hx hb d_LAW_law_396 ?_
    obtain ⟨hin397, h⟩ := cz_ck h
    refine lw_rd G hI hin397 d_LAW_law_397 ?_
    refine lv_aload_n hx hb d_LAW_law_398 rfl (lv_at hl 0 rfl) ?_
    refine lv_iload_n hx hb d_LAW_law_399 rfl (lv_at hl 3 rfl) ?_
    refine lv_iconst (v := 2) hx hb d_LAW_law_400 (by decide) ?_
    refine lv_iadd hx hb d_LAW_law_401 ?_
    obtain ⟨hin402, h⟩ := cz_ck h
    refine lw_rd G hI hin402 d_LAW_law_402 ?_
    obtain ⟨r403, M403, hq403, h⟩ := cz_ubi h
    refine lw_C (rest := []) G hl.1 hI (c_CP_peer l G.1.2.2.2 M (xs (v3 + (1 : Int32)).toNatClampNeg) (xs (v3 + (2 : Int32)).toNatClampNeg) hq403) Y_CP_peer mw_518 mw_519 mw_520 rfl rfl ⟨Nat.le_of_ble_eq_true rfl, Nat.le_of_ble_eq_true rfl⟩ rfl (Nat.le_of_ble_eq_true rfl) ⟨by decide, by decide⟩ rfl d_LAW_law_403 (fun H hI => ?_)
    refine lv_aload_n hx hb d_LAW_law_406 rfl (lv_at hl 2 rfl) ?_
    refine lv_aload_n hx hb d_LAW_law_407 rfl (lv_at hl 0 rfl) ?_
    refine lv_iload_n hx hb d_LAW_law_408 rfl (lv_at hl 3 rfl) ?_
    refine lv_iconst (v := 1) hx hb d_LAW_law_409 (by decide) ?_
    refine lv_iadd hx hb d_LAW_law_410 ?_
    obtain ⟨hin411, h⟩ := cz_ck h
    refine lw_rd G hI hin411 d_LAW_law_411 ?_
    refine lv_aload_n hx hb d_LAW_law_412 rfl (lv_at hl 0 rfl) ?_
    refine lv_iload_n hx hb d_LAW_law_413 rfl (lv_at hl 3 rfl) ?_
    refine lv_iconst (v := 2) hx hb d_LAW_law_414 (by decide) ?_
    refine lv_iadd hx hb d_LAW_law_415 ?_
    obtain ⟨hin416, h⟩ := cz_ck h
    refine lw_rd G hI hin416 d_LAW_law_416 ?_
    obtain ⟨r417, m417, hq417, h⟩ := cz_ubi h
    refine lw_M (rest := [.int r403]) G hl.1 hI (c_MO_peer l G.2.1.2.2.2 m1 (xs (v3 + (1 : Int32)).toNatClampNeg) (xs (v3 + (2 : Int32)).toNatClampNeg) hq417) Y_MO_peer mw_809 mw_810 mw_811 rfl rfl ⟨Nat.le_of_ble_eq_true rfl, Nat.le_of_ble_eq_true rfl⟩ rfl (Nat.le_of_ble_eq_true rfl) ⟨by decide, by decide⟩ rfl d_LAW_law_417 (fun H hI => ?_)
    refine lv_icmp_eq (tgt := 514) hx hb d_LAW_law_420 rfl (fun hc => ?_) (fun hc => ?_)
    · have h := cz_t hc h
      refine lv_iinc (lv' := [(3, .int (v3 + 4)), (0, .ref b), (1, .ref (X.2.1 0)), (2, .ref (Y.2.1 0))]) (v := v3 + 4) (k := 3) hx hb d_LAW_law_514 hl rfl (cz_inc4 _) (by decide) rfl (fun ls hl => ?_)
      refine lv_goto (tgt := 38) hx hb d_LAW_law_517 rfl ?_
      exact ih M403 m417 (v3 + 4) h _ _ hI (lv_sub hl [1, 2, 3, 0] rfl)
    have h := cz_f hc h
    exact absurd h (by decide)
  have h := cz_f hc10 h
  refine (Decidable.em (((xs v3.toNatClampNeg) &&& (15 : Int32)) = (11 : Int32))).elim (fun hc => ?_) (fun hc11 => ?_)
  · have h := cz_t hc h
    refine lv_tableIn (tgt := 425) hx hb d_LAW_law_52 (by rw [hc]; decide) (by rw [hc]; decide) (by rw [hc]; rfl) rfl ?_
    refine lv_aload_n hx hb d_LAW_law_425 rfl (lv_at hl 1 rfl) ?_
    refine lv_aload_n hx hb d_LAW_law_426 rfl (lv_at hl 0 rfl) ?_
    refine lv_iload_n hx hb d_LAW_law_427 rfl (lv_at hl 3 rfl) ?_
    refine lv_iconst (v := 1) hx hb d_LAW_law_428 (by decide) ?_
    refine lv_iadd hx hb d_LAW_law_429 ?_
    obtain ⟨hin430, h⟩ := cz_ck h
    refine lw_rd G hI hin430 d_LAW_law_430 ?_
    refine lv_aload_n hx hb d_LAW_law_431 rfl (lv_at hl 0 rfl) ?_
    refine lv_iload_n hx hb d_LAW_law_432 rfl (lv_at hl 3 rfl) ?_
    refine lv_iconst (v := 2) hx hb d_LAW_law_433 (by decide) ?_
    refine lv_iadd hx hb d_LAW_law_434 ?_
    obtain ⟨hin435, h⟩ := cz_ck h
    refine lw_rd G hI hin435 d_LAW_law_435 ?_
    obtain ⟨r436, M436, hq436, h⟩ := cz_ubi h
    refine lw_C (rest := []) G hl.1 hI (c_CP_block l G.1.2.2.2 M (xs (v3 + (1 : Int32)).toNatClampNeg) (xs (v3 + (2 : Int32)).toNatClampNeg) hq436) Y_CP_block mw_526 mw_527 mw_528 rfl rfl ⟨Nat.le_of_ble_eq_true rfl, Nat.le_of_ble_eq_true rfl⟩ rfl (Nat.le_of_ble_eq_true rfl) ⟨by decide, by decide⟩ rfl d_LAW_law_436 (fun H hI => ?_)
    refine lv_aload_n hx hb d_LAW_law_439 rfl (lv_at hl 2 rfl) ?_
    refine lv_aload_n hx hb d_LAW_law_440 rfl (lv_at hl 0 rfl) ?_
    refine lv_iload_n hx hb d_LAW_law_441 rfl (lv_at hl 3 rfl) ?_
    refine lv_iconst (v := 1) hx hb d_LAW_law_442 (by decide) ?_
    refine lv_iadd hx hb d_LAW_law_443 ?_
    obtain ⟨hin444, h⟩ := cz_ck h
    refine lw_rd G hI hin444 d_LAW_law_444 ?_
    refine lv_aload_n hx hb d_LAW_law_445 rfl (lv_at hl 0 rfl) ?_
    refine lv_iload_n hx hb d_LAW_law_446 rfl (lv_at hl 3 rfl) ?_
    refine lv_iconst (v := 2) hx hb d_LAW_law_447 (by decide) ?_
    refine lv_iadd hx hb d_LAW_law_448 ?_
    obtain ⟨hin449, h⟩ := cz_ck h
    refine lw_rd G hI hin449 d_LAW_law_449 ?_
    obtain ⟨r450, m450, hq450, h⟩ := cz_ubi h
    refine lw_M (rest := [.int r436]) G hl.1 hI (c_MO_block l G.2.1.2.2.2 m1 (xs (v3 + (1 : Int32)).toNatClampNeg) (xs (v3 + (2 : Int32)).toNatClampNeg) hq450) Y_MO_block mw_813 mw_814 mw_815 rfl rfl ⟨Nat.le_of_ble_eq_true rfl, Nat.le_of_ble_eq_true rfl⟩ rfl (Nat.le_of_ble_eq_true rfl) ⟨by decide, by decide⟩ rfl d_LAW_law_450 (fun H hI => ?_)
    refine lv_icmp_eq (tgt := 514) hx hb d_LAW_law_453 rfl (fun hc => ?_) (fun hc => ?_)
    · have h := cz_t hc h
      refine lv_iinc (lv' := [(3, .int (v3 + 4)), (0, .ref b), (1, .ref (X.2.1 0)), (2, .ref (Y.2.1 0))]) (v := v3 + 4) (k := 3) hx hb d_LAW_law_514 hl rfl (cz_inc4 _) (by decide) rfl (fun ls hl => ?_)
      refine lv_goto (tgt := 38) hx hb d_LAW_law_517 rfl ?_
      exact ih M436 m450 (v3 + 4) h _ _ hI (lv_sub hl [1, 2, 3, 0] rfl)
    have h := cz_f hc h
    exact absurd h (by decide)
  have h := cz_f hc11 h
  refine (Decidable.em (((xs v3.toNatClampNeg) &&& (15 : Int32)) = (12 : Int32))).elim (fun hc => ?_) (fun hc12 => ?_)
  · have h := cz_t hc h
    refine lv_tableIn (tgt := 458) hx hb d_LAW_law_52 (by rw [hc]; decide) (by rw [hc]; decide) (by rw [hc]; rfl) rfl ?_
    refine lv_aload_n hx hb d_LAW_law_458 rfl (lv_at hl 1 rfl) ?_
    refine lv_aload_n hx hb d_LAW_law_459 rfl (lv_at hl 0 rfl) ?_
    refine lv_iload_n hx hb d_LAW_law_460 rfl (lv_at hl 3 rfl) ?_
    refine lv_iconst (v := 1) hx hb d_LAW_law_461 (by decide) ?_
    refine lv_iadd hx hb d_LAW_law_462 ?_
    obtain ⟨hin463, h⟩ := cz_ck h
    refine lw_rd G hI hin463 d_LAW_law_463 ?_
    refine lv_aload_n hx hb d_LAW_law_464 rfl (lv_at hl 0 rfl) ?_
    refine lv_iload_n hx hb d_LAW_law_465 rfl (lv_at hl 3 rfl) ?_
    refine lv_iconst (v := 2) hx hb d_LAW_law_466 (by decide) ?_
    refine lv_iadd hx hb d_LAW_law_467 ?_
    obtain ⟨hin468, h⟩ := cz_ck h
    refine lw_rd G hI hin468 d_LAW_law_468 ?_
    obtain ⟨r469, M469, hq469, h⟩ := cz_ubi h
    refine lw_C (rest := []) G hl.1 hI (c_CP_tx l G.1.2.2.2 M (xs (v3 + (1 : Int32)).toNatClampNeg) (xs (v3 + (2 : Int32)).toNatClampNeg) hq469) Y_CP_tx mw_538 mw_539 mw_540 rfl rfl ⟨Nat.le_of_ble_eq_true rfl, Nat.le_of_ble_eq_true rfl⟩ rfl (Nat.le_of_ble_eq_true rfl) ⟨by decide, by decide⟩ rfl d_LAW_law_469 (fun H hI => ?_)
    refine lv_aload_n hx hb d_LAW_law_472 rfl (lv_at hl 2 rfl) ?_
    refine lv_aload_n hx hb d_LAW_law_473 rfl (lv_at hl 0 rfl) ?_
    refine lv_iload_n hx hb d_LAW_law_474 rfl (lv_at hl 3 rfl) ?_
    refine lv_iconst (v := 1) hx hb d_LAW_law_475 (by decide) ?_
    refine lv_iadd hx hb d_LAW_law_476 ?_
    obtain ⟨hin477, h⟩ := cz_ck h
    refine lw_rd G hI hin477 d_LAW_law_477 ?_
    refine lv_aload_n hx hb d_LAW_law_478 rfl (lv_at hl 0 rfl) ?_
    refine lv_iload_n hx hb d_LAW_law_479 rfl (lv_at hl 3 rfl) ?_
    refine lv_iconst (v := 2) hx hb d_LAW_law_480 (by decide) ?_
    refine lv_iadd hx hb d_LAW_law_481 ?_
    obtain ⟨hin482, h⟩ := cz_ck h
    refine lw_rd G hI hin482 d_LAW_law_482 ?_
    obtain ⟨r483, m483, hq483, h⟩ := cz_ubi h
    refine lw_M (rest := [.int r469]) G hl.1 hI (c_MO_tx l G.2.1.2.2.2 m1 (xs (v3 + (1 : Int32)).toNatClampNeg) (xs (v3 + (2 : Int32)).toNatClampNeg) hq483) Y_MO_tx mw_817 mw_818 mw_819 rfl rfl ⟨Nat.le_of_ble_eq_true rfl, Nat.le_of_ble_eq_true rfl⟩ rfl (Nat.le_of_ble_eq_true rfl) ⟨by decide, by decide⟩ rfl d_LAW_law_483 (fun H hI => ?_)
    refine lv_icmp_eq (tgt := 514) hx hb d_LAW_law_486 rfl (fun hc => ?_) (fun hc => ?_)
    · have h := cz_t hc h
      refine lv_iinc (lv' := [(3, .int (v3 + 4)), (0, .ref b), (1, .ref (X.2.1 0)), (2, .ref (Y.2.1 0))]) (v := v3 + 4) (k := 3) hx hb d_LAW_law_514 hl rfl (cz_inc4 _) (by decide) rfl (fun ls hl => ?_)
      refine lv_goto (tgt := 38) hx hb d_LAW_law_517 rfl ?_
      exact ih M469 m483 (v3 + 4) h _ _ hI (lv_sub hl [1, 2, 3, 0] rfl)
    have h := cz_f hc h
    exact absurd h (by decide)
  have h := cz_f hc12 h
  refine (Decidable.em (((xs v3.toNatClampNeg) &&& (15 : Int32)) = (13 : Int32))).elim (fun hc => ?_) (fun hc13 => ?_)
  · have h := cz_t hc h
    refine lv_tableIn (tgt := 491) hx hb d_LAW_law_52 (by rw [hc]; decide) (by rw [hc]; decide) (by rw [hc]; rfl) rfl ?_
    refine lv_aload_n hx hb d_LAW_law_491 rfl (lv_at hl 1 rfl) ?_
    refine lv_aload_n hx hb d_LAW_law_492 rfl (lv_at hl 0 rfl) ?_
    refine lv_iload_n hx hb d_LAW_law_493 rfl (lv_at hl 3 rfl) ?_
    refine lv_iconst (v := 1) hx hb d_LAW_law_494 (by decide) ?_
    refine lv_iadd hx hb d_LAW_law_495 ?_
    obtain ⟨hin496, h⟩ := cz_ck h
    refine lw_rd G hI hin496 d_LAW_law_496 ?_
    obtain ⟨r497, M497, hq497, h⟩ := cz_ubi h
    refine lw_C (rest := []) G hl.1 hI (c_CP_state l G.1.2.2.2 M (xs (v3 + (1 : Int32)).toNatClampNeg) hq497) Y_CP_state mw_546 mw_547 mw_548 rfl rfl ⟨Nat.le_of_ble_eq_true rfl, Nat.le_of_ble_eq_true rfl⟩ rfl (Nat.le_of_ble_eq_true rfl) ⟨by decide, by decide⟩ rfl d_LAW_law_497 (fun H hI => ?_)
    refine lv_aload_n hx hb d_LAW_law_500 rfl (lv_at hl 2 rfl) ?_
    refine lv_aload_n hx hb d_LAW_law_501 rfl (lv_at hl 0 rfl) ?_
    refine lv_iload_n hx hb d_LAW_law_502 rfl (lv_at hl 3 rfl) ?_
    refine lv_iconst (v := 1) hx hb d_LAW_law_503 (by decide) ?_
    refine lv_iadd hx hb d_LAW_law_504 ?_
    obtain ⟨hin505, h⟩ := cz_ck h
    refine lw_rd G hI hin505 d_LAW_law_505 ?_
    obtain ⟨r506, m506, hq506, h⟩ := cz_ubi h
    refine lw_M (rest := [.int r497]) G hl.1 hI (c_MO_state l G.2.1.2.2.2 m1 (xs (v3 + (1 : Int32)).toNatClampNeg) hq506) Y_MO_state mw_821 mw_822 mw_823 rfl rfl ⟨Nat.le_of_ble_eq_true rfl, Nat.le_of_ble_eq_true rfl⟩ rfl (Nat.le_of_ble_eq_true rfl) ⟨by decide, by decide⟩ rfl d_LAW_law_506 (fun H hI => ?_)
    refine lv_icmp_eq (tgt := 514) hx hb d_LAW_law_509 rfl (fun hc => ?_) (fun hc => ?_)
    · have h := cz_t hc h
      refine lv_iinc (lv' := [(3, .int (v3 + 4)), (0, .ref b), (1, .ref (X.2.1 0)), (2, .ref (Y.2.1 0))]) (v := v3 + 4) (k := 3) hx hb d_LAW_law_514 hl rfl (cz_inc4 _) (by decide) rfl (fun ls hl => ?_)
      refine lv_goto (tgt := 38) hx hb d_LAW_law_517 rfl ?_
      exact ih M497 m506 (v3 + 4) h _ _ hI (lv_sub hl [1, 2, 3, 0] rfl)
    have h := cz_f hc h
    exact absurd h (by decide)
  have h := cz_f hc13 h
  refine lv_tableOut (tgt := 514) hx hb d_LAW_law_52 (by have e0 := lv_neT (a := 0) hc0 rfl; have e1 := lv_neT (a := 1) hc1 rfl; have e2 := lv_neT (a := 2) hc2 rfl; have e3 := lv_neT (a := 3) hc3 rfl; have e4 := lv_neT (a := 4) hc4 rfl; have e5 := lv_neT (a := 5) hc5 rfl; have e6 := lv_neT (a := 6) hc6 rfl; have e7 := lv_neT (a := 7) hc7 rfl; have e8 := lv_neT (a := 8) hc8 rfl; have e9 := lv_neT (a := 9) hc9 rfl; have e10 := lv_neT (a := 10) hc10 rfl; have e11 := lv_neT (a := 11) hc11 rfl; have e12 := lv_neT (a := 12) hc12 rfl; have e13 := lv_neT (a := 13) hc13 rfl; omega) rfl ?_
  refine lv_iinc (lv' := [(3, .int (v3 + 4)), (0, .ref b), (1, .ref (X.2.1 0)), (2, .ref (Y.2.1 0))]) (v := v3 + 4) (k := 3) hx hb d_LAW_law_514 hl rfl (cz_inc4 _) (by decide) rfl (fun ls hl => ?_)
  refine lv_goto (tgt := 38) hx hb d_LAW_law_517 rfl ?_
  exact ih M m1 (v3 + 4) h _ _ hI (lv_sub hl [1, 2, 3, 0] rfl)
