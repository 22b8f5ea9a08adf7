/-! ===== LOOKED UP, by program (wip/gen/emit3.py) ===== -/
theorem sg_0 : pg 0 = pm_0 := rfl
theorem sg_23 : pg 23 = pm_23 := rfl
theorem sg_24 : pg 24 = pm_24 := rfl
theorem sg_26 : pg 26 = pm_26 := rfl
theorem sg_27 : pg 27 = pm_27 := rfl
theorem sg_30 : pg 30 = pm_30 := rfl
theorem sg_31 : pg 31 = pm_31 := rfl
theorem sg_32 : pg 32 = pm_32 := rfl
theorem sg_33 : pg 33 = pm_33 := rfl
theorem sg_34 : pg 34 = pm_34 := rfl
theorem sg_35 : pg 35 = pm_35 := rfl
theorem sg_37 : pg 37 = pm_37 := rfl
theorem sg_38 : pg 38 = pm_38 := rfl
theorem sg_39 : pg 39 = pm_39 := rfl
theorem sg_40 : pg 40 = pm_40 := rfl
theorem sg_41 : pg 41 = pm_41 := rfl
theorem sg_148 : pg 148 = pm_148 := rfl
theorem sg_149 : pg 149 = pm_149 := rfl
theorem sg_161 : pg 161 = pm_161 := rfl
theorem sg_162 : pg 162 = pm_162 := rfl
theorem sg_166 : pg 166 = pm_166 := rfl
theorem sg_167 : pg 167 = pm_167 := rfl
theorem sg_168 : pg 168 = pm_168 := rfl
theorem sg_169 : pg 169 = pm_169 := rfl
theorem sg_170 : pg 170 = pm_170 := rfl
theorem sg_171 : pg 171 = pm_171 := rfl
theorem sg_172 : pg 172 = pm_172 := rfl
theorem sg_175 : pg 175 = pm_175 := rfl
theorem sg_176 : pg 176 = pm_176 := rfl
theorem sg_202 : pg 202 = pm_202 := rfl
theorem sg_203 : pg 203 = pm_203 := rfl
theorem sg_204 : pg 204 = pm_204 := rfl
theorem sg_205 : pg 205 = pm_205 := rfl
theorem sg_207 : pg 207 = pm_207 := rfl
theorem sg_208 : pg 208 = pm_208 := rfl
theorem sg_209 : pg 209 = pm_209 := rfl
theorem sg_287 : pg 287 = pm_287 := rfl
theorem sg_288 : pg 288 = pm_288 := rfl
theorem sg_289 : pg 289 = pm_289 := rfl
theorem sg_303 : pg 303 = pm_303 := rfl
theorem sg_304 : pg 304 = pm_304 := rfl
theorem sg_305 : pg 305 = pm_305 := rfl
theorem sg_306 : pg 306 = pm_306 := rfl
theorem sg_307 : pg 307 = pm_307 := rfl
theorem sg_309 : pg 309 = pm_309 := rfl
theorem sg_310 : pg 310 = pm_310 := rfl
theorem sg_311 : pg 311 = pm_311 := rfl
theorem sg_312 : pg 312 = pm_312 := rfl
theorem sg_342 : pg 342 = pm_342 := rfl
theorem sg_343 : pg 343 = pm_343 := rfl
theorem sg_344 : pg 344 = pm_344 := rfl
theorem sg_345 : pg 345 = pm_345 := rfl
theorem sg_346 : pg 346 = pm_346 := rfl
theorem sg_347 : pg 347 = pm_347 := rfl
theorem sg_348 : pg 348 = pm_348 := rfl
theorem sl_0_23 : pm_0.2.2.2.2.2 23 = some (.iload 4, 2, 0, 0, 0) := rfl
theorem sl_0_25 : pm_0.2.2.2.2.2 25 = some (.aload_n 0, 1, 0, 0, 0) := rfl
theorem sl_0_26 : pm_0.2.2.2.2.2 26 = some (.arraylength, 1, 0, 0, 0) := rfl
theorem sl_0_27 : pm_0.2.2.2.2.2 27 = some (.bipush 6, 2, 0, 0, 0) := rfl
theorem sl_0_29 : pm_0.2.2.2.2.2 29 = some (.isub, 1, 0, 0, 0) := rfl
theorem sl_0_30 : pm_0.2.2.2.2.2 30 = some (.if_icmp .gt 1148, 3, 0, 0, 0) := rfl
theorem sl_0_33 : pm_0.2.2.2.2.2 33 = some (.aload_n 0, 1, 0, 0, 0) := rfl
theorem sl_0_34 : pm_0.2.2.2.2.2 34 = some (.iload 4, 2, 0, 0, 0) := rfl
theorem sl_0_36 : pm_0.2.2.2.2.2 36 = some (.iaload, 1, 0, 0, 0) := rfl
theorem sl_0_37 : pm_0.2.2.2.2.2 37 = some (.bipush 31, 2, 0, 0, 0) := rfl
theorem sl_0_39 : pm_0.2.2.2.2.2 39 = some (.iand, 1, 0, 0, 0) := rfl
theorem sl_0_40 : pm_0.2.2.2.2.2 40 = some (.tableswitch 1132 0 19 #[96, 167, 192, 236, 261, 286, 366, 379, 416, 453, 509, 633, 713, 805, 861, 898, 935, 972, 1039, 1107], 96, 0, 0, 0) := rfl
theorem sl_0_136 : pm_0.2.2.2.2.2 136 = some (.aload_n 1, 1, 0, 0, 0) := rfl
theorem sl_0_137 : pm_0.2.2.2.2.2 137 = some (.aload_n 0, 1, 0, 0, 0) := rfl
theorem sl_0_138 : pm_0.2.2.2.2.2 138 = some (.iload 4, 2, 0, 0, 0) := rfl
theorem sl_0_140 : pm_0.2.2.2.2.2 140 = some (.iconst 1, 1, 0, 0, 0) := rfl
theorem sl_0_141 : pm_0.2.2.2.2.2 141 = some (.iadd, 1, 0, 0, 0) := rfl
theorem sl_0_142 : pm_0.2.2.2.2.2 142 = some (.iaload, 1, 0, 0, 0) := rfl
theorem sl_0_143 : pm_0.2.2.2.2.2 143 = some (.aload_n 0, 1, 0, 0, 0) := rfl
theorem sl_0_144 : pm_0.2.2.2.2.2 144 = some (.iload 4, 2, 0, 0, 0) := rfl
theorem sl_0_146 : pm_0.2.2.2.2.2 146 = some (.iconst 2, 1, 0, 0, 0) := rfl
theorem sl_0_147 : pm_0.2.2.2.2.2 147 = some (.iadd, 1, 0, 0, 0) := rfl
theorem sl_0_148 : pm_0.2.2.2.2.2 148 = some (.iaload, 1, 0, 0, 0) := rfl
theorem sl_0_149 : pm_0.2.2.2.2.2 149 = some (.aload_n 0, 1, 0, 0, 0) := rfl
theorem sl_0_150 : pm_0.2.2.2.2.2 150 = some (.iload 4, 2, 0, 0, 0) := rfl
theorem sl_0_152 : pm_0.2.2.2.2.2 152 = some (.iconst 3, 1, 0, 0, 0) := rfl
theorem sl_0_153 : pm_0.2.2.2.2.2 153 = some (.iadd, 1, 0, 0, 0) := rfl
theorem sl_0_154 : pm_0.2.2.2.2.2 154 = some (.iaload, 1, 0, 0, 0) := rfl
theorem sl_0_155 : pm_0.2.2.2.2.2 155 = some (.aload_n 0, 1, 0, 0, 0) := rfl
theorem sl_0_156 : pm_0.2.2.2.2.2 156 = some (.iload 4, 2, 0, 0, 0) := rfl
theorem sl_0_158 : pm_0.2.2.2.2.2 158 = some (.iconst 4, 1, 0, 0, 0) := rfl
theorem sl_0_159 : pm_0.2.2.2.2.2 159 = some (.iadd, 1, 0, 0, 0) := rfl
theorem sl_0_160 : pm_0.2.2.2.2.2 160 = some (.iaload, 1, 0, 0, 0) := rfl
theorem sl_0_161 : pm_0.2.2.2.2.2 161 = some (.aload_n 0, 1, 0, 0, 0) := rfl
theorem sl_0_162 : pm_0.2.2.2.2.2 162 = some (.iload 4, 2, 0, 0, 0) := rfl
theorem sl_0_164 : pm_0.2.2.2.2.2 164 = some (.iconst 5, 1, 0, 0, 0) := rfl
theorem sl_0_165 : pm_0.2.2.2.2.2 165 = some (.iadd, 1, 0, 0, 0) := rfl
theorem sl_0_166 : pm_0.2.2.2.2.2 166 = some (.iaload, 1, 0, 0, 0) := rfl
theorem sl_0_167 : pm_0.2.2.2.2.2 167 = some (.invokevirtual 54, 3, 23, 5, 0) := rfl
theorem sl_0_170 : pm_0.2.2.2.2.2 170 = some (.aload_n 2, 1, 0, 0, 0) := rfl
theorem sl_0_171 : pm_0.2.2.2.2.2 171 = some (.aload_n 0, 1, 0, 0, 0) := rfl
theorem sl_0_172 : pm_0.2.2.2.2.2 172 = some (.iload 4, 2, 0, 0, 0) := rfl
theorem sl_0_174 : pm_0.2.2.2.2.2 174 = some (.iconst 1, 1, 0, 0, 0) := rfl
theorem sl_0_175 : pm_0.2.2.2.2.2 175 = some (.iadd, 1, 0, 0, 0) := rfl
theorem sl_0_176 : pm_0.2.2.2.2.2 176 = some (.iaload, 1, 0, 0, 0) := rfl
theorem sl_0_177 : pm_0.2.2.2.2.2 177 = some (.aload_n 0, 1, 0, 0, 0) := rfl
theorem sl_0_178 : pm_0.2.2.2.2.2 178 = some (.iload 4, 2, 0, 0, 0) := rfl
theorem sl_0_180 : pm_0.2.2.2.2.2 180 = some (.iconst 2, 1, 0, 0, 0) := rfl
theorem sl_0_181 : pm_0.2.2.2.2.2 181 = some (.iadd, 1, 0, 0, 0) := rfl
theorem sl_0_182 : pm_0.2.2.2.2.2 182 = some (.iaload, 1, 0, 0, 0) := rfl
theorem sl_0_183 : pm_0.2.2.2.2.2 183 = some (.aload_n 0, 1, 0, 0, 0) := rfl
theorem sl_0_184 : pm_0.2.2.2.2.2 184 = some (.iload 4, 2, 0, 0, 0) := rfl
theorem sl_0_186 : pm_0.2.2.2.2.2 186 = some (.iconst 3, 1, 0, 0, 0) := rfl
theorem sl_0_187 : pm_0.2.2.2.2.2 187 = some (.iadd, 1, 0, 0, 0) := rfl
theorem sl_0_188 : pm_0.2.2.2.2.2 188 = some (.iaload, 1, 0, 0, 0) := rfl
theorem sl_0_189 : pm_0.2.2.2.2.2 189 = some (.aload_n 0, 1, 0, 0, 0) := rfl
theorem sl_0_190 : pm_0.2.2.2.2.2 190 = some (.iload 4, 2, 0, 0, 0) := rfl
theorem sl_0_192 : pm_0.2.2.2.2.2 192 = some (.iconst 4, 1, 0, 0, 0) := rfl
theorem sl_0_193 : pm_0.2.2.2.2.2 193 = some (.iadd, 1, 0, 0, 0) := rfl
theorem sl_0_194 : pm_0.2.2.2.2.2 194 = some (.iaload, 1, 0, 0, 0) := rfl
theorem sl_0_195 : pm_0.2.2.2.2.2 195 = some (.aload_n 0, 1, 0, 0, 0) := rfl
theorem sl_0_196 : pm_0.2.2.2.2.2 196 = some (.iload 4, 2, 0, 0, 0) := rfl
theorem sl_0_198 : pm_0.2.2.2.2.2 198 = some (.iconst 5, 1, 0, 0, 0) := rfl
theorem sl_0_199 : pm_0.2.2.2.2.2 199 = some (.iadd, 1, 0, 0, 0) := rfl
theorem sl_0_200 : pm_0.2.2.2.2.2 200 = some (.iaload, 1, 0, 0, 0) := rfl
theorem sl_0_201 : pm_0.2.2.2.2.2 201 = some (.invokevirtual 58, 3, 208, 5, 0) := rfl
theorem sl_0_204 : pm_0.2.2.2.2.2 204 = some (.goto 968, 3, 0, 0, 0) := rfl
theorem sl_0_207 : pm_0.2.2.2.2.2 207 = some (.aload_n 1, 1, 0, 0, 0) := rfl
theorem sl_0_208 : pm_0.2.2.2.2.2 208 = some (.aload_n 0, 1, 0, 0, 0) := rfl
theorem sl_0_209 : pm_0.2.2.2.2.2 209 = some (.iload 4, 2, 0, 0, 0) := rfl
theorem sl_0_211 : pm_0.2.2.2.2.2 211 = some (.iconst 1, 1, 0, 0, 0) := rfl
theorem sl_0_212 : pm_0.2.2.2.2.2 212 = some (.iadd, 1, 0, 0, 0) := rfl
theorem sl_0_213 : pm_0.2.2.2.2.2 213 = some (.iaload, 1, 0, 0, 0) := rfl
theorem sl_0_214 : pm_0.2.2.2.2.2 214 = some (.invokevirtual 59, 3, 24, 1, 0) := rfl
theorem sl_0_217 : pm_0.2.2.2.2.2 217 = some (.aload_n 2, 1, 0, 0, 0) := rfl
theorem sl_0_218 : pm_0.2.2.2.2.2 218 = some (.aload_n 0, 1, 0, 0, 0) := rfl
theorem sl_0_219 : pm_0.2.2.2.2.2 219 = some (.iload 4, 2, 0, 0, 0) := rfl
theorem sl_0_221 : pm_0.2.2.2.2.2 221 = some (.iconst 1, 1, 0, 0, 0) := rfl
theorem sl_0_222 : pm_0.2.2.2.2.2 222 = some (.iadd, 1, 0, 0, 0) := rfl
theorem sl_0_223 : pm_0.2.2.2.2.2 223 = some (.iaload, 1, 0, 0, 0) := rfl
theorem sl_0_224 : pm_0.2.2.2.2.2 224 = some (.invokevirtual 62, 3, 209, 1, 0) := rfl
theorem sl_0_227 : pm_0.2.2.2.2.2 227 = some (.if_icmp .eq 945, 3, 0, 0, 0) := rfl
theorem sl_0_276 : pm_0.2.2.2.2.2 276 = some (.aload_n 1, 1, 0, 0, 0) := rfl
theorem sl_0_277 : pm_0.2.2.2.2.2 277 = some (.aload_n 0, 1, 0, 0, 0) := rfl
theorem sl_0_278 : pm_0.2.2.2.2.2 278 = some (.iload 4, 2, 0, 0, 0) := rfl
theorem sl_0_280 : pm_0.2.2.2.2.2 280 = some (.iconst 1, 1, 0, 0, 0) := rfl
theorem sl_0_281 : pm_0.2.2.2.2.2 281 = some (.iadd, 1, 0, 0, 0) := rfl
theorem sl_0_282 : pm_0.2.2.2.2.2 282 = some (.iaload, 1, 0, 0, 0) := rfl
theorem sl_0_283 : pm_0.2.2.2.2.2 283 = some (.invokevirtual 72, 3, 26, 1, 0) := rfl
theorem sl_0_286 : pm_0.2.2.2.2.2 286 = some (.aload_n 2, 1, 0, 0, 0) := rfl
theorem sl_0_287 : pm_0.2.2.2.2.2 287 = some (.aload_n 0, 1, 0, 0, 0) := rfl
theorem sl_0_288 : pm_0.2.2.2.2.2 288 = some (.iload 4, 2, 0, 0, 0) := rfl
theorem sl_0_290 : pm_0.2.2.2.2.2 290 = some (.iconst 1, 1, 0, 0, 0) := rfl
theorem sl_0_291 : pm_0.2.2.2.2.2 291 = some (.iadd, 1, 0, 0, 0) := rfl
theorem sl_0_292 : pm_0.2.2.2.2.2 292 = some (.iaload, 1, 0, 0, 0) := rfl
theorem sl_0_293 : pm_0.2.2.2.2.2 293 = some (.invokevirtual 75, 3, 287, 1, 0) := rfl
theorem sl_0_296 : pm_0.2.2.2.2.2 296 = some (.if_icmp .eq 876, 3, 0, 0, 0) := rfl
theorem sl_0_301 : pm_0.2.2.2.2.2 301 = some (.aload_n 1, 1, 0, 0, 0) := rfl
theorem sl_0_302 : pm_0.2.2.2.2.2 302 = some (.aload_n 0, 1, 0, 0, 0) := rfl
theorem sl_0_303 : pm_0.2.2.2.2.2 303 = some (.iload 4, 2, 0, 0, 0) := rfl
theorem sl_0_305 : pm_0.2.2.2.2.2 305 = some (.iconst 1, 1, 0, 0, 0) := rfl
theorem sl_0_306 : pm_0.2.2.2.2.2 306 = some (.iadd, 1, 0, 0, 0) := rfl
theorem sl_0_307 : pm_0.2.2.2.2.2 307 = some (.iaload, 1, 0, 0, 0) := rfl
theorem sl_0_308 : pm_0.2.2.2.2.2 308 = some (.invokevirtual 76, 3, 27, 1, 0) := rfl
theorem sl_0_311 : pm_0.2.2.2.2.2 311 = some (.aload_n 2, 1, 0, 0, 0) := rfl
theorem sl_0_312 : pm_0.2.2.2.2.2 312 = some (.aload_n 0, 1, 0, 0, 0) := rfl
theorem sl_0_313 : pm_0.2.2.2.2.2 313 = some (.iload 4, 2, 0, 0, 0) := rfl
theorem sl_0_315 : pm_0.2.2.2.2.2 315 = some (.iconst 1, 1, 0, 0, 0) := rfl
theorem sl_0_316 : pm_0.2.2.2.2.2 316 = some (.iadd, 1, 0, 0, 0) := rfl
theorem sl_0_317 : pm_0.2.2.2.2.2 317 = some (.iaload, 1, 0, 0, 0) := rfl
theorem sl_0_318 : pm_0.2.2.2.2.2 318 = some (.invokevirtual 79, 3, 288, 1, 0) := rfl
theorem sl_0_321 : pm_0.2.2.2.2.2 321 = some (.if_icmp .eq 851, 3, 0, 0, 0) := rfl
theorem sl_0_326 : pm_0.2.2.2.2.2 326 = some (.aload_n 1, 1, 0, 0, 0) := rfl
theorem sl_0_327 : pm_0.2.2.2.2.2 327 = some (.aload_n 0, 1, 0, 0, 0) := rfl
theorem sl_0_328 : pm_0.2.2.2.2.2 328 = some (.iload 4, 2, 0, 0, 0) := rfl
theorem sl_0_330 : pm_0.2.2.2.2.2 330 = some (.iconst 1, 1, 0, 0, 0) := rfl
theorem sl_0_331 : pm_0.2.2.2.2.2 331 = some (.iadd, 1, 0, 0, 0) := rfl
theorem sl_0_332 : pm_0.2.2.2.2.2 332 = some (.iaload, 1, 0, 0, 0) := rfl
theorem sl_0_333 : pm_0.2.2.2.2.2 333 = some (.aload_n 0, 1, 0, 0, 0) := rfl
theorem sl_0_334 : pm_0.2.2.2.2.2 334 = some (.iload 4, 2, 0, 0, 0) := rfl
theorem sl_0_336 : pm_0.2.2.2.2.2 336 = some (.iconst 2, 1, 0, 0, 0) := rfl
theorem sl_0_337 : pm_0.2.2.2.2.2 337 = some (.iadd, 1, 0, 0, 0) := rfl
theorem sl_0_338 : pm_0.2.2.2.2.2 338 = some (.iaload, 1, 0, 0, 0) := rfl
theorem sl_0_339 : pm_0.2.2.2.2.2 339 = some (.aload_n 0, 1, 0, 0, 0) := rfl
theorem sl_0_340 : pm_0.2.2.2.2.2 340 = some (.iload 4, 2, 0, 0, 0) := rfl
theorem sl_0_342 : pm_0.2.2.2.2.2 342 = some (.iconst 3, 1, 0, 0, 0) := rfl
theorem sl_0_343 : pm_0.2.2.2.2.2 343 = some (.iadd, 1, 0, 0, 0) := rfl
theorem sl_0_344 : pm_0.2.2.2.2.2 344 = some (.iaload, 1, 0, 0, 0) := rfl
theorem sl_0_345 : pm_0.2.2.2.2.2 345 = some (.aload_n 3, 1, 0, 0, 0) := rfl
theorem sl_0_346 : pm_0.2.2.2.2.2 346 = some (.invokestatic 80, 3, 148, 5, 3) := rfl
theorem sl_0_349 : pm_0.2.2.2.2.2 349 = some (.istore 5, 2, 0, 0, 0) := rfl
theorem sl_0_351 : pm_0.2.2.2.2.2 351 = some (.aload_n 2, 1, 0, 0, 0) := rfl
theorem sl_0_352 : pm_0.2.2.2.2.2 352 = some (.aload_n 0, 1, 0, 0, 0) := rfl
theorem sl_0_353 : pm_0.2.2.2.2.2 353 = some (.iload 4, 2, 0, 0, 0) := rfl
theorem sl_0_355 : pm_0.2.2.2.2.2 355 = some (.iconst 1, 1, 0, 0, 0) := rfl
theorem sl_0_356 : pm_0.2.2.2.2.2 356 = some (.iadd, 1, 0, 0, 0) := rfl
theorem sl_0_357 : pm_0.2.2.2.2.2 357 = some (.iaload, 1, 0, 0, 0) := rfl
theorem sl_0_358 : pm_0.2.2.2.2.2 358 = some (.aload_n 0, 1, 0, 0, 0) := rfl
theorem sl_0_359 : pm_0.2.2.2.2.2 359 = some (.iload 4, 2, 0, 0, 0) := rfl
theorem sl_0_361 : pm_0.2.2.2.2.2 361 = some (.iconst 2, 1, 0, 0, 0) := rfl
theorem sl_0_362 : pm_0.2.2.2.2.2 362 = some (.iadd, 1, 0, 0, 0) := rfl
theorem sl_0_363 : pm_0.2.2.2.2.2 363 = some (.iaload, 1, 0, 0, 0) := rfl
theorem sl_0_364 : pm_0.2.2.2.2.2 364 = some (.aload_n 0, 1, 0, 0, 0) := rfl
theorem sl_0_365 : pm_0.2.2.2.2.2 365 = some (.iload 4, 2, 0, 0, 0) := rfl
theorem sl_0_367 : pm_0.2.2.2.2.2 367 = some (.iconst 3, 1, 0, 0, 0) := rfl
theorem sl_0_368 : pm_0.2.2.2.2.2 368 = some (.iadd, 1, 0, 0, 0) := rfl
theorem sl_0_369 : pm_0.2.2.2.2.2 369 = some (.iaload, 1, 0, 0, 0) := rfl
theorem sl_0_370 : pm_0.2.2.2.2.2 370 = some (.invokevirtual 83, 3, 289, 3, 0) := rfl
theorem sl_0_373 : pm_0.2.2.2.2.2 373 = some (.istore 6, 2, 0, 0, 0) := rfl
theorem sl_0_375 : pm_0.2.2.2.2.2 375 = some (.aload_n 2, 1, 0, 0, 0) := rfl
theorem sl_0_376 : pm_0.2.2.2.2.2 376 = some (.invokevirtual 69, 3, 207, 0, 0) := rfl
theorem sl_0_379 : pm_0.2.2.2.2.2 379 = some (.iload 5, 2, 0, 0, 0) := rfl
theorem sl_0_381 : pm_0.2.2.2.2.2 381 = some (.if_icmp .eq 5, 3, 0, 0, 0) := rfl
theorem sl_0_386 : pm_0.2.2.2.2.2 386 = some (.iload 5, 2, 0, 0, 0) := rfl
theorem sl_0_388 : pm_0.2.2.2.2.2 388 = some (.ifCond .ne 15, 3, 0, 0, 0) := rfl
theorem sl_0_403 : pm_0.2.2.2.2.2 403 = some (.goto 769, 3, 0, 0, 0) := rfl
theorem sl_0_406 : pm_0.2.2.2.2.2 406 = some (.aload_n 1, 1, 0, 0, 0) := rfl
theorem sl_0_407 : pm_0.2.2.2.2.2 407 = some (.invokevirtual 84, 3, 30, 0, 0) := rfl
theorem sl_0_410 : pm_0.2.2.2.2.2 410 = some (.aload_n 2, 1, 0, 0, 0) := rfl
theorem sl_0_411 : pm_0.2.2.2.2.2 411 = some (.invokevirtual 87, 3, 303, 0, 0) := rfl
theorem sl_0_414 : pm_0.2.2.2.2.2 414 = some (.if_icmp .eq 758, 3, 0, 0, 0) := rfl
theorem sl_0_419 : pm_0.2.2.2.2.2 419 = some (.aload_n 1, 1, 0, 0, 0) := rfl
theorem sl_0_420 : pm_0.2.2.2.2.2 420 = some (.aload_n 0, 1, 0, 0, 0) := rfl
theorem sl_0_421 : pm_0.2.2.2.2.2 421 = some (.iload 4, 2, 0, 0, 0) := rfl
theorem sl_0_423 : pm_0.2.2.2.2.2 423 = some (.iconst 1, 1, 0, 0, 0) := rfl
theorem sl_0_424 : pm_0.2.2.2.2.2 424 = some (.iadd, 1, 0, 0, 0) := rfl
theorem sl_0_425 : pm_0.2.2.2.2.2 425 = some (.iaload, 1, 0, 0, 0) := rfl
theorem sl_0_426 : pm_0.2.2.2.2.2 426 = some (.aload_n 0, 1, 0, 0, 0) := rfl
theorem sl_0_427 : pm_0.2.2.2.2.2 427 = some (.iload 4, 2, 0, 0, 0) := rfl
theorem sl_0_429 : pm_0.2.2.2.2.2 429 = some (.iconst 2, 1, 0, 0, 0) := rfl
theorem sl_0_430 : pm_0.2.2.2.2.2 430 = some (.iadd, 1, 0, 0, 0) := rfl
theorem sl_0_431 : pm_0.2.2.2.2.2 431 = some (.iaload, 1, 0, 0, 0) := rfl
theorem sl_0_432 : pm_0.2.2.2.2.2 432 = some (.invokevirtual 88, 3, 31, 2, 0) := rfl
theorem sl_0_435 : pm_0.2.2.2.2.2 435 = some (.aload_n 2, 1, 0, 0, 0) := rfl
theorem sl_0_436 : pm_0.2.2.2.2.2 436 = some (.aload_n 0, 1, 0, 0, 0) := rfl
theorem sl_0_437 : pm_0.2.2.2.2.2 437 = some (.iload 4, 2, 0, 0, 0) := rfl
theorem sl_0_439 : pm_0.2.2.2.2.2 439 = some (.iconst 1, 1, 0, 0, 0) := rfl
theorem sl_0_440 : pm_0.2.2.2.2.2 440 = some (.iadd, 1, 0, 0, 0) := rfl
theorem sl_0_441 : pm_0.2.2.2.2.2 441 = some (.iaload, 1, 0, 0, 0) := rfl
theorem sl_0_442 : pm_0.2.2.2.2.2 442 = some (.aload_n 0, 1, 0, 0, 0) := rfl
theorem sl_0_443 : pm_0.2.2.2.2.2 443 = some (.iload 4, 2, 0, 0, 0) := rfl
theorem sl_0_445 : pm_0.2.2.2.2.2 445 = some (.iconst 2, 1, 0, 0, 0) := rfl
theorem sl_0_446 : pm_0.2.2.2.2.2 446 = some (.iadd, 1, 0, 0, 0) := rfl
theorem sl_0_447 : pm_0.2.2.2.2.2 447 = some (.iaload, 1, 0, 0, 0) := rfl
theorem sl_0_448 : pm_0.2.2.2.2.2 448 = some (.invokevirtual 91, 3, 304, 2, 0) := rfl
theorem sl_0_451 : pm_0.2.2.2.2.2 451 = some (.if_icmp .eq 721, 3, 0, 0, 0) := rfl
theorem sl_0_456 : pm_0.2.2.2.2.2 456 = some (.aload_n 1, 1, 0, 0, 0) := rfl
theorem sl_0_457 : pm_0.2.2.2.2.2 457 = some (.aload_n 0, 1, 0, 0, 0) := rfl
theorem sl_0_458 : pm_0.2.2.2.2.2 458 = some (.iload 4, 2, 0, 0, 0) := rfl
theorem sl_0_460 : pm_0.2.2.2.2.2 460 = some (.iconst 1, 1, 0, 0, 0) := rfl
theorem sl_0_461 : pm_0.2.2.2.2.2 461 = some (.iadd, 1, 0, 0, 0) := rfl
theorem sl_0_462 : pm_0.2.2.2.2.2 462 = some (.iaload, 1, 0, 0, 0) := rfl
theorem sl_0_463 : pm_0.2.2.2.2.2 463 = some (.aload_n 0, 1, 0, 0, 0) := rfl
theorem sl_0_464 : pm_0.2.2.2.2.2 464 = some (.iload 4, 2, 0, 0, 0) := rfl
theorem sl_0_466 : pm_0.2.2.2.2.2 466 = some (.iconst 2, 1, 0, 0, 0) := rfl
theorem sl_0_467 : pm_0.2.2.2.2.2 467 = some (.iadd, 1, 0, 0, 0) := rfl
theorem sl_0_468 : pm_0.2.2.2.2.2 468 = some (.iaload, 1, 0, 0, 0) := rfl
theorem sl_0_469 : pm_0.2.2.2.2.2 469 = some (.invokevirtual 92, 3, 32, 2, 0) := rfl
theorem sl_0_472 : pm_0.2.2.2.2.2 472 = some (.aload_n 2, 1, 0, 0, 0) := rfl
theorem sl_0_473 : pm_0.2.2.2.2.2 473 = some (.aload_n 0, 1, 0, 0, 0) := rfl
theorem sl_0_474 : pm_0.2.2.2.2.2 474 = some (.iload 4, 2, 0, 0, 0) := rfl
theorem sl_0_476 : pm_0.2.2.2.2.2 476 = some (.iconst 1, 1, 0, 0, 0) := rfl
theorem sl_0_477 : pm_0.2.2.2.2.2 477 = some (.iadd, 1, 0, 0, 0) := rfl
theorem sl_0_478 : pm_0.2.2.2.2.2 478 = some (.iaload, 1, 0, 0, 0) := rfl
theorem sl_0_479 : pm_0.2.2.2.2.2 479 = some (.aload_n 0, 1, 0, 0, 0) := rfl
theorem sl_0_480 : pm_0.2.2.2.2.2 480 = some (.iload 4, 2, 0, 0, 0) := rfl
theorem sl_0_482 : pm_0.2.2.2.2.2 482 = some (.iconst 2, 1, 0, 0, 0) := rfl
theorem sl_0_483 : pm_0.2.2.2.2.2 483 = some (.iadd, 1, 0, 0, 0) := rfl
theorem sl_0_484 : pm_0.2.2.2.2.2 484 = some (.iaload, 1, 0, 0, 0) := rfl
theorem sl_0_485 : pm_0.2.2.2.2.2 485 = some (.invokevirtual 95, 3, 306, 2, 0) := rfl
theorem sl_0_488 : pm_0.2.2.2.2.2 488 = some (.if_icmp .eq 684, 3, 0, 0, 0) := rfl
theorem sl_0_493 : pm_0.2.2.2.2.2 493 = some (.aload_n 1, 1, 0, 0, 0) := rfl
theorem sl_0_494 : pm_0.2.2.2.2.2 494 = some (.aload_n 0, 1, 0, 0, 0) := rfl
theorem sl_0_495 : pm_0.2.2.2.2.2 495 = some (.iload 4, 2, 0, 0, 0) := rfl
theorem sl_0_497 : pm_0.2.2.2.2.2 497 = some (.iconst 1, 1, 0, 0, 0) := rfl
theorem sl_0_498 : pm_0.2.2.2.2.2 498 = some (.iadd, 1, 0, 0, 0) := rfl
theorem sl_0_499 : pm_0.2.2.2.2.2 499 = some (.iaload, 1, 0, 0, 0) := rfl
theorem sl_0_500 : pm_0.2.2.2.2.2 500 = some (.aload_n 3, 1, 0, 0, 0) := rfl
theorem sl_0_501 : pm_0.2.2.2.2.2 501 = some (.invokestatic 96, 3, 161, 3, 3) := rfl
theorem sl_0_504 : pm_0.2.2.2.2.2 504 = some (.istore 5, 2, 0, 0, 0) := rfl
theorem sl_0_506 : pm_0.2.2.2.2.2 506 = some (.aload_n 2, 1, 0, 0, 0) := rfl
theorem sl_0_507 : pm_0.2.2.2.2.2 507 = some (.aload_n 0, 1, 0, 0, 0) := rfl
theorem sl_0_508 : pm_0.2.2.2.2.2 508 = some (.iload 4, 2, 0, 0, 0) := rfl
theorem sl_0_510 : pm_0.2.2.2.2.2 510 = some (.iconst 1, 1, 0, 0, 0) := rfl
theorem sl_0_511 : pm_0.2.2.2.2.2 511 = some (.iadd, 1, 0, 0, 0) := rfl
theorem sl_0_512 : pm_0.2.2.2.2.2 512 = some (.iaload, 1, 0, 0, 0) := rfl
theorem sl_0_513 : pm_0.2.2.2.2.2 513 = some (.invokevirtual 99, 3, 307, 1, 0) := rfl
theorem sl_0_516 : pm_0.2.2.2.2.2 516 = some (.istore 6, 2, 0, 0, 0) := rfl
theorem sl_0_518 : pm_0.2.2.2.2.2 518 = some (.aload_n 2, 1, 0, 0, 0) := rfl
theorem sl_0_519 : pm_0.2.2.2.2.2 519 = some (.invokevirtual 69, 3, 207, 0, 0) := rfl
theorem sl_0_522 : pm_0.2.2.2.2.2 522 = some (.iload 5, 2, 0, 0, 0) := rfl
theorem sl_0_524 : pm_0.2.2.2.2.2 524 = some (.if_icmp .eq 5, 3, 0, 0, 0) := rfl
theorem sl_0_529 : pm_0.2.2.2.2.2 529 = some (.iload 5, 2, 0, 0, 0) := rfl
theorem sl_0_531 : pm_0.2.2.2.2.2 531 = some (.ifCond .ne 15, 3, 0, 0, 0) := rfl
theorem sl_0_546 : pm_0.2.2.2.2.2 546 = some (.goto 626, 3, 0, 0, 0) := rfl
theorem sl_0_549 : pm_0.2.2.2.2.2 549 = some (.aload_n 1, 1, 0, 0, 0) := rfl
theorem sl_0_550 : pm_0.2.2.2.2.2 550 = some (.aload_n 0, 1, 0, 0, 0) := rfl
theorem sl_0_551 : pm_0.2.2.2.2.2 551 = some (.iload 4, 2, 0, 0, 0) := rfl
theorem sl_0_553 : pm_0.2.2.2.2.2 553 = some (.iconst 1, 1, 0, 0, 0) := rfl
theorem sl_0_554 : pm_0.2.2.2.2.2 554 = some (.iadd, 1, 0, 0, 0) := rfl
theorem sl_0_555 : pm_0.2.2.2.2.2 555 = some (.iaload, 1, 0, 0, 0) := rfl
theorem sl_0_556 : pm_0.2.2.2.2.2 556 = some (.aload_n 0, 1, 0, 0, 0) := rfl
theorem sl_0_557 : pm_0.2.2.2.2.2 557 = some (.iload 4, 2, 0, 0, 0) := rfl
theorem sl_0_559 : pm_0.2.2.2.2.2 559 = some (.iconst 2, 1, 0, 0, 0) := rfl
theorem sl_0_560 : pm_0.2.2.2.2.2 560 = some (.iadd, 1, 0, 0, 0) := rfl
theorem sl_0_561 : pm_0.2.2.2.2.2 561 = some (.iaload, 1, 0, 0, 0) := rfl
theorem sl_0_562 : pm_0.2.2.2.2.2 562 = some (.i2l, 1, 0, 0, 0) := rfl
theorem sl_0_563 : pm_0.2.2.2.2.2 563 = some (.bipush 32, 2, 0, 0, 0) := rfl
theorem sl_0_565 : pm_0.2.2.2.2.2 565 = some (.lshl, 1, 0, 0, 0) := rfl
theorem sl_0_566 : pm_0.2.2.2.2.2 566 = some (.aload_n 0, 1, 0, 0, 0) := rfl
theorem sl_0_567 : pm_0.2.2.2.2.2 567 = some (.iload 4, 2, 0, 0, 0) := rfl
theorem sl_0_569 : pm_0.2.2.2.2.2 569 = some (.iconst 3, 1, 0, 0, 0) := rfl
theorem sl_0_570 : pm_0.2.2.2.2.2 570 = some (.iadd, 1, 0, 0, 0) := rfl
theorem sl_0_571 : pm_0.2.2.2.2.2 571 = some (.iaload, 1, 0, 0, 0) := rfl
theorem sl_0_572 : pm_0.2.2.2.2.2 572 = some (.i2l, 1, 0, 0, 0) := rfl
theorem sl_0_573 : pm_0.2.2.2.2.2 573 = some (.ldc2_w 100, 3, 4294967295, 0, 0) := rfl
theorem sl_0_576 : pm_0.2.2.2.2.2 576 = some (.land, 1, 0, 0, 0) := rfl
theorem sl_0_577 : pm_0.2.2.2.2.2 577 = some (.lor, 1, 0, 0, 0) := rfl
theorem sl_0_578 : pm_0.2.2.2.2.2 578 = some (.aload_n 0, 1, 0, 0, 0) := rfl
theorem sl_0_579 : pm_0.2.2.2.2.2 579 = some (.iload 4, 2, 0, 0, 0) := rfl
theorem sl_0_581 : pm_0.2.2.2.2.2 581 = some (.iconst 4, 1, 0, 0, 0) := rfl
theorem sl_0_582 : pm_0.2.2.2.2.2 582 = some (.iadd, 1, 0, 0, 0) := rfl
theorem sl_0_583 : pm_0.2.2.2.2.2 583 = some (.iaload, 1, 0, 0, 0) := rfl
theorem sl_0_584 : pm_0.2.2.2.2.2 584 = some (.i2l, 1, 0, 0, 0) := rfl
theorem sl_0_585 : pm_0.2.2.2.2.2 585 = some (.bipush 32, 2, 0, 0, 0) := rfl
theorem sl_0_587 : pm_0.2.2.2.2.2 587 = some (.lshl, 1, 0, 0, 0) := rfl
theorem sl_0_588 : pm_0.2.2.2.2.2 588 = some (.aload_n 0, 1, 0, 0, 0) := rfl
theorem sl_0_589 : pm_0.2.2.2.2.2 589 = some (.iload 4, 2, 0, 0, 0) := rfl
theorem sl_0_591 : pm_0.2.2.2.2.2 591 = some (.iconst 5, 1, 0, 0, 0) := rfl
theorem sl_0_592 : pm_0.2.2.2.2.2 592 = some (.iadd, 1, 0, 0, 0) := rfl
theorem sl_0_593 : pm_0.2.2.2.2.2 593 = some (.iaload, 1, 0, 0, 0) := rfl
theorem sl_0_594 : pm_0.2.2.2.2.2 594 = some (.i2l, 1, 0, 0, 0) := rfl
theorem sl_0_595 : pm_0.2.2.2.2.2 595 = some (.ldc2_w 100, 3, 4294967295, 0, 0) := rfl
theorem sl_0_598 : pm_0.2.2.2.2.2 598 = some (.land, 1, 0, 0, 0) := rfl
theorem sl_0_599 : pm_0.2.2.2.2.2 599 = some (.lor, 1, 0, 0, 0) := rfl
theorem sl_0_600 : pm_0.2.2.2.2.2 600 = some (.invokestatic 102, 3, 166, 4, 3) := rfl
theorem sl_0_603 : pm_0.2.2.2.2.2 603 = some (.istore 5, 2, 0, 0, 0) := rfl
theorem sl_0_605 : pm_0.2.2.2.2.2 605 = some (.aload_n 2, 1, 0, 0, 0) := rfl
theorem sl_0_606 : pm_0.2.2.2.2.2 606 = some (.aload_n 0, 1, 0, 0, 0) := rfl
theorem sl_0_607 : pm_0.2.2.2.2.2 607 = some (.iload 4, 2, 0, 0, 0) := rfl
theorem sl_0_609 : pm_0.2.2.2.2.2 609 = some (.iconst 1, 1, 0, 0, 0) := rfl
theorem sl_0_610 : pm_0.2.2.2.2.2 610 = some (.iadd, 1, 0, 0, 0) := rfl
theorem sl_0_611 : pm_0.2.2.2.2.2 611 = some (.iaload, 1, 0, 0, 0) := rfl
theorem sl_0_612 : pm_0.2.2.2.2.2 612 = some (.aload_n 0, 1, 0, 0, 0) := rfl
theorem sl_0_613 : pm_0.2.2.2.2.2 613 = some (.iload 4, 2, 0, 0, 0) := rfl
theorem sl_0_615 : pm_0.2.2.2.2.2 615 = some (.iconst 2, 1, 0, 0, 0) := rfl
theorem sl_0_616 : pm_0.2.2.2.2.2 616 = some (.iadd, 1, 0, 0, 0) := rfl
theorem sl_0_617 : pm_0.2.2.2.2.2 617 = some (.iaload, 1, 0, 0, 0) := rfl
theorem sl_0_618 : pm_0.2.2.2.2.2 618 = some (.i2l, 1, 0, 0, 0) := rfl
theorem sl_0_619 : pm_0.2.2.2.2.2 619 = some (.bipush 32, 2, 0, 0, 0) := rfl
theorem sl_0_621 : pm_0.2.2.2.2.2 621 = some (.lshl, 1, 0, 0, 0) := rfl
theorem sl_0_622 : pm_0.2.2.2.2.2 622 = some (.aload_n 0, 1, 0, 0, 0) := rfl
theorem sl_0_623 : pm_0.2.2.2.2.2 623 = some (.iload 4, 2, 0, 0, 0) := rfl
theorem sl_0_625 : pm_0.2.2.2.2.2 625 = some (.iconst 3, 1, 0, 0, 0) := rfl
theorem sl_0_626 : pm_0.2.2.2.2.2 626 = some (.iadd, 1, 0, 0, 0) := rfl
theorem sl_0_627 : pm_0.2.2.2.2.2 627 = some (.iaload, 1, 0, 0, 0) := rfl
theorem sl_0_628 : pm_0.2.2.2.2.2 628 = some (.i2l, 1, 0, 0, 0) := rfl
theorem sl_0_629 : pm_0.2.2.2.2.2 629 = some (.ldc2_w 100, 3, 4294967295, 0, 0) := rfl
theorem sl_0_632 : pm_0.2.2.2.2.2 632 = some (.land, 1, 0, 0, 0) := rfl
theorem sl_0_633 : pm_0.2.2.2.2.2 633 = some (.lor, 1, 0, 0, 0) := rfl
theorem sl_0_634 : pm_0.2.2.2.2.2 634 = some (.aload_n 0, 1, 0, 0, 0) := rfl
theorem sl_0_635 : pm_0.2.2.2.2.2 635 = some (.iload 4, 2, 0, 0, 0) := rfl
theorem sl_0_637 : pm_0.2.2.2.2.2 637 = some (.iconst 4, 1, 0, 0, 0) := rfl
theorem sl_0_638 : pm_0.2.2.2.2.2 638 = some (.iadd, 1, 0, 0, 0) := rfl
theorem sl_0_639 : pm_0.2.2.2.2.2 639 = some (.iaload, 1, 0, 0, 0) := rfl
theorem sl_0_640 : pm_0.2.2.2.2.2 640 = some (.i2l, 1, 0, 0, 0) := rfl
theorem sl_0_641 : pm_0.2.2.2.2.2 641 = some (.bipush 32, 2, 0, 0, 0) := rfl
theorem sl_0_643 : pm_0.2.2.2.2.2 643 = some (.lshl, 1, 0, 0, 0) := rfl
theorem sl_0_644 : pm_0.2.2.2.2.2 644 = some (.aload_n 0, 1, 0, 0, 0) := rfl
theorem sl_0_645 : pm_0.2.2.2.2.2 645 = some (.iload 4, 2, 0, 0, 0) := rfl
theorem sl_0_647 : pm_0.2.2.2.2.2 647 = some (.iconst 5, 1, 0, 0, 0) := rfl
theorem sl_0_648 : pm_0.2.2.2.2.2 648 = some (.iadd, 1, 0, 0, 0) := rfl
theorem sl_0_649 : pm_0.2.2.2.2.2 649 = some (.iaload, 1, 0, 0, 0) := rfl
theorem sl_0_650 : pm_0.2.2.2.2.2 650 = some (.i2l, 1, 0, 0, 0) := rfl
theorem sl_0_651 : pm_0.2.2.2.2.2 651 = some (.ldc2_w 100, 3, 4294967295, 0, 0) := rfl
theorem sl_0_654 : pm_0.2.2.2.2.2 654 = some (.land, 1, 0, 0, 0) := rfl
theorem sl_0_655 : pm_0.2.2.2.2.2 655 = some (.lor, 1, 0, 0, 0) := rfl
theorem sl_0_656 : pm_0.2.2.2.2.2 656 = some (.invokevirtual 105, 3, 309, 3, 0) := rfl
theorem sl_0_659 : pm_0.2.2.2.2.2 659 = some (.aload_n 2, 1, 0, 0, 0) := rfl
theorem sl_0_660 : pm_0.2.2.2.2.2 660 = some (.invokevirtual 69, 3, 207, 0, 0) := rfl
theorem sl_0_663 : pm_0.2.2.2.2.2 663 = some (.iload 5, 2, 0, 0, 0) := rfl
theorem sl_0_665 : pm_0.2.2.2.2.2 665 = some (.if_icmp .eq 5, 3, 0, 0, 0) := rfl
theorem sl_0_670 : pm_0.2.2.2.2.2 670 = some (.goto 502, 3, 0, 0, 0) := rfl
theorem sl_0_673 : pm_0.2.2.2.2.2 673 = some (.aload_n 1, 1, 0, 0, 0) := rfl
theorem sl_0_674 : pm_0.2.2.2.2.2 674 = some (.aload_n 0, 1, 0, 0, 0) := rfl
theorem sl_0_675 : pm_0.2.2.2.2.2 675 = some (.iload 4, 2, 0, 0, 0) := rfl
theorem sl_0_677 : pm_0.2.2.2.2.2 677 = some (.iconst 1, 1, 0, 0, 0) := rfl
theorem sl_0_678 : pm_0.2.2.2.2.2 678 = some (.iadd, 1, 0, 0, 0) := rfl
theorem sl_0_679 : pm_0.2.2.2.2.2 679 = some (.iaload, 1, 0, 0, 0) := rfl
theorem sl_0_680 : pm_0.2.2.2.2.2 680 = some (.aload_n 0, 1, 0, 0, 0) := rfl
theorem sl_0_681 : pm_0.2.2.2.2.2 681 = some (.iload 4, 2, 0, 0, 0) := rfl
theorem sl_0_683 : pm_0.2.2.2.2.2 683 = some (.iconst 2, 1, 0, 0, 0) := rfl
theorem sl_0_684 : pm_0.2.2.2.2.2 684 = some (.iadd, 1, 0, 0, 0) := rfl
theorem sl_0_685 : pm_0.2.2.2.2.2 685 = some (.iaload, 1, 0, 0, 0) := rfl
theorem sl_0_686 : pm_0.2.2.2.2.2 686 = some (.i2l, 1, 0, 0, 0) := rfl
theorem sl_0_687 : pm_0.2.2.2.2.2 687 = some (.bipush 32, 2, 0, 0, 0) := rfl
theorem sl_0_689 : pm_0.2.2.2.2.2 689 = some (.lshl, 1, 0, 0, 0) := rfl
theorem sl_0_690 : pm_0.2.2.2.2.2 690 = some (.aload_n 0, 1, 0, 0, 0) := rfl
theorem sl_0_691 : pm_0.2.2.2.2.2 691 = some (.iload 4, 2, 0, 0, 0) := rfl
theorem sl_0_693 : pm_0.2.2.2.2.2 693 = some (.iconst 3, 1, 0, 0, 0) := rfl
theorem sl_0_694 : pm_0.2.2.2.2.2 694 = some (.iadd, 1, 0, 0, 0) := rfl
theorem sl_0_695 : pm_0.2.2.2.2.2 695 = some (.iaload, 1, 0, 0, 0) := rfl
theorem sl_0_696 : pm_0.2.2.2.2.2 696 = some (.i2l, 1, 0, 0, 0) := rfl
theorem sl_0_697 : pm_0.2.2.2.2.2 697 = some (.ldc2_w 100, 3, 4294967295, 0, 0) := rfl
theorem sl_0_700 : pm_0.2.2.2.2.2 700 = some (.land, 1, 0, 0, 0) := rfl
theorem sl_0_701 : pm_0.2.2.2.2.2 701 = some (.lor, 1, 0, 0, 0) := rfl
theorem sl_0_702 : pm_0.2.2.2.2.2 702 = some (.invokestatic 106, 3, 168, 3, 3) := rfl
theorem sl_0_705 : pm_0.2.2.2.2.2 705 = some (.istore 5, 2, 0, 0, 0) := rfl
theorem sl_0_707 : pm_0.2.2.2.2.2 707 = some (.aload_n 2, 1, 0, 0, 0) := rfl
theorem sl_0_708 : pm_0.2.2.2.2.2 708 = some (.aload_n 0, 1, 0, 0, 0) := rfl
theorem sl_0_709 : pm_0.2.2.2.2.2 709 = some (.iload 4, 2, 0, 0, 0) := rfl
theorem sl_0_711 : pm_0.2.2.2.2.2 711 = some (.iconst 1, 1, 0, 0, 0) := rfl
theorem sl_0_712 : pm_0.2.2.2.2.2 712 = some (.iadd, 1, 0, 0, 0) := rfl
theorem sl_0_713 : pm_0.2.2.2.2.2 713 = some (.iaload, 1, 0, 0, 0) := rfl
theorem sl_0_714 : pm_0.2.2.2.2.2 714 = some (.aload_n 0, 1, 0, 0, 0) := rfl
theorem sl_0_715 : pm_0.2.2.2.2.2 715 = some (.iload 4, 2, 0, 0, 0) := rfl
theorem sl_0_717 : pm_0.2.2.2.2.2 717 = some (.iconst 2, 1, 0, 0, 0) := rfl
theorem sl_0_718 : pm_0.2.2.2.2.2 718 = some (.iadd, 1, 0, 0, 0) := rfl
theorem sl_0_719 : pm_0.2.2.2.2.2 719 = some (.iaload, 1, 0, 0, 0) := rfl
theorem sl_0_720 : pm_0.2.2.2.2.2 720 = some (.i2l, 1, 0, 0, 0) := rfl
theorem sl_0_721 : pm_0.2.2.2.2.2 721 = some (.bipush 32, 2, 0, 0, 0) := rfl
theorem sl_0_723 : pm_0.2.2.2.2.2 723 = some (.lshl, 1, 0, 0, 0) := rfl
theorem sl_0_724 : pm_0.2.2.2.2.2 724 = some (.aload_n 0, 1, 0, 0, 0) := rfl
theorem sl_0_725 : pm_0.2.2.2.2.2 725 = some (.iload 4, 2, 0, 0, 0) := rfl
theorem sl_0_727 : pm_0.2.2.2.2.2 727 = some (.iconst 3, 1, 0, 0, 0) := rfl
theorem sl_0_728 : pm_0.2.2.2.2.2 728 = some (.iadd, 1, 0, 0, 0) := rfl
theorem sl_0_729 : pm_0.2.2.2.2.2 729 = some (.iaload, 1, 0, 0, 0) := rfl
theorem sl_0_730 : pm_0.2.2.2.2.2 730 = some (.i2l, 1, 0, 0, 0) := rfl
theorem sl_0_731 : pm_0.2.2.2.2.2 731 = some (.ldc2_w 100, 3, 4294967295, 0, 0) := rfl
theorem sl_0_734 : pm_0.2.2.2.2.2 734 = some (.land, 1, 0, 0, 0) := rfl
theorem sl_0_735 : pm_0.2.2.2.2.2 735 = some (.lor, 1, 0, 0, 0) := rfl
theorem sl_0_736 : pm_0.2.2.2.2.2 736 = some (.invokevirtual 109, 3, 310, 2, 0) := rfl
theorem sl_0_739 : pm_0.2.2.2.2.2 739 = some (.aload_n 2, 1, 0, 0, 0) := rfl
theorem sl_0_740 : pm_0.2.2.2.2.2 740 = some (.invokevirtual 69, 3, 207, 0, 0) := rfl
theorem sl_0_743 : pm_0.2.2.2.2.2 743 = some (.iload 5, 2, 0, 0, 0) := rfl
theorem sl_0_745 : pm_0.2.2.2.2.2 745 = some (.if_icmp .eq 5, 3, 0, 0, 0) := rfl
theorem sl_0_750 : pm_0.2.2.2.2.2 750 = some (.goto 422, 3, 0, 0, 0) := rfl
theorem sl_0_753 : pm_0.2.2.2.2.2 753 = some (.aload_n 1, 1, 0, 0, 0) := rfl
theorem sl_0_754 : pm_0.2.2.2.2.2 754 = some (.aload_n 0, 1, 0, 0, 0) := rfl
theorem sl_0_755 : pm_0.2.2.2.2.2 755 = some (.iload 4, 2, 0, 0, 0) := rfl
theorem sl_0_757 : pm_0.2.2.2.2.2 757 = some (.iconst 1, 1, 0, 0, 0) := rfl
theorem sl_0_758 : pm_0.2.2.2.2.2 758 = some (.iadd, 1, 0, 0, 0) := rfl
theorem sl_0_759 : pm_0.2.2.2.2.2 759 = some (.iaload, 1, 0, 0, 0) := rfl
theorem sl_0_760 : pm_0.2.2.2.2.2 760 = some (.aload_n 0, 1, 0, 0, 0) := rfl
theorem sl_0_761 : pm_0.2.2.2.2.2 761 = some (.iload 4, 2, 0, 0, 0) := rfl
theorem sl_0_763 : pm_0.2.2.2.2.2 763 = some (.iconst 2, 1, 0, 0, 0) := rfl
theorem sl_0_764 : pm_0.2.2.2.2.2 764 = some (.iadd, 1, 0, 0, 0) := rfl
theorem sl_0_765 : pm_0.2.2.2.2.2 765 = some (.iaload, 1, 0, 0, 0) := rfl
theorem sl_0_766 : pm_0.2.2.2.2.2 766 = some (.aload_n 0, 1, 0, 0, 0) := rfl
theorem sl_0_767 : pm_0.2.2.2.2.2 767 = some (.iload 4, 2, 0, 0, 0) := rfl
theorem sl_0_769 : pm_0.2.2.2.2.2 769 = some (.iconst 3, 1, 0, 0, 0) := rfl
theorem sl_0_770 : pm_0.2.2.2.2.2 770 = some (.iadd, 1, 0, 0, 0) := rfl
theorem sl_0_771 : pm_0.2.2.2.2.2 771 = some (.iaload, 1, 0, 0, 0) := rfl
theorem sl_0_772 : pm_0.2.2.2.2.2 772 = some (.aload_n 0, 1, 0, 0, 0) := rfl
theorem sl_0_773 : pm_0.2.2.2.2.2 773 = some (.iload 4, 2, 0, 0, 0) := rfl
theorem sl_0_775 : pm_0.2.2.2.2.2 775 = some (.iconst 4, 1, 0, 0, 0) := rfl
theorem sl_0_776 : pm_0.2.2.2.2.2 776 = some (.iadd, 1, 0, 0, 0) := rfl
theorem sl_0_777 : pm_0.2.2.2.2.2 777 = some (.iaload, 1, 0, 0, 0) := rfl
theorem sl_0_778 : pm_0.2.2.2.2.2 778 = some (.aload_n 3, 1, 0, 0, 0) := rfl
theorem sl_0_779 : pm_0.2.2.2.2.2 779 = some (.invokestatic 110, 3, 170, 6, 3) := rfl
theorem sl_0_782 : pm_0.2.2.2.2.2 782 = some (.istore 5, 2, 0, 0, 0) := rfl
theorem sl_0_784 : pm_0.2.2.2.2.2 784 = some (.aload_n 2, 1, 0, 0, 0) := rfl
theorem sl_0_785 : pm_0.2.2.2.2.2 785 = some (.aload_n 0, 1, 0, 0, 0) := rfl
theorem sl_0_786 : pm_0.2.2.2.2.2 786 = some (.iload 4, 2, 0, 0, 0) := rfl
theorem sl_0_788 : pm_0.2.2.2.2.2 788 = some (.iconst 1, 1, 0, 0, 0) := rfl
theorem sl_0_789 : pm_0.2.2.2.2.2 789 = some (.iadd, 1, 0, 0, 0) := rfl
theorem sl_0_790 : pm_0.2.2.2.2.2 790 = some (.iaload, 1, 0, 0, 0) := rfl
theorem sl_0_791 : pm_0.2.2.2.2.2 791 = some (.aload_n 0, 1, 0, 0, 0) := rfl
theorem sl_0_792 : pm_0.2.2.2.2.2 792 = some (.iload 4, 2, 0, 0, 0) := rfl
theorem sl_0_794 : pm_0.2.2.2.2.2 794 = some (.iconst 2, 1, 0, 0, 0) := rfl
theorem sl_0_795 : pm_0.2.2.2.2.2 795 = some (.iadd, 1, 0, 0, 0) := rfl
theorem sl_0_796 : pm_0.2.2.2.2.2 796 = some (.iaload, 1, 0, 0, 0) := rfl
theorem sl_0_797 : pm_0.2.2.2.2.2 797 = some (.aload_n 0, 1, 0, 0, 0) := rfl
theorem sl_0_798 : pm_0.2.2.2.2.2 798 = some (.iload 4, 2, 0, 0, 0) := rfl
theorem sl_0_800 : pm_0.2.2.2.2.2 800 = some (.iconst 3, 1, 0, 0, 0) := rfl
theorem sl_0_801 : pm_0.2.2.2.2.2 801 = some (.iadd, 1, 0, 0, 0) := rfl
theorem sl_0_802 : pm_0.2.2.2.2.2 802 = some (.iaload, 1, 0, 0, 0) := rfl
theorem sl_0_803 : pm_0.2.2.2.2.2 803 = some (.aload_n 0, 1, 0, 0, 0) := rfl
theorem sl_0_804 : pm_0.2.2.2.2.2 804 = some (.iload 4, 2, 0, 0, 0) := rfl
theorem sl_0_806 : pm_0.2.2.2.2.2 806 = some (.iconst 4, 1, 0, 0, 0) := rfl
theorem sl_0_807 : pm_0.2.2.2.2.2 807 = some (.iadd, 1, 0, 0, 0) := rfl
theorem sl_0_808 : pm_0.2.2.2.2.2 808 = some (.iaload, 1, 0, 0, 0) := rfl
theorem sl_0_809 : pm_0.2.2.2.2.2 809 = some (.invokevirtual 113, 3, 311, 4, 0) := rfl
theorem sl_0_812 : pm_0.2.2.2.2.2 812 = some (.istore 6, 2, 0, 0, 0) := rfl
theorem sl_0_814 : pm_0.2.2.2.2.2 814 = some (.aload_n 2, 1, 0, 0, 0) := rfl
theorem sl_0_815 : pm_0.2.2.2.2.2 815 = some (.invokevirtual 69, 3, 207, 0, 0) := rfl
theorem sl_0_818 : pm_0.2.2.2.2.2 818 = some (.iload 5, 2, 0, 0, 0) := rfl
theorem sl_0_820 : pm_0.2.2.2.2.2 820 = some (.if_icmp .eq 5, 3, 0, 0, 0) := rfl
theorem sl_0_825 : pm_0.2.2.2.2.2 825 = some (.iload 5, 2, 0, 0, 0) := rfl
theorem sl_0_827 : pm_0.2.2.2.2.2 827 = some (.ifCond .ne 15, 3, 0, 0, 0) := rfl
theorem sl_0_842 : pm_0.2.2.2.2.2 842 = some (.goto 330, 3, 0, 0, 0) := rfl
theorem sl_0_845 : pm_0.2.2.2.2.2 845 = some (.aload_n 1, 1, 0, 0, 0) := rfl
theorem sl_0_846 : pm_0.2.2.2.2.2 846 = some (.aload_n 0, 1, 0, 0, 0) := rfl
theorem sl_0_847 : pm_0.2.2.2.2.2 847 = some (.iload 4, 2, 0, 0, 0) := rfl
theorem sl_0_849 : pm_0.2.2.2.2.2 849 = some (.iconst 1, 1, 0, 0, 0) := rfl
theorem sl_0_850 : pm_0.2.2.2.2.2 850 = some (.iadd, 1, 0, 0, 0) := rfl
theorem sl_0_851 : pm_0.2.2.2.2.2 851 = some (.iaload, 1, 0, 0, 0) := rfl
theorem sl_0_852 : pm_0.2.2.2.2.2 852 = some (.aload_n 3, 1, 0, 0, 0) := rfl
theorem sl_0_853 : pm_0.2.2.2.2.2 853 = some (.invokestatic 114, 3, 175, 3, 3) := rfl
theorem sl_0_856 : pm_0.2.2.2.2.2 856 = some (.istore 5, 2, 0, 0, 0) := rfl
theorem sl_0_858 : pm_0.2.2.2.2.2 858 = some (.aload_n 2, 1, 0, 0, 0) := rfl
theorem sl_0_859 : pm_0.2.2.2.2.2 859 = some (.aload_n 0, 1, 0, 0, 0) := rfl
theorem sl_0_860 : pm_0.2.2.2.2.2 860 = some (.iload 4, 2, 0, 0, 0) := rfl
theorem sl_0_862 : pm_0.2.2.2.2.2 862 = some (.iconst 1, 1, 0, 0, 0) := rfl
theorem sl_0_863 : pm_0.2.2.2.2.2 863 = some (.iadd, 1, 0, 0, 0) := rfl
theorem sl_0_864 : pm_0.2.2.2.2.2 864 = some (.iaload, 1, 0, 0, 0) := rfl
theorem sl_0_865 : pm_0.2.2.2.2.2 865 = some (.invokevirtual 116, 3, 312, 1, 0) := rfl
theorem sl_0_868 : pm_0.2.2.2.2.2 868 = some (.istore 6, 2, 0, 0, 0) := rfl
theorem sl_0_870 : pm_0.2.2.2.2.2 870 = some (.aload_n 2, 1, 0, 0, 0) := rfl
theorem sl_0_871 : pm_0.2.2.2.2.2 871 = some (.invokevirtual 69, 3, 207, 0, 0) := rfl
theorem sl_0_874 : pm_0.2.2.2.2.2 874 = some (.iload 5, 2, 0, 0, 0) := rfl
theorem sl_0_876 : pm_0.2.2.2.2.2 876 = some (.if_icmp .eq 5, 3, 0, 0, 0) := rfl
theorem sl_0_881 : pm_0.2.2.2.2.2 881 = some (.iload 5, 2, 0, 0, 0) := rfl
theorem sl_0_883 : pm_0.2.2.2.2.2 883 = some (.ifCond .ne 15, 3, 0, 0, 0) := rfl
theorem sl_0_898 : pm_0.2.2.2.2.2 898 = some (.goto 274, 3, 0, 0, 0) := rfl
theorem sl_0_901 : pm_0.2.2.2.2.2 901 = some (.aload_n 1, 1, 0, 0, 0) := rfl
theorem sl_0_902 : pm_0.2.2.2.2.2 902 = some (.aload_n 0, 1, 0, 0, 0) := rfl
theorem sl_0_903 : pm_0.2.2.2.2.2 903 = some (.iload 4, 2, 0, 0, 0) := rfl
theorem sl_0_905 : pm_0.2.2.2.2.2 905 = some (.iconst 1, 1, 0, 0, 0) := rfl
theorem sl_0_906 : pm_0.2.2.2.2.2 906 = some (.iadd, 1, 0, 0, 0) := rfl
theorem sl_0_907 : pm_0.2.2.2.2.2 907 = some (.iaload, 1, 0, 0, 0) := rfl
theorem sl_0_908 : pm_0.2.2.2.2.2 908 = some (.aload_n 0, 1, 0, 0, 0) := rfl
theorem sl_0_909 : pm_0.2.2.2.2.2 909 = some (.iload 4, 2, 0, 0, 0) := rfl
theorem sl_0_911 : pm_0.2.2.2.2.2 911 = some (.iconst 2, 1, 0, 0, 0) := rfl
theorem sl_0_912 : pm_0.2.2.2.2.2 912 = some (.iadd, 1, 0, 0, 0) := rfl
theorem sl_0_913 : pm_0.2.2.2.2.2 913 = some (.iaload, 1, 0, 0, 0) := rfl
theorem sl_0_914 : pm_0.2.2.2.2.2 914 = some (.invokevirtual 117, 3, 34, 2, 0) := rfl
theorem sl_0_917 : pm_0.2.2.2.2.2 917 = some (.aload_n 2, 1, 0, 0, 0) := rfl
theorem sl_0_918 : pm_0.2.2.2.2.2 918 = some (.aload_n 0, 1, 0, 0, 0) := rfl
theorem sl_0_919 : pm_0.2.2.2.2.2 919 = some (.iload 4, 2, 0, 0, 0) := rfl
theorem sl_0_921 : pm_0.2.2.2.2.2 921 = some (.iconst 1, 1, 0, 0, 0) := rfl
theorem sl_0_922 : pm_0.2.2.2.2.2 922 = some (.iadd, 1, 0, 0, 0) := rfl
theorem sl_0_923 : pm_0.2.2.2.2.2 923 = some (.iaload, 1, 0, 0, 0) := rfl
theorem sl_0_924 : pm_0.2.2.2.2.2 924 = some (.aload_n 0, 1, 0, 0, 0) := rfl
theorem sl_0_925 : pm_0.2.2.2.2.2 925 = some (.iload 4, 2, 0, 0, 0) := rfl
theorem sl_0_927 : pm_0.2.2.2.2.2 927 = some (.iconst 2, 1, 0, 0, 0) := rfl
theorem sl_0_928 : pm_0.2.2.2.2.2 928 = some (.iadd, 1, 0, 0, 0) := rfl
theorem sl_0_929 : pm_0.2.2.2.2.2 929 = some (.iaload, 1, 0, 0, 0) := rfl
theorem sl_0_930 : pm_0.2.2.2.2.2 930 = some (.invokevirtual 120, 3, 342, 2, 0) := rfl
theorem sl_0_933 : pm_0.2.2.2.2.2 933 = some (.if_icmp .eq 239, 3, 0, 0, 0) := rfl
theorem sl_0_938 : pm_0.2.2.2.2.2 938 = some (.aload_n 1, 1, 0, 0, 0) := rfl
theorem sl_0_939 : pm_0.2.2.2.2.2 939 = some (.aload_n 0, 1, 0, 0, 0) := rfl
theorem sl_0_940 : pm_0.2.2.2.2.2 940 = some (.iload 4, 2, 0, 0, 0) := rfl
theorem sl_0_942 : pm_0.2.2.2.2.2 942 = some (.iconst 1, 1, 0, 0, 0) := rfl
theorem sl_0_943 : pm_0.2.2.2.2.2 943 = some (.iadd, 1, 0, 0, 0) := rfl
theorem sl_0_944 : pm_0.2.2.2.2.2 944 = some (.iaload, 1, 0, 0, 0) := rfl
theorem sl_0_945 : pm_0.2.2.2.2.2 945 = some (.aload_n 0, 1, 0, 0, 0) := rfl
theorem sl_0_946 : pm_0.2.2.2.2.2 946 = some (.iload 4, 2, 0, 0, 0) := rfl
theorem sl_0_948 : pm_0.2.2.2.2.2 948 = some (.iconst 2, 1, 0, 0, 0) := rfl
theorem sl_0_949 : pm_0.2.2.2.2.2 949 = some (.iadd, 1, 0, 0, 0) := rfl
theorem sl_0_950 : pm_0.2.2.2.2.2 950 = some (.iaload, 1, 0, 0, 0) := rfl
theorem sl_0_951 : pm_0.2.2.2.2.2 951 = some (.invokevirtual 121, 3, 37, 2, 0) := rfl
theorem sl_0_954 : pm_0.2.2.2.2.2 954 = some (.aload_n 2, 1, 0, 0, 0) := rfl
theorem sl_0_955 : pm_0.2.2.2.2.2 955 = some (.aload_n 0, 1, 0, 0, 0) := rfl
theorem sl_0_956 : pm_0.2.2.2.2.2 956 = some (.iload 4, 2, 0, 0, 0) := rfl
theorem sl_0_958 : pm_0.2.2.2.2.2 958 = some (.iconst 1, 1, 0, 0, 0) := rfl
theorem sl_0_959 : pm_0.2.2.2.2.2 959 = some (.iadd, 1, 0, 0, 0) := rfl
theorem sl_0_960 : pm_0.2.2.2.2.2 960 = some (.iaload, 1, 0, 0, 0) := rfl
theorem sl_0_961 : pm_0.2.2.2.2.2 961 = some (.aload_n 0, 1, 0, 0, 0) := rfl
theorem sl_0_962 : pm_0.2.2.2.2.2 962 = some (.iload 4, 2, 0, 0, 0) := rfl
theorem sl_0_964 : pm_0.2.2.2.2.2 964 = some (.iconst 2, 1, 0, 0, 0) := rfl
theorem sl_0_965 : pm_0.2.2.2.2.2 965 = some (.iadd, 1, 0, 0, 0) := rfl
theorem sl_0_966 : pm_0.2.2.2.2.2 966 = some (.iaload, 1, 0, 0, 0) := rfl
theorem sl_0_967 : pm_0.2.2.2.2.2 967 = some (.invokevirtual 124, 3, 344, 2, 0) := rfl
theorem sl_0_970 : pm_0.2.2.2.2.2 970 = some (.if_icmp .eq 202, 3, 0, 0, 0) := rfl
theorem sl_0_975 : pm_0.2.2.2.2.2 975 = some (.aload_n 1, 1, 0, 0, 0) := rfl
theorem sl_0_976 : pm_0.2.2.2.2.2 976 = some (.aload_n 0, 1, 0, 0, 0) := rfl
theorem sl_0_977 : pm_0.2.2.2.2.2 977 = some (.iload 4, 2, 0, 0, 0) := rfl
theorem sl_0_979 : pm_0.2.2.2.2.2 979 = some (.iconst 1, 1, 0, 0, 0) := rfl
theorem sl_0_980 : pm_0.2.2.2.2.2 980 = some (.iadd, 1, 0, 0, 0) := rfl
theorem sl_0_981 : pm_0.2.2.2.2.2 981 = some (.iaload, 1, 0, 0, 0) := rfl
theorem sl_0_982 : pm_0.2.2.2.2.2 982 = some (.aload_n 0, 1, 0, 0, 0) := rfl
theorem sl_0_983 : pm_0.2.2.2.2.2 983 = some (.iload 4, 2, 0, 0, 0) := rfl
theorem sl_0_985 : pm_0.2.2.2.2.2 985 = some (.iconst 2, 1, 0, 0, 0) := rfl
theorem sl_0_986 : pm_0.2.2.2.2.2 986 = some (.iadd, 1, 0, 0, 0) := rfl
theorem sl_0_987 : pm_0.2.2.2.2.2 987 = some (.iaload, 1, 0, 0, 0) := rfl
theorem sl_0_988 : pm_0.2.2.2.2.2 988 = some (.invokevirtual 125, 3, 38, 2, 0) := rfl
theorem sl_0_991 : pm_0.2.2.2.2.2 991 = some (.aload_n 2, 1, 0, 0, 0) := rfl
theorem sl_0_992 : pm_0.2.2.2.2.2 992 = some (.aload_n 0, 1, 0, 0, 0) := rfl
theorem sl_0_993 : pm_0.2.2.2.2.2 993 = some (.iload 4, 2, 0, 0, 0) := rfl
theorem sl_0_995 : pm_0.2.2.2.2.2 995 = some (.iconst 1, 1, 0, 0, 0) := rfl
theorem sl_0_996 : pm_0.2.2.2.2.2 996 = some (.iadd, 1, 0, 0, 0) := rfl
theorem sl_0_997 : pm_0.2.2.2.2.2 997 = some (.iaload, 1, 0, 0, 0) := rfl
theorem sl_0_998 : pm_0.2.2.2.2.2 998 = some (.aload_n 0, 1, 0, 0, 0) := rfl
theorem sl_0_999 : pm_0.2.2.2.2.2 999 = some (.iload 4, 2, 0, 0, 0) := rfl
theorem sl_0_1001 : pm_0.2.2.2.2.2 1001 = some (.iconst 2, 1, 0, 0, 0) := rfl
theorem sl_0_1002 : pm_0.2.2.2.2.2 1002 = some (.iadd, 1, 0, 0, 0) := rfl
theorem sl_0_1003 : pm_0.2.2.2.2.2 1003 = some (.iaload, 1, 0, 0, 0) := rfl
theorem sl_0_1004 : pm_0.2.2.2.2.2 1004 = some (.invokevirtual 128, 3, 345, 2, 0) := rfl
theorem sl_0_1007 : pm_0.2.2.2.2.2 1007 = some (.if_icmp .eq 165, 3, 0, 0, 0) := rfl
theorem sl_0_1012 : pm_0.2.2.2.2.2 1012 = some (.aload_n 1, 1, 0, 0, 0) := rfl
theorem sl_0_1013 : pm_0.2.2.2.2.2 1013 = some (.aload_n 0, 1, 0, 0, 0) := rfl
theorem sl_0_1014 : pm_0.2.2.2.2.2 1014 = some (.iload 4, 2, 0, 0, 0) := rfl
theorem sl_0_1016 : pm_0.2.2.2.2.2 1016 = some (.iconst 1, 1, 0, 0, 0) := rfl
theorem sl_0_1017 : pm_0.2.2.2.2.2 1017 = some (.iadd, 1, 0, 0, 0) := rfl
theorem sl_0_1018 : pm_0.2.2.2.2.2 1018 = some (.iaload, 1, 0, 0, 0) := rfl
theorem sl_0_1019 : pm_0.2.2.2.2.2 1019 = some (.aload_n 0, 1, 0, 0, 0) := rfl
theorem sl_0_1020 : pm_0.2.2.2.2.2 1020 = some (.iload 4, 2, 0, 0, 0) := rfl
theorem sl_0_1022 : pm_0.2.2.2.2.2 1022 = some (.iconst 2, 1, 0, 0, 0) := rfl
theorem sl_0_1023 : pm_0.2.2.2.2.2 1023 = some (.iadd, 1, 0, 0, 0) := rfl
theorem sl_0_1024 : pm_0.2.2.2.2.2 1024 = some (.iaload, 1, 0, 0, 0) := rfl
theorem sl_0_1025 : pm_0.2.2.2.2.2 1025 = some (.aload_n 3, 1, 0, 0, 0) := rfl
theorem sl_0_1026 : pm_0.2.2.2.2.2 1026 = some (.invokestatic 129, 3, 202, 4, 3) := rfl
theorem sl_0_1029 : pm_0.2.2.2.2.2 1029 = some (.istore 5, 2, 0, 0, 0) := rfl
theorem sl_0_1031 : pm_0.2.2.2.2.2 1031 = some (.aload_n 2, 1, 0, 0, 0) := rfl
theorem sl_0_1032 : pm_0.2.2.2.2.2 1032 = some (.aload_n 0, 1, 0, 0, 0) := rfl
theorem sl_0_1033 : pm_0.2.2.2.2.2 1033 = some (.iload 4, 2, 0, 0, 0) := rfl
theorem sl_0_1035 : pm_0.2.2.2.2.2 1035 = some (.iconst 1, 1, 0, 0, 0) := rfl
theorem sl_0_1036 : pm_0.2.2.2.2.2 1036 = some (.iadd, 1, 0, 0, 0) := rfl
theorem sl_0_1037 : pm_0.2.2.2.2.2 1037 = some (.iaload, 1, 0, 0, 0) := rfl
theorem sl_0_1038 : pm_0.2.2.2.2.2 1038 = some (.aload_n 0, 1, 0, 0, 0) := rfl
theorem sl_0_1039 : pm_0.2.2.2.2.2 1039 = some (.iload 4, 2, 0, 0, 0) := rfl
theorem sl_0_1041 : pm_0.2.2.2.2.2 1041 = some (.iconst 2, 1, 0, 0, 0) := rfl
theorem sl_0_1042 : pm_0.2.2.2.2.2 1042 = some (.iadd, 1, 0, 0, 0) := rfl
theorem sl_0_1043 : pm_0.2.2.2.2.2 1043 = some (.iaload, 1, 0, 0, 0) := rfl
theorem sl_0_1044 : pm_0.2.2.2.2.2 1044 = some (.invokevirtual 132, 3, 346, 2, 0) := rfl
theorem sl_0_1047 : pm_0.2.2.2.2.2 1047 = some (.lstore 6, 2, 0, 0, 0) := rfl
theorem sl_0_1049 : pm_0.2.2.2.2.2 1049 = some (.aload_n 2, 1, 0, 0, 0) := rfl
theorem sl_0_1050 : pm_0.2.2.2.2.2 1050 = some (.invokevirtual 69, 3, 207, 0, 0) := rfl
theorem sl_0_1053 : pm_0.2.2.2.2.2 1053 = some (.iload 5, 2, 0, 0, 0) := rfl
theorem sl_0_1055 : pm_0.2.2.2.2.2 1055 = some (.if_icmp .eq 5, 3, 0, 0, 0) := rfl
theorem sl_0_1060 : pm_0.2.2.2.2.2 1060 = some (.iload 5, 2, 0, 0, 0) := rfl
theorem sl_0_1062 : pm_0.2.2.2.2.2 1062 = some (.ifCond .ne 14, 3, 0, 0, 0) := rfl
theorem sl_0_1065 : pm_0.2.2.2.2.2 1065 = some (.aload_n 3, 1, 0, 0, 0) := rfl
theorem sl_0_1066 : pm_0.2.2.2.2.2 1066 = some (.iconst 0, 1, 0, 0, 0) := rfl
theorem sl_0_1067 : pm_0.2.2.2.2.2 1067 = some (.laload, 1, 0, 0, 0) := rfl
theorem sl_0_1068 : pm_0.2.2.2.2.2 1068 = some (.lload 6, 2, 0, 0, 0) := rfl
theorem sl_0_1070 : pm_0.2.2.2.2.2 1070 = some (.lcmp, 1, 0, 0, 0) := rfl
theorem sl_0_1071 : pm_0.2.2.2.2.2 1071 = some (.ifCond .eq 5, 3, 0, 0, 0) := rfl
theorem sl_0_1076 : pm_0.2.2.2.2.2 1076 = some (.goto 96, 3, 0, 0, 0) := rfl
theorem sl_0_1079 : pm_0.2.2.2.2.2 1079 = some (.aload_n 1, 1, 0, 0, 0) := rfl
theorem sl_0_1080 : pm_0.2.2.2.2.2 1080 = some (.aload_n 0, 1, 0, 0, 0) := rfl
theorem sl_0_1081 : pm_0.2.2.2.2.2 1081 = some (.iload 4, 2, 0, 0, 0) := rfl
theorem sl_0_1083 : pm_0.2.2.2.2.2 1083 = some (.iconst 1, 1, 0, 0, 0) := rfl
theorem sl_0_1084 : pm_0.2.2.2.2.2 1084 = some (.iadd, 1, 0, 0, 0) := rfl
theorem sl_0_1085 : pm_0.2.2.2.2.2 1085 = some (.iaload, 1, 0, 0, 0) := rfl
theorem sl_0_1086 : pm_0.2.2.2.2.2 1086 = some (.aload_n 0, 1, 0, 0, 0) := rfl
theorem sl_0_1087 : pm_0.2.2.2.2.2 1087 = some (.iload 4, 2, 0, 0, 0) := rfl
theorem sl_0_1089 : pm_0.2.2.2.2.2 1089 = some (.iconst 2, 1, 0, 0, 0) := rfl
theorem sl_0_1090 : pm_0.2.2.2.2.2 1090 = some (.iadd, 1, 0, 0, 0) := rfl
theorem sl_0_1091 : pm_0.2.2.2.2.2 1091 = some (.iaload, 1, 0, 0, 0) := rfl
theorem sl_0_1092 : pm_0.2.2.2.2.2 1092 = some (.aload_n 3, 1, 0, 0, 0) := rfl
theorem sl_0_1093 : pm_0.2.2.2.2.2 1093 = some (.invokestatic 133, 3, 204, 4, 3) := rfl
theorem sl_0_1096 : pm_0.2.2.2.2.2 1096 = some (.istore 5, 2, 0, 0, 0) := rfl
theorem sl_0_1098 : pm_0.2.2.2.2.2 1098 = some (.aload_n 2, 1, 0, 0, 0) := rfl
theorem sl_0_1099 : pm_0.2.2.2.2.2 1099 = some (.aload_n 0, 1, 0, 0, 0) := rfl
theorem sl_0_1100 : pm_0.2.2.2.2.2 1100 = some (.iload 4, 2, 0, 0, 0) := rfl
theorem sl_0_1102 : pm_0.2.2.2.2.2 1102 = some (.iconst 1, 1, 0, 0, 0) := rfl
theorem sl_0_1103 : pm_0.2.2.2.2.2 1103 = some (.iadd, 1, 0, 0, 0) := rfl
theorem sl_0_1104 : pm_0.2.2.2.2.2 1104 = some (.iaload, 1, 0, 0, 0) := rfl
theorem sl_0_1105 : pm_0.2.2.2.2.2 1105 = some (.aload_n 0, 1, 0, 0, 0) := rfl
theorem sl_0_1106 : pm_0.2.2.2.2.2 1106 = some (.iload 4, 2, 0, 0, 0) := rfl
theorem sl_0_1108 : pm_0.2.2.2.2.2 1108 = some (.iconst 2, 1, 0, 0, 0) := rfl
theorem sl_0_1109 : pm_0.2.2.2.2.2 1109 = some (.iadd, 1, 0, 0, 0) := rfl
theorem sl_0_1110 : pm_0.2.2.2.2.2 1110 = some (.iaload, 1, 0, 0, 0) := rfl
theorem sl_0_1111 : pm_0.2.2.2.2.2 1111 = some (.invokevirtual 135, 3, 347, 2, 0) := rfl
theorem sl_0_1114 : pm_0.2.2.2.2.2 1114 = some (.istore 6, 2, 0, 0, 0) := rfl
theorem sl_0_1116 : pm_0.2.2.2.2.2 1116 = some (.aload_n 2, 1, 0, 0, 0) := rfl
theorem sl_0_1117 : pm_0.2.2.2.2.2 1117 = some (.invokevirtual 69, 3, 207, 0, 0) := rfl
theorem sl_0_1120 : pm_0.2.2.2.2.2 1120 = some (.iload 5, 2, 0, 0, 0) := rfl
theorem sl_0_1122 : pm_0.2.2.2.2.2 1122 = some (.if_icmp .eq 5, 3, 0, 0, 0) := rfl
theorem sl_0_1127 : pm_0.2.2.2.2.2 1127 = some (.iload 5, 2, 0, 0, 0) := rfl
theorem sl_0_1129 : pm_0.2.2.2.2.2 1129 = some (.ifCond .ne 15, 3, 0, 0, 0) := rfl
theorem sl_0_1132 : pm_0.2.2.2.2.2 1132 = some (.aload_n 3, 1, 0, 0, 0) := rfl
theorem sl_0_1133 : pm_0.2.2.2.2.2 1133 = some (.iconst 0, 1, 0, 0, 0) := rfl
theorem sl_0_1134 : pm_0.2.2.2.2.2 1134 = some (.laload, 1, 0, 0, 0) := rfl
theorem sl_0_1135 : pm_0.2.2.2.2.2 1135 = some (.iload 6, 2, 0, 0, 0) := rfl
theorem sl_0_1137 : pm_0.2.2.2.2.2 1137 = some (.i2l, 1, 0, 0, 0) := rfl
theorem sl_0_1138 : pm_0.2.2.2.2.2 1138 = some (.lcmp, 1, 0, 0, 0) := rfl
theorem sl_0_1139 : pm_0.2.2.2.2.2 1139 = some (.ifCond .eq 5, 3, 0, 0, 0) := rfl
theorem sl_0_1144 : pm_0.2.2.2.2.2 1144 = some (.goto 28, 3, 0, 0, 0) := rfl
theorem sl_0_1147 : pm_0.2.2.2.2.2 1147 = some (.aload_n 1, 1, 0, 0, 0) := rfl
theorem sl_0_1148 : pm_0.2.2.2.2.2 1148 = some (.aload_n 0, 1, 0, 0, 0) := rfl
theorem sl_0_1149 : pm_0.2.2.2.2.2 1149 = some (.iload 4, 2, 0, 0, 0) := rfl
theorem sl_0_1151 : pm_0.2.2.2.2.2 1151 = some (.iconst 1, 1, 0, 0, 0) := rfl
theorem sl_0_1152 : pm_0.2.2.2.2.2 1152 = some (.iadd, 1, 0, 0, 0) := rfl
theorem sl_0_1153 : pm_0.2.2.2.2.2 1153 = some (.iaload, 1, 0, 0, 0) := rfl
theorem sl_0_1154 : pm_0.2.2.2.2.2 1154 = some (.invokevirtual 136, 3, 39, 1, 0) := rfl
theorem sl_0_1157 : pm_0.2.2.2.2.2 1157 = some (.aload_n 2, 1, 0, 0, 0) := rfl
theorem sl_0_1158 : pm_0.2.2.2.2.2 1158 = some (.aload_n 0, 1, 0, 0, 0) := rfl
theorem sl_0_1159 : pm_0.2.2.2.2.2 1159 = some (.iload 4, 2, 0, 0, 0) := rfl
theorem sl_0_1161 : pm_0.2.2.2.2.2 1161 = some (.iconst 1, 1, 0, 0, 0) := rfl
theorem sl_0_1162 : pm_0.2.2.2.2.2 1162 = some (.iadd, 1, 0, 0, 0) := rfl
theorem sl_0_1163 : pm_0.2.2.2.2.2 1163 = some (.iaload, 1, 0, 0, 0) := rfl
theorem sl_0_1164 : pm_0.2.2.2.2.2 1164 = some (.invokevirtual 139, 3, 348, 1, 0) := rfl
theorem sl_0_1167 : pm_0.2.2.2.2.2 1167 = some (.if_icmp .eq 5, 3, 0, 0, 0) := rfl
theorem sl_0_1172 : pm_0.2.2.2.2.2 1172 = some (.iinc 4 6, 3, 0, 0, 0) := rfl
theorem sl_0_1175 : pm_0.2.2.2.2.2 1175 = some (.goto (-1152), 3, 0, 0, 0) := rfl
theorem sl_0_1178 : pm_0.2.2.2.2.2 1178 = some (.iconst 1, 1, 0, 0, 0) := rfl
theorem sl_0_1179 : pm_0.2.2.2.2.2 1179 = some (.ireturn, 1, 0, 0, 0) := rfl
theorem sl_23_0 : pm_23.2.2.2.2.2 0 = some (.aload_n 0, 1, 0, 0, 0) := rfl
theorem sl_23_1 : pm_23.2.2.2.2.2 1 = some (.getfield 9, 3, 0, 0, 0) := rfl
theorem sl_23_4 : pm_23.2.2.2.2.2 4 = some (.iconst 0, 1, 0, 0, 0) := rfl
theorem sl_23_5 : pm_23.2.2.2.2.2 5 = some (.iload_n 1, 1, 0, 0, 0) := rfl
theorem sl_23_6 : pm_23.2.2.2.2.2 6 = some (.iastore, 1, 0, 0, 0) := rfl
theorem sl_23_7 : pm_23.2.2.2.2.2 7 = some (.aload_n 0, 1, 0, 0, 0) := rfl
theorem sl_23_8 : pm_23.2.2.2.2.2 8 = some (.getfield 9, 3, 0, 0, 0) := rfl
theorem sl_23_11 : pm_23.2.2.2.2.2 11 = some (.iconst 1, 1, 0, 0, 0) := rfl
theorem sl_23_12 : pm_23.2.2.2.2.2 12 = some (.iload_n 2, 1, 0, 0, 0) := rfl
theorem sl_23_13 : pm_23.2.2.2.2.2 13 = some (.iastore, 1, 0, 0, 0) := rfl
theorem sl_23_14 : pm_23.2.2.2.2.2 14 = some (.aload_n 0, 1, 0, 0, 0) := rfl
theorem sl_23_15 : pm_23.2.2.2.2.2 15 = some (.getfield 9, 3, 0, 0, 0) := rfl
theorem sl_23_18 : pm_23.2.2.2.2.2 18 = some (.iconst 2, 1, 0, 0, 0) := rfl
theorem sl_23_19 : pm_23.2.2.2.2.2 19 = some (.iload_n 3, 1, 0, 0, 0) := rfl
theorem sl_23_20 : pm_23.2.2.2.2.2 20 = some (.iastore, 1, 0, 0, 0) := rfl
theorem sl_23_21 : pm_23.2.2.2.2.2 21 = some (.aload_n 0, 1, 0, 0, 0) := rfl
theorem sl_23_22 : pm_23.2.2.2.2.2 22 = some (.getfield 9, 3, 0, 0, 0) := rfl
theorem sl_23_25 : pm_23.2.2.2.2.2 25 = some (.iconst 3, 1, 0, 0, 0) := rfl
theorem sl_23_26 : pm_23.2.2.2.2.2 26 = some (.iload 4, 2, 0, 0, 0) := rfl
theorem sl_23_28 : pm_23.2.2.2.2.2 28 = some (.iastore, 1, 0, 0, 0) := rfl
theorem sl_23_29 : pm_23.2.2.2.2.2 29 = some (.aload_n 0, 1, 0, 0, 0) := rfl
theorem sl_23_30 : pm_23.2.2.2.2.2 30 = some (.getfield 9, 3, 0, 0, 0) := rfl
theorem sl_23_33 : pm_23.2.2.2.2.2 33 = some (.iconst 4, 1, 0, 0, 0) := rfl
theorem sl_23_34 : pm_23.2.2.2.2.2 34 = some (.iload 5, 2, 0, 0, 0) := rfl
theorem sl_23_36 : pm_23.2.2.2.2.2 36 = some (.iastore, 1, 0, 0, 0) := rfl
theorem sl_23_37 : pm_23.2.2.2.2.2 37 = some (.return_, 1, 0, 0, 0) := rfl
theorem sl_24_0 : pm_24.2.2.2.2.2 0 = some (.iload_n 1, 1, 0, 0, 0) := rfl
theorem sl_24_1 : pm_24.2.2.2.2.2 1 = some (.ifCond .lt 21, 3, 0, 0, 0) := rfl
theorem sl_24_4 : pm_24.2.2.2.2.2 4 = some (.iload_n 1, 1, 0, 0, 0) := rfl
theorem sl_24_5 : pm_24.2.2.2.2.2 5 = some (.bipush 20, 2, 0, 0, 0) := rfl
theorem sl_24_7 : pm_24.2.2.2.2.2 7 = some (.if_icmp .gt 15, 3, 0, 0, 0) := rfl
theorem sl_24_22 : pm_24.2.2.2.2.2 22 = some (.iconst (-1), 1, 0, 0, 0) := rfl
theorem sl_24_23 : pm_24.2.2.2.2.2 23 = some (.ireturn, 1, 0, 0, 0) := rfl
theorem sl_26_0 : pm_26.2.2.2.2.2 0 = some (.iload_n 1, 1, 0, 0, 0) := rfl
theorem sl_26_1 : pm_26.2.2.2.2.2 1 = some (.ifCond .ne 13, 3, 0, 0, 0) := rfl
theorem sl_26_4 : pm_26.2.2.2.2.2 4 = some (.aload_n 0, 1, 0, 0, 0) := rfl
theorem sl_26_5 : pm_26.2.2.2.2.2 5 = some (.getfield 32, 3, 0, 6, 0) := rfl
theorem sl_26_8 : pm_26.2.2.2.2.2 8 = some (.getfield 134, 3, 11, 14, 0) := rfl
theorem sl_26_11 : pm_26.2.2.2.2.2 11 = some (.goto 19, 3, 0, 0, 0) := rfl
theorem sl_26_14 : pm_26.2.2.2.2.2 14 = some (.iload_n 1, 1, 0, 0, 0) := rfl
theorem sl_26_15 : pm_26.2.2.2.2.2 15 = some (.iconst 1, 1, 0, 0, 0) := rfl
theorem sl_26_16 : pm_26.2.2.2.2.2 16 = some (.if_icmp .ne 13, 3, 0, 0, 0) := rfl
theorem sl_26_19 : pm_26.2.2.2.2.2 19 = some (.aload_n 0, 1, 0, 0, 0) := rfl
theorem sl_26_20 : pm_26.2.2.2.2.2 20 = some (.getfield 32, 3, 0, 6, 0) := rfl
theorem sl_26_23 : pm_26.2.2.2.2.2 23 = some (.getfield 137, 3, 11, 15, 0) := rfl
theorem sl_26_26 : pm_26.2.2.2.2.2 26 = some (.goto 4, 3, 0, 0, 0) := rfl
theorem sl_26_29 : pm_26.2.2.2.2.2 29 = some (.iconst (-1), 1, 0, 0, 0) := rfl
theorem sl_26_30 : pm_26.2.2.2.2.2 30 = some (.ireturn, 1, 0, 0, 0) := rfl
theorem sl_27_0 : pm_27.2.2.2.2.2 0 = some (.aload_n 0, 1, 0, 0, 0) := rfl
theorem sl_27_1 : pm_27.2.2.2.2.2 1 = some (.getfield 74, 3, 0, 10, 0) := rfl
theorem sl_27_4 : pm_27.2.2.2.2.2 4 = some (.ifCond .ne 5, 3, 0, 0, 0) := rfl
theorem sl_27_7 : pm_27.2.2.2.2.2 7 = some (.iconst (-1), 1, 0, 0, 0) := rfl
theorem sl_27_8 : pm_27.2.2.2.2.2 8 = some (.ireturn, 1, 0, 0, 0) := rfl
theorem sl_30_0 : pm_30.2.2.2.2.2 0 = some (.aload_n 0, 1, 0, 0, 0) := rfl
theorem sl_30_1 : pm_30.2.2.2.2.2 1 = some (.getfield 61, 3, 0, 11, 0) := rfl
theorem sl_30_4 : pm_30.2.2.2.2.2 4 = some (.ireturn, 1, 0, 0, 0) := rfl
theorem sl_31_0 : pm_31.2.2.2.2.2 0 = some (.aload_n 0, 1, 0, 0, 0) := rfl
theorem sl_31_1 : pm_31.2.2.2.2.2 1 = some (.getfield 39, 3, 0, 7, 0) := rfl
theorem sl_31_4 : pm_31.2.2.2.2.2 4 = some (.getfield 170, 3, 6, 12, 0) := rfl
theorem sl_31_7 : pm_31.2.2.2.2.2 7 = some (.astore_n 3, 1, 0, 0, 0) := rfl
theorem sl_31_8 : pm_31.2.2.2.2.2 8 = some (.aload_n 0, 1, 0, 0, 0) := rfl
theorem sl_31_9 : pm_31.2.2.2.2.2 9 = some (.getfield 74, 3, 0, 10, 0) := rfl
theorem sl_31_12 : pm_31.2.2.2.2.2 12 = some (.ifCond .eq 15, 3, 0, 0, 0) := rfl
theorem sl_31_27 : pm_31.2.2.2.2.2 27 = some (.iconst (-1), 1, 0, 0, 0) := rfl
theorem sl_31_28 : pm_31.2.2.2.2.2 28 = some (.ireturn, 1, 0, 0, 0) := rfl
theorem sl_32_0 : pm_32.2.2.2.2.2 0 = some (.aload_n 0, 1, 0, 0, 0) := rfl
theorem sl_32_1 : pm_32.2.2.2.2.2 1 = some (.getfield 39, 3, 0, 7, 0) := rfl
theorem sl_32_4 : pm_32.2.2.2.2.2 4 = some (.getfield 170, 3, 6, 12, 0) := rfl
theorem sl_32_7 : pm_32.2.2.2.2.2 7 = some (.astore_n 3, 1, 0, 0, 0) := rfl
theorem sl_32_8 : pm_32.2.2.2.2.2 8 = some (.aload_n 0, 1, 0, 0, 0) := rfl
theorem sl_32_9 : pm_32.2.2.2.2.2 9 = some (.invokevirtual 213, 3, 33, 0, 0) := rfl
theorem sl_32_12 : pm_32.2.2.2.2.2 12 = some (.ifCond .eq 15, 3, 0, 0, 0) := rfl
theorem sl_32_27 : pm_32.2.2.2.2.2 27 = some (.iconst (-1), 1, 0, 0, 0) := rfl
theorem sl_32_28 : pm_32.2.2.2.2.2 28 = some (.ireturn, 1, 0, 0, 0) := rfl
theorem sl_33_0 : pm_33.2.2.2.2.2 0 = some (.aload_n 0, 1, 0, 0, 0) := rfl
theorem sl_33_1 : pm_33.2.2.2.2.2 1 = some (.getfield 74, 3, 0, 10, 0) := rfl
theorem sl_33_4 : pm_33.2.2.2.2.2 4 = some (.ifCond .eq 20, 3, 0, 0, 0) := rfl
theorem sl_33_24 : pm_33.2.2.2.2.2 24 = some (.iconst 0, 1, 0, 0, 0) := rfl
theorem sl_33_25 : pm_33.2.2.2.2.2 25 = some (.ireturn, 1, 0, 0, 0) := rfl
theorem sl_34_0 : pm_34.2.2.2.2.2 0 = some (.aload_n 0, 1, 0, 0, 0) := rfl
theorem sl_34_1 : pm_34.2.2.2.2.2 1 = some (.getfield 57, 3, 0, 9, 0) := rfl
theorem sl_34_4 : pm_34.2.2.2.2.2 4 = some (.iload_n 1, 1, 0, 0, 0) := rfl
theorem sl_34_5 : pm_34.2.2.2.2.2 5 = some (.invokevirtual 274, 3, 35, 1, 0) := rfl
theorem sl_34_8 : pm_34.2.2.2.2.2 8 = some (.astore_n 3, 1, 0, 0, 0) := rfl
theorem sl_34_9 : pm_34.2.2.2.2.2 9 = some (.aload_n 3, 1, 0, 0, 0) := rfl
theorem sl_34_10 : pm_34.2.2.2.2.2 10 = some (.ifnonnull 5, 3, 0, 0, 0) := rfl
theorem sl_34_13 : pm_34.2.2.2.2.2 13 = some (.iconst (-1), 1, 0, 0, 0) := rfl
theorem sl_34_14 : pm_34.2.2.2.2.2 14 = some (.ireturn, 1, 0, 0, 0) := rfl
theorem sl_35_0 : pm_35.2.2.2.2.2 0 = some (.iload_n 1, 1, 0, 0, 0) := rfl
theorem sl_35_1 : pm_35.2.2.2.2.2 1 = some (.ifCond .lt 26, 3, 0, 0, 0) := rfl
theorem sl_35_4 : pm_35.2.2.2.2.2 4 = some (.iload_n 1, 1, 0, 0, 0) := rfl
theorem sl_35_5 : pm_35.2.2.2.2.2 5 = some (.aload_n 0, 1, 0, 0, 0) := rfl
theorem sl_35_6 : pm_35.2.2.2.2.2 6 = some (.getfield 36, 3, 5, 6, 0) := rfl
theorem sl_35_9 : pm_35.2.2.2.2.2 9 = some (.if_icmp .ge 18, 3, 0, 0, 0) := rfl
theorem sl_35_27 : pm_35.2.2.2.2.2 27 = some (.iconst 0, 1, 0, 0, 0) := rfl
theorem sl_35_28 : pm_35.2.2.2.2.2 28 = some (.istore_n 2, 1, 0, 0, 0) := rfl
theorem sl_35_29 : pm_35.2.2.2.2.2 29 = some (.iload_n 2, 1, 0, 0, 0) := rfl
theorem sl_35_30 : pm_35.2.2.2.2.2 30 = some (.ifCond .eq 16, 3, 0, 0, 0) := rfl
theorem sl_35_46 : pm_35.2.2.2.2.2 46 = some (.aconst_null, 1, 0, 0, 0) := rfl
theorem sl_35_47 : pm_35.2.2.2.2.2 47 = some (.areturn, 1, 0, 0, 0) := rfl
theorem sl_37_0 : pm_37.2.2.2.2.2 0 = some (.aload_n 0, 1, 0, 0, 0) := rfl
theorem sl_37_1 : pm_37.2.2.2.2.2 1 = some (.getfield 57, 3, 0, 9, 0) := rfl
theorem sl_37_4 : pm_37.2.2.2.2.2 4 = some (.iload_n 1, 1, 0, 0, 0) := rfl
theorem sl_37_5 : pm_37.2.2.2.2.2 5 = some (.invokevirtual 274, 3, 35, 1, 0) := rfl
theorem sl_37_8 : pm_37.2.2.2.2.2 8 = some (.astore_n 3, 1, 0, 0, 0) := rfl
theorem sl_37_9 : pm_37.2.2.2.2.2 9 = some (.aload_n 3, 1, 0, 0, 0) := rfl
theorem sl_37_10 : pm_37.2.2.2.2.2 10 = some (.ifnull 22, 3, 0, 0, 0) := rfl
theorem sl_37_32 : pm_37.2.2.2.2.2 32 = some (.iconst (-1), 1, 0, 0, 0) := rfl
theorem sl_37_33 : pm_37.2.2.2.2.2 33 = some (.ireturn, 1, 0, 0, 0) := rfl
theorem sl_38_0 : pm_38.2.2.2.2.2 0 = some (.aload_n 0, 1, 0, 0, 0) := rfl
theorem sl_38_1 : pm_38.2.2.2.2.2 1 = some (.getfield 57, 3, 0, 9, 0) := rfl
theorem sl_38_4 : pm_38.2.2.2.2.2 4 = some (.iload_n 1, 1, 0, 0, 0) := rfl
theorem sl_38_5 : pm_38.2.2.2.2.2 5 = some (.invokevirtual 274, 3, 35, 1, 0) := rfl
theorem sl_38_8 : pm_38.2.2.2.2.2 8 = some (.astore_n 3, 1, 0, 0, 0) := rfl
theorem sl_38_9 : pm_38.2.2.2.2.2 9 = some (.aload_n 3, 1, 0, 0, 0) := rfl
theorem sl_38_10 : pm_38.2.2.2.2.2 10 = some (.ifnull 28, 3, 0, 0, 0) := rfl
theorem sl_38_38 : pm_38.2.2.2.2.2 38 = some (.iconst (-1), 1, 0, 0, 0) := rfl
theorem sl_38_39 : pm_38.2.2.2.2.2 39 = some (.ireturn, 1, 0, 0, 0) := rfl
theorem sl_39_0 : pm_39.2.2.2.2.2 0 = some (.iload_n 1, 1, 0, 0, 0) := rfl
theorem sl_39_1 : pm_39.2.2.2.2.2 1 = some (.tableswitch 101 0 5 #[39, 47, 55, 63, 71, 79], 39, 0, 0, 0) := rfl
theorem sl_39_40 : pm_39.2.2.2.2.2 40 = some (.aload_n 0, 1, 0, 0, 0) := rfl
theorem sl_39_41 : pm_39.2.2.2.2.2 41 = some (.getfield 57, 3, 0, 9, 0) := rfl
theorem sl_39_44 : pm_39.2.2.2.2.2 44 = some (.getfield 243, 3, 5, 4, 0) := rfl
theorem sl_39_47 : pm_39.2.2.2.2.2 47 = some (.ireturn, 1, 0, 0, 0) := rfl
theorem sl_39_48 : pm_39.2.2.2.2.2 48 = some (.aload_n 0, 1, 0, 0, 0) := rfl
theorem sl_39_49 : pm_39.2.2.2.2.2 49 = some (.getfield 57, 3, 0, 9, 0) := rfl
theorem sl_39_52 : pm_39.2.2.2.2.2 52 = some (.invokevirtual 226, 3, 40, 0, 0) := rfl
theorem sl_39_55 : pm_39.2.2.2.2.2 55 = some (.ireturn, 1, 0, 0, 0) := rfl
theorem sl_39_56 : pm_39.2.2.2.2.2 56 = some (.aload_n 0, 1, 0, 0, 0) := rfl
theorem sl_39_57 : pm_39.2.2.2.2.2 57 = some (.getfield 57, 3, 0, 9, 0) := rfl
theorem sl_39_60 : pm_39.2.2.2.2.2 60 = some (.invokevirtual 300, 3, 41, 0, 0) := rfl
theorem sl_39_63 : pm_39.2.2.2.2.2 63 = some (.ireturn, 1, 0, 0, 0) := rfl
theorem sl_39_64 : pm_39.2.2.2.2.2 64 = some (.aload_n 0, 1, 0, 0, 0) := rfl
theorem sl_39_65 : pm_39.2.2.2.2.2 65 = some (.getfield 57, 3, 0, 9, 0) := rfl
theorem sl_39_68 : pm_39.2.2.2.2.2 68 = some (.getfield 268, 3, 5, 6, 0) := rfl
theorem sl_39_71 : pm_39.2.2.2.2.2 71 = some (.ireturn, 1, 0, 0, 0) := rfl
theorem sl_39_72 : pm_39.2.2.2.2.2 72 = some (.aload_n 0, 1, 0, 0, 0) := rfl
theorem sl_39_73 : pm_39.2.2.2.2.2 73 = some (.getfield 57, 3, 0, 9, 0) := rfl
theorem sl_39_76 : pm_39.2.2.2.2.2 76 = some (.getfield 324, 3, 5, 7, 0) := rfl
theorem sl_39_79 : pm_39.2.2.2.2.2 79 = some (.ireturn, 1, 0, 0, 0) := rfl
theorem sl_39_80 : pm_39.2.2.2.2.2 80 = some (.aload_n 0, 1, 0, 0, 0) := rfl
theorem sl_39_81 : pm_39.2.2.2.2.2 81 = some (.getfield 74, 3, 0, 10, 0) := rfl
theorem sl_39_84 : pm_39.2.2.2.2.2 84 = some (.ifCond .eq 16, 3, 0, 0, 0) := rfl
theorem sl_39_100 : pm_39.2.2.2.2.2 100 = some (.iconst 0, 1, 0, 0, 0) := rfl
theorem sl_39_101 : pm_39.2.2.2.2.2 101 = some (.ireturn, 1, 0, 0, 0) := rfl
theorem sl_39_102 : pm_39.2.2.2.2.2 102 = some (.iconst (-1), 1, 0, 0, 0) := rfl
theorem sl_39_103 : pm_39.2.2.2.2.2 103 = some (.ireturn, 1, 0, 0, 0) := rfl
theorem sl_40_0 : pm_40.2.2.2.2.2 0 = some (.aload_n 0, 1, 0, 0, 0) := rfl
theorem sl_40_1 : pm_40.2.2.2.2.2 1 = some (.getfield 29, 3, 5, 4, 0) := rfl
theorem sl_40_4 : pm_40.2.2.2.2.2 4 = some (.aload_n 0, 1, 0, 0, 0) := rfl
theorem sl_40_5 : pm_40.2.2.2.2.2 5 = some (.getfield 33, 3, 5, 5, 0) := rfl
theorem sl_40_8 : pm_40.2.2.2.2.2 8 = some (.isub, 1, 0, 0, 0) := rfl
theorem sl_40_9 : pm_40.2.2.2.2.2 9 = some (.ireturn, 1, 0, 0, 0) := rfl
theorem sl_41_0 : pm_41.2.2.2.2.2 0 = some (.aload_n 0, 1, 0, 0, 0) := rfl
theorem sl_41_1 : pm_41.2.2.2.2.2 1 = some (.getfield 33, 3, 5, 5, 0) := rfl
theorem sl_41_4 : pm_41.2.2.2.2.2 4 = some (.aload_n 0, 1, 0, 0, 0) := rfl
theorem sl_41_5 : pm_41.2.2.2.2.2 5 = some (.getfield 36, 3, 5, 6, 0) := rfl
theorem sl_41_8 : pm_41.2.2.2.2.2 8 = some (.isub, 1, 0, 0, 0) := rfl
theorem sl_41_9 : pm_41.2.2.2.2.2 9 = some (.ireturn, 1, 0, 0, 0) := rfl
theorem sl_148_0 : pm_148.2.2.2.2.2 0 = some (.aload 4, 2, 0, 0, 0) := rfl
theorem sl_148_2 : pm_148.2.2.2.2.2 2 = some (.iconst 0, 1, 0, 0, 0) := rfl
theorem sl_148_3 : pm_148.2.2.2.2.2 3 = some (.aload_n 0, 1, 0, 0, 0) := rfl
theorem sl_148_4 : pm_148.2.2.2.2.2 4 = some (.iload_n 1, 1, 0, 0, 0) := rfl
theorem sl_148_5 : pm_148.2.2.2.2.2 5 = some (.iload_n 2, 1, 0, 0, 0) := rfl
theorem sl_148_6 : pm_148.2.2.2.2.2 6 = some (.iload_n 3, 1, 0, 0, 0) := rfl
theorem sl_148_7 : pm_148.2.2.2.2.2 7 = some (.invokevirtual 15, 3, 149, 3, 0) := rfl
theorem sl_148_15 : pm_148.2.2.2.2.2 15 = some (.astore 5, 2, 0, 0, 0) := rfl
theorem sl_148_17 : pm_148.2.2.2.2.2 17 = some (.iconst 1, 1, 0, 0, 0) := rfl
theorem sl_148_18 : pm_148.2.2.2.2.2 18 = some (.ireturn, 1, 0, 0, 0) := rfl
theorem sl_149_0 : pm_149.2.2.2.2.2 0 = some (.aload_n 0, 1, 0, 0, 0) := rfl
theorem sl_149_1 : pm_149.2.2.2.2.2 1 = some (.getfield 74, 3, 0, 10, 0) := rfl
theorem sl_149_4 : pm_149.2.2.2.2.2 4 = some (.ifCond .eq 16, 3, 0, 0, 0) := rfl
theorem sl_149_20 : pm_149.2.2.2.2.2 20 = some (.new 184, 3, 1, 2, 1) := rfl
theorem sl_161_0 : pm_161.2.2.2.2.2 0 = some (.aload_n 2, 1, 0, 0, 0) := rfl
theorem sl_161_1 : pm_161.2.2.2.2.2 1 = some (.iconst 0, 1, 0, 0, 0) := rfl
theorem sl_161_2 : pm_161.2.2.2.2.2 2 = some (.aload_n 0, 1, 0, 0, 0) := rfl
theorem sl_161_3 : pm_161.2.2.2.2.2 3 = some (.iload_n 1, 1, 0, 0, 0) := rfl
theorem sl_161_4 : pm_161.2.2.2.2.2 4 = some (.invokevirtual 23, 3, 162, 1, 0) := rfl
theorem sl_161_12 : pm_161.2.2.2.2.2 12 = some (.astore_n 3, 1, 0, 0, 0) := rfl
theorem sl_161_13 : pm_161.2.2.2.2.2 13 = some (.iconst 1, 1, 0, 0, 0) := rfl
theorem sl_161_14 : pm_161.2.2.2.2.2 14 = some (.ireturn, 1, 0, 0, 0) := rfl
theorem sl_162_0 : pm_162.2.2.2.2.2 0 = some (.aload_n 0, 1, 0, 0, 0) := rfl
theorem sl_162_1 : pm_162.2.2.2.2.2 1 = some (.invokevirtual 213, 3, 33, 0, 0) := rfl
theorem sl_162_4 : pm_162.2.2.2.2.2 4 = some (.ifCond .eq 15, 3, 0, 0, 0) := rfl
theorem sl_162_19 : pm_162.2.2.2.2.2 19 = some (.new 184, 3, 1, 2, 1) := rfl
theorem sl_166_0 : pm_166.2.2.2.2.2 0 = some (.aload_n 0, 1, 0, 0, 0) := rfl
theorem sl_166_1 : pm_166.2.2.2.2.2 1 = some (.iload_n 1, 1, 0, 0, 0) := rfl
theorem sl_166_2 : pm_166.2.2.2.2.2 2 = some (.lload_n 2, 1, 0, 0, 0) := rfl
theorem sl_166_3 : pm_166.2.2.2.2.2 3 = some (.lload 4, 2, 0, 0, 0) := rfl
theorem sl_166_5 : pm_166.2.2.2.2.2 5 = some (.invokevirtual 27, 3, 167, 3, 0) := rfl
theorem sl_166_8 : pm_166.2.2.2.2.2 8 = some (.goto 7, 3, 0, 0, 0) := rfl
theorem sl_166_11 : pm_166.2.2.2.2.2 11 = some (.astore 6, 2, 0, 0, 0) := rfl
theorem sl_166_13 : pm_166.2.2.2.2.2 13 = some (.iconst 1, 1, 0, 0, 0) := rfl
theorem sl_166_14 : pm_166.2.2.2.2.2 14 = some (.ireturn, 1, 0, 0, 0) := rfl
theorem sl_166_15 : pm_166.2.2.2.2.2 15 = some (.iconst 0, 1, 0, 0, 0) := rfl
theorem sl_166_16 : pm_166.2.2.2.2.2 16 = some (.ireturn, 1, 0, 0, 0) := rfl
theorem sl_167_0 : pm_167.2.2.2.2.2 0 = some (.iload_n 1, 1, 0, 0, 0) := rfl
theorem sl_167_1 : pm_167.2.2.2.2.2 1 = some (.ifCond .lt 8, 3, 0, 0, 0) := rfl
theorem sl_167_4 : pm_167.2.2.2.2.2 4 = some (.iload_n 1, 1, 0, 0, 0) := rfl
theorem sl_167_5 : pm_167.2.2.2.2.2 5 = some (.iconst 4, 1, 0, 0, 0) := rfl
theorem sl_167_6 : pm_167.2.2.2.2.2 6 = some (.if_icmp .lt 13, 3, 0, 0, 0) := rfl
theorem sl_167_9 : pm_167.2.2.2.2.2 9 = some (.new 200, 3, 2, 2, 1) := rfl
theorem sl_167_19 : pm_167.2.2.2.2.2 19 = some (.aload_n 0, 1, 0, 0, 0) := rfl
theorem sl_167_20 : pm_167.2.2.2.2.2 20 = some (.getfield 17, 3, 0, 3, 0) := rfl
theorem sl_167_23 : pm_167.2.2.2.2.2 23 = some (.iload_n 1, 1, 0, 0, 0) := rfl
theorem sl_167_24 : pm_167.2.2.2.2.2 24 = some (.lload_n 2, 1, 0, 0, 0) := rfl
theorem sl_167_25 : pm_167.2.2.2.2.2 25 = some (.lastore, 1, 0, 0, 0) := rfl
theorem sl_167_26 : pm_167.2.2.2.2.2 26 = some (.aload_n 0, 1, 0, 0, 0) := rfl
theorem sl_167_27 : pm_167.2.2.2.2.2 27 = some (.getfield 21, 3, 0, 4, 0) := rfl
theorem sl_167_30 : pm_167.2.2.2.2.2 30 = some (.iload_n 1, 1, 0, 0, 0) := rfl
theorem sl_167_31 : pm_167.2.2.2.2.2 31 = some (.lload 4, 2, 0, 0, 0) := rfl
theorem sl_167_33 : pm_167.2.2.2.2.2 33 = some (.lastore, 1, 0, 0, 0) := rfl
theorem sl_167_34 : pm_167.2.2.2.2.2 34 = some (.return_, 1, 0, 0, 0) := rfl
theorem sl_168_0 : pm_168.2.2.2.2.2 0 = some (.aload_n 0, 1, 0, 0, 0) := rfl
theorem sl_168_1 : pm_168.2.2.2.2.2 1 = some (.iload_n 1, 1, 0, 0, 0) := rfl
theorem sl_168_2 : pm_168.2.2.2.2.2 2 = some (.lload_n 2, 1, 0, 0, 0) := rfl
theorem sl_168_3 : pm_168.2.2.2.2.2 3 = some (.invokevirtual 31, 3, 169, 2, 0) := rfl
theorem sl_168_6 : pm_168.2.2.2.2.2 6 = some (.goto 7, 3, 0, 0, 0) := rfl
theorem sl_168_9 : pm_168.2.2.2.2.2 9 = some (.astore 4, 2, 0, 0, 0) := rfl
theorem sl_168_11 : pm_168.2.2.2.2.2 11 = some (.iconst 1, 1, 0, 0, 0) := rfl
theorem sl_168_12 : pm_168.2.2.2.2.2 12 = some (.ireturn, 1, 0, 0, 0) := rfl
theorem sl_168_13 : pm_168.2.2.2.2.2 13 = some (.iconst 0, 1, 0, 0, 0) := rfl
theorem sl_168_14 : pm_168.2.2.2.2.2 14 = some (.ireturn, 1, 0, 0, 0) := rfl
theorem sl_169_0 : pm_169.2.2.2.2.2 0 = some (.iload_n 1, 1, 0, 0, 0) := rfl
theorem sl_169_1 : pm_169.2.2.2.2.2 1 = some (.ifCond .lt 8, 3, 0, 0, 0) := rfl
theorem sl_169_4 : pm_169.2.2.2.2.2 4 = some (.iload_n 1, 1, 0, 0, 0) := rfl
theorem sl_169_5 : pm_169.2.2.2.2.2 5 = some (.iconst 4, 1, 0, 0, 0) := rfl
theorem sl_169_6 : pm_169.2.2.2.2.2 6 = some (.if_icmp .lt 13, 3, 0, 0, 0) := rfl
theorem sl_169_9 : pm_169.2.2.2.2.2 9 = some (.new 200, 3, 2, 2, 1) := rfl
theorem sl_169_19 : pm_169.2.2.2.2.2 19 = some (.aload_n 0, 1, 0, 0, 0) := rfl
theorem sl_169_20 : pm_169.2.2.2.2.2 20 = some (.getfield 24, 3, 0, 5, 0) := rfl
theorem sl_169_23 : pm_169.2.2.2.2.2 23 = some (.iload_n 1, 1, 0, 0, 0) := rfl
theorem sl_169_24 : pm_169.2.2.2.2.2 24 = some (.lload_n 2, 1, 0, 0, 0) := rfl
theorem sl_169_25 : pm_169.2.2.2.2.2 25 = some (.lastore, 1, 0, 0, 0) := rfl
theorem sl_169_26 : pm_169.2.2.2.2.2 26 = some (.return_, 1, 0, 0, 0) := rfl
theorem sl_170_0 : pm_170.2.2.2.2.2 0 = some (.aload 5, 2, 0, 0, 0) := rfl
theorem sl_170_2 : pm_170.2.2.2.2.2 2 = some (.iconst 0, 1, 0, 0, 0) := rfl
theorem sl_170_3 : pm_170.2.2.2.2.2 3 = some (.aload_n 0, 1, 0, 0, 0) := rfl
theorem sl_170_4 : pm_170.2.2.2.2.2 4 = some (.iload_n 1, 1, 0, 0, 0) := rfl
theorem sl_170_5 : pm_170.2.2.2.2.2 5 = some (.iload_n 2, 1, 0, 0, 0) := rfl
theorem sl_170_6 : pm_170.2.2.2.2.2 6 = some (.iload_n 3, 1, 0, 0, 0) := rfl
theorem sl_170_7 : pm_170.2.2.2.2.2 7 = some (.iload 4, 2, 0, 0, 0) := rfl
theorem sl_170_9 : pm_170.2.2.2.2.2 9 = some (.invokevirtual 35, 3, 171, 4, 0) := rfl
theorem sl_170_17 : pm_170.2.2.2.2.2 17 = some (.astore 6, 2, 0, 0, 0) := rfl
theorem sl_170_19 : pm_170.2.2.2.2.2 19 = some (.iconst 1, 1, 0, 0, 0) := rfl
theorem sl_170_20 : pm_170.2.2.2.2.2 20 = some (.ireturn, 1, 0, 0, 0) := rfl
theorem sl_171_0 : pm_171.2.2.2.2.2 0 = some (.iload_n 1, 1, 0, 0, 0) := rfl
theorem sl_171_1 : pm_171.2.2.2.2.2 1 = some (.ifCond .lt 16, 3, 0, 0, 0) := rfl
theorem sl_171_4 : pm_171.2.2.2.2.2 4 = some (.iload_n 1, 1, 0, 0, 0) := rfl
theorem sl_171_5 : pm_171.2.2.2.2.2 5 = some (.iconst 2, 1, 0, 0, 0) := rfl
theorem sl_171_6 : pm_171.2.2.2.2.2 6 = some (.if_icmp .gt 11, 3, 0, 0, 0) := rfl
theorem sl_171_9 : pm_171.2.2.2.2.2 9 = some (.aload_n 0, 1, 0, 0, 0) := rfl
theorem sl_171_10 : pm_171.2.2.2.2.2 10 = some (.iload_n 2, 1, 0, 0, 0) := rfl
theorem sl_171_11 : pm_171.2.2.2.2.2 11 = some (.invokevirtual 250, 3, 172, 1, 0) := rfl
theorem sl_171_14 : pm_171.2.2.2.2.2 14 = some (.ifCond .ne 13, 3, 0, 0, 0) := rfl
theorem sl_171_17 : pm_171.2.2.2.2.2 17 = some (.new 200, 3, 2, 2, 1) := rfl
theorem sl_172_0 : pm_172.2.2.2.2.2 0 = some (.aload_n 0, 1, 0, 0, 0) := rfl
theorem sl_172_1 : pm_172.2.2.2.2.2 1 = some (.getfield 74, 3, 0, 10, 0) := rfl
theorem sl_172_4 : pm_172.2.2.2.2.2 4 = some (.ifCond .eq 22, 3, 0, 0, 0) := rfl
theorem sl_172_26 : pm_172.2.2.2.2.2 26 = some (.iconst 0, 1, 0, 0, 0) := rfl
theorem sl_172_27 : pm_172.2.2.2.2.2 27 = some (.ireturn, 1, 0, 0, 0) := rfl
theorem sl_175_0 : pm_175.2.2.2.2.2 0 = some (.aload_n 2, 1, 0, 0, 0) := rfl
theorem sl_175_1 : pm_175.2.2.2.2.2 1 = some (.iconst 0, 1, 0, 0, 0) := rfl
theorem sl_175_2 : pm_175.2.2.2.2.2 2 = some (.aload_n 0, 1, 0, 0, 0) := rfl
theorem sl_175_3 : pm_175.2.2.2.2.2 3 = some (.iload_n 1, 1, 0, 0, 0) := rfl
theorem sl_175_4 : pm_175.2.2.2.2.2 4 = some (.invokevirtual 39, 3, 176, 1, 0) := rfl
theorem sl_175_12 : pm_175.2.2.2.2.2 12 = some (.astore_n 3, 1, 0, 0, 0) := rfl
theorem sl_175_13 : pm_175.2.2.2.2.2 13 = some (.iconst 1, 1, 0, 0, 0) := rfl
theorem sl_175_14 : pm_175.2.2.2.2.2 14 = some (.ireturn, 1, 0, 0, 0) := rfl
theorem sl_176_0 : pm_176.2.2.2.2.2 0 = some (.aload_n 0, 1, 0, 0, 0) := rfl
theorem sl_176_1 : pm_176.2.2.2.2.2 1 = some (.invokevirtual 213, 3, 33, 0, 0) := rfl
theorem sl_176_4 : pm_176.2.2.2.2.2 4 = some (.ifCond .ne 14, 3, 0, 0, 0) := rfl
theorem sl_176_7 : pm_176.2.2.2.2.2 7 = some (.new 184, 3, 1, 3, 1) := rfl
theorem sl_202_0 : pm_202.2.2.2.2.2 0 = some (.aload_n 3, 1, 0, 0, 0) := rfl
theorem sl_202_1 : pm_202.2.2.2.2.2 1 = some (.iconst 0, 1, 0, 0, 0) := rfl
theorem sl_202_2 : pm_202.2.2.2.2.2 2 = some (.aload_n 0, 1, 0, 0, 0) := rfl
theorem sl_202_3 : pm_202.2.2.2.2.2 3 = some (.iload_n 1, 1, 0, 0, 0) := rfl
theorem sl_202_4 : pm_202.2.2.2.2.2 4 = some (.iload_n 2, 1, 0, 0, 0) := rfl
theorem sl_202_5 : pm_202.2.2.2.2.2 5 = some (.invokevirtual 42, 3, 203, 2, 0) := rfl
theorem sl_202_8 : pm_202.2.2.2.2.2 8 = some (.lastore, 1, 0, 0, 0) := rfl
theorem sl_202_9 : pm_202.2.2.2.2.2 9 = some (.goto 7, 3, 0, 0, 0) := rfl
theorem sl_202_16 : pm_202.2.2.2.2.2 16 = some (.iconst 0, 1, 0, 0, 0) := rfl
theorem sl_202_17 : pm_202.2.2.2.2.2 17 = some (.ireturn, 1, 0, 0, 0) := rfl
theorem sl_203_0 : pm_203.2.2.2.2.2 0 = some (.aload_n 0, 1, 0, 0, 0) := rfl
theorem sl_203_1 : pm_203.2.2.2.2.2 1 = some (.getfield 57, 3, 0, 9, 0) := rfl
theorem sl_203_4 : pm_203.2.2.2.2.2 4 = some (.invokevirtual 300, 3, 41, 0, 0) := rfl
theorem sl_203_7 : pm_203.2.2.2.2.2 7 = some (.ifCond .le 14, 3, 0, 0, 0) := rfl
theorem sl_203_21 : pm_203.2.2.2.2.2 21 = some (.aload_n 0, 1, 0, 0, 0) := rfl
theorem sl_203_22 : pm_203.2.2.2.2.2 22 = some (.invokevirtual 213, 3, 33, 0, 0) := rfl
theorem sl_203_25 : pm_203.2.2.2.2.2 25 = some (.ifCond .eq 35, 3, 0, 0, 0) := rfl
theorem sl_203_60 : pm_203.2.2.2.2.2 60 = some (.lconst 0, 1, 0, 0, 0) := rfl
theorem sl_203_61 : pm_203.2.2.2.2.2 61 = some (.lreturn, 1, 0, 0, 0) := rfl
theorem sl_204_0 : pm_204.2.2.2.2.2 0 = some (.aload_n 3, 1, 0, 0, 0) := rfl
theorem sl_204_1 : pm_204.2.2.2.2.2 1 = some (.iconst 0, 1, 0, 0, 0) := rfl
theorem sl_204_2 : pm_204.2.2.2.2.2 2 = some (.aload_n 0, 1, 0, 0, 0) := rfl
theorem sl_204_3 : pm_204.2.2.2.2.2 3 = some (.iload_n 1, 1, 0, 0, 0) := rfl
theorem sl_204_4 : pm_204.2.2.2.2.2 4 = some (.iload_n 2, 1, 0, 0, 0) := rfl
theorem sl_204_5 : pm_204.2.2.2.2.2 5 = some (.invokevirtual 46, 3, 205, 2, 0) := rfl
theorem sl_204_8 : pm_204.2.2.2.2.2 8 = some (.i2l, 1, 0, 0, 0) := rfl
theorem sl_204_9 : pm_204.2.2.2.2.2 9 = some (.lastore, 1, 0, 0, 0) := rfl
theorem sl_204_10 : pm_204.2.2.2.2.2 10 = some (.goto 7, 3, 0, 0, 0) := rfl
theorem sl_204_17 : pm_204.2.2.2.2.2 17 = some (.iconst 0, 1, 0, 0, 0) := rfl
theorem sl_204_18 : pm_204.2.2.2.2.2 18 = some (.ireturn, 1, 0, 0, 0) := rfl
theorem sl_205_0 : pm_205.2.2.2.2.2 0 = some (.aload_n 0, 1, 0, 0, 0) := rfl
theorem sl_205_1 : pm_205.2.2.2.2.2 1 = some (.getfield 57, 3, 0, 9, 0) := rfl
theorem sl_205_4 : pm_205.2.2.2.2.2 4 = some (.invokevirtual 300, 3, 41, 0, 0) := rfl
theorem sl_205_7 : pm_205.2.2.2.2.2 7 = some (.ifCond .le 14, 3, 0, 0, 0) := rfl
theorem sl_205_21 : pm_205.2.2.2.2.2 21 = some (.aload_n 0, 1, 0, 0, 0) := rfl
theorem sl_205_22 : pm_205.2.2.2.2.2 22 = some (.iload_n 1, 1, 0, 0, 0) := rfl
theorem sl_205_23 : pm_205.2.2.2.2.2 23 = some (.invokevirtual 250, 3, 172, 1, 0) := rfl
theorem sl_205_26 : pm_205.2.2.2.2.2 26 = some (.ifCond .ne 5, 3, 0, 0, 0) := rfl
theorem sl_205_29 : pm_205.2.2.2.2.2 29 = some (.iconst (-1), 1, 0, 0, 0) := rfl
theorem sl_205_30 : pm_205.2.2.2.2.2 30 = some (.ireturn, 1, 0, 0, 0) := rfl
theorem sl_207_0 : pm_207.2.2.2.2.2 0 = some (.aload_n 0, 1, 0, 0, 0) := rfl
theorem sl_207_1 : pm_207.2.2.2.2.2 1 = some (.getfield 431, 3, 12, 1, 0) := rfl
theorem sl_207_4 : pm_207.2.2.2.2.2 4 = some (.ireturn, 1, 0, 0, 0) := rfl
theorem sl_208_0 : pm_208.2.2.2.2.2 0 = some (.aload_n 0, 1, 0, 0, 0) := rfl
theorem sl_208_1 : pm_208.2.2.2.2.2 1 = some (.iconst 0, 1, 0, 0, 0) := rfl
theorem sl_208_2 : pm_208.2.2.2.2.2 2 = some (.putfield 431, 3, 12, 1, 0) := rfl
theorem sl_208_5 : pm_208.2.2.2.2.2 5 = some (.iconst 0, 1, 0, 0, 0) := rfl
theorem sl_208_6 : pm_208.2.2.2.2.2 6 = some (.istore 6, 2, 0, 0, 0) := rfl
theorem sl_208_8 : pm_208.2.2.2.2.2 8 = some (.iload 6, 2, 0, 0, 0) := rfl
theorem sl_208_10 : pm_208.2.2.2.2.2 10 = some (.iconst 4, 1, 0, 0, 0) := rfl
theorem sl_208_11 : pm_208.2.2.2.2.2 11 = some (.if_icmp .ge 107, 3, 0, 0, 0) := rfl
theorem sl_208_14 : pm_208.2.2.2.2.2 14 = some (.bipush 24, 2, 0, 0, 0) := rfl
theorem sl_208_16 : pm_208.2.2.2.2.2 16 = some (.bipush 8, 2, 0, 0, 0) := rfl
theorem sl_208_18 : pm_208.2.2.2.2.2 18 = some (.iload 6, 2, 0, 0, 0) := rfl
theorem sl_208_20 : pm_208.2.2.2.2.2 20 = some (.imul, 1, 0, 0, 0) := rfl
theorem sl_208_21 : pm_208.2.2.2.2.2 21 = some (.isub, 1, 0, 0, 0) := rfl
theorem sl_208_22 : pm_208.2.2.2.2.2 22 = some (.istore 7, 2, 0, 0, 0) := rfl
theorem sl_208_24 : pm_208.2.2.2.2.2 24 = some (.aload_n 0, 1, 0, 0, 0) := rfl
theorem sl_208_25 : pm_208.2.2.2.2.2 25 = some (.getfield 13, 3, 12, 2, 0) := rfl
theorem sl_208_28 : pm_208.2.2.2.2.2 28 = some (.iload 6, 2, 0, 0, 0) := rfl
theorem sl_208_30 : pm_208.2.2.2.2.2 30 = some (.iload_n 1, 1, 0, 0, 0) := rfl
theorem sl_208_31 : pm_208.2.2.2.2.2 31 = some (.iload 7, 2, 0, 0, 0) := rfl
theorem sl_208_33 : pm_208.2.2.2.2.2 33 = some (.ishr, 1, 0, 0, 0) := rfl
theorem sl_208_34 : pm_208.2.2.2.2.2 34 = some (.sipush 255, 3, 0, 0, 0) := rfl
theorem sl_208_37 : pm_208.2.2.2.2.2 37 = some (.iand, 1, 0, 0, 0) := rfl
theorem sl_208_38 : pm_208.2.2.2.2.2 38 = some (.iastore, 1, 0, 0, 0) := rfl
theorem sl_208_39 : pm_208.2.2.2.2.2 39 = some (.aload_n 0, 1, 0, 0, 0) := rfl
theorem sl_208_40 : pm_208.2.2.2.2.2 40 = some (.getfield 13, 3, 12, 2, 0) := rfl
theorem sl_208_43 : pm_208.2.2.2.2.2 43 = some (.iconst 4, 1, 0, 0, 0) := rfl
theorem sl_208_44 : pm_208.2.2.2.2.2 44 = some (.iload 6, 2, 0, 0, 0) := rfl
theorem sl_208_46 : pm_208.2.2.2.2.2 46 = some (.iadd, 1, 0, 0, 0) := rfl
theorem sl_208_47 : pm_208.2.2.2.2.2 47 = some (.iload_n 2, 1, 0, 0, 0) := rfl
theorem sl_208_48 : pm_208.2.2.2.2.2 48 = some (.iload 7, 2, 0, 0, 0) := rfl
theorem sl_208_50 : pm_208.2.2.2.2.2 50 = some (.ishr, 1, 0, 0, 0) := rfl
theorem sl_208_51 : pm_208.2.2.2.2.2 51 = some (.sipush 255, 3, 0, 0, 0) := rfl
theorem sl_208_54 : pm_208.2.2.2.2.2 54 = some (.iand, 1, 0, 0, 0) := rfl
theorem sl_208_55 : pm_208.2.2.2.2.2 55 = some (.iastore, 1, 0, 0, 0) := rfl
theorem sl_208_56 : pm_208.2.2.2.2.2 56 = some (.aload_n 0, 1, 0, 0, 0) := rfl
theorem sl_208_57 : pm_208.2.2.2.2.2 57 = some (.getfield 13, 3, 12, 2, 0) := rfl
theorem sl_208_60 : pm_208.2.2.2.2.2 60 = some (.bipush 8, 2, 0, 0, 0) := rfl
theorem sl_208_62 : pm_208.2.2.2.2.2 62 = some (.iload 6, 2, 0, 0, 0) := rfl
theorem sl_208_64 : pm_208.2.2.2.2.2 64 = some (.iadd, 1, 0, 0, 0) := rfl
theorem sl_208_65 : pm_208.2.2.2.2.2 65 = some (.iload_n 3, 1, 0, 0, 0) := rfl
theorem sl_208_66 : pm_208.2.2.2.2.2 66 = some (.iload 7, 2, 0, 0, 0) := rfl
theorem sl_208_68 : pm_208.2.2.2.2.2 68 = some (.ishr, 1, 0, 0, 0) := rfl
theorem sl_208_69 : pm_208.2.2.2.2.2 69 = some (.sipush 255, 3, 0, 0, 0) := rfl
theorem sl_208_72 : pm_208.2.2.2.2.2 72 = some (.iand, 1, 0, 0, 0) := rfl
theorem sl_208_73 : pm_208.2.2.2.2.2 73 = some (.iastore, 1, 0, 0, 0) := rfl
theorem sl_208_74 : pm_208.2.2.2.2.2 74 = some (.aload_n 0, 1, 0, 0, 0) := rfl
theorem sl_208_75 : pm_208.2.2.2.2.2 75 = some (.getfield 13, 3, 12, 2, 0) := rfl
theorem sl_208_78 : pm_208.2.2.2.2.2 78 = some (.bipush 12, 2, 0, 0, 0) := rfl
theorem sl_208_80 : pm_208.2.2.2.2.2 80 = some (.iload 6, 2, 0, 0, 0) := rfl
theorem sl_208_82 : pm_208.2.2.2.2.2 82 = some (.iadd, 1, 0, 0, 0) := rfl
theorem sl_208_83 : pm_208.2.2.2.2.2 83 = some (.iload 4, 2, 0, 0, 0) := rfl
theorem sl_208_85 : pm_208.2.2.2.2.2 85 = some (.iload 7, 2, 0, 0, 0) := rfl
theorem sl_208_87 : pm_208.2.2.2.2.2 87 = some (.ishr, 1, 0, 0, 0) := rfl
theorem sl_208_88 : pm_208.2.2.2.2.2 88 = some (.sipush 255, 3, 0, 0, 0) := rfl
theorem sl_208_91 : pm_208.2.2.2.2.2 91 = some (.iand, 1, 0, 0, 0) := rfl
theorem sl_208_92 : pm_208.2.2.2.2.2 92 = some (.iastore, 1, 0, 0, 0) := rfl
theorem sl_208_93 : pm_208.2.2.2.2.2 93 = some (.aload_n 0, 1, 0, 0, 0) := rfl
theorem sl_208_94 : pm_208.2.2.2.2.2 94 = some (.getfield 13, 3, 12, 2, 0) := rfl
theorem sl_208_97 : pm_208.2.2.2.2.2 97 = some (.bipush 16, 2, 0, 0, 0) := rfl
theorem sl_208_99 : pm_208.2.2.2.2.2 99 = some (.iload 6, 2, 0, 0, 0) := rfl
theorem sl_208_101 : pm_208.2.2.2.2.2 101 = some (.iadd, 1, 0, 0, 0) := rfl
theorem sl_208_102 : pm_208.2.2.2.2.2 102 = some (.iload 5, 2, 0, 0, 0) := rfl
theorem sl_208_104 : pm_208.2.2.2.2.2 104 = some (.iload 7, 2, 0, 0, 0) := rfl
theorem sl_208_106 : pm_208.2.2.2.2.2 106 = some (.ishr, 1, 0, 0, 0) := rfl
theorem sl_208_107 : pm_208.2.2.2.2.2 107 = some (.sipush 255, 3, 0, 0, 0) := rfl
theorem sl_208_110 : pm_208.2.2.2.2.2 110 = some (.iand, 1, 0, 0, 0) := rfl
theorem sl_208_111 : pm_208.2.2.2.2.2 111 = some (.iastore, 1, 0, 0, 0) := rfl
theorem sl_208_112 : pm_208.2.2.2.2.2 112 = some (.iinc 6 1, 3, 0, 0, 0) := rfl
theorem sl_208_115 : pm_208.2.2.2.2.2 115 = some (.goto (-107), 3, 0, 0, 0) := rfl
theorem sl_208_118 : pm_208.2.2.2.2.2 118 = some (.return_, 1, 0, 0, 0) := rfl
theorem sl_209_0 : pm_209.2.2.2.2.2 0 = some (.aload_n 0, 1, 0, 0, 0) := rfl
theorem sl_209_1 : pm_209.2.2.2.2.2 1 = some (.iconst 0, 1, 0, 0, 0) := rfl
theorem sl_209_2 : pm_209.2.2.2.2.2 2 = some (.putfield 431, 3, 12, 1, 0) := rfl
theorem sl_209_5 : pm_209.2.2.2.2.2 5 = some (.iload_n 1, 1, 0, 0, 0) := rfl
theorem sl_209_6 : pm_209.2.2.2.2.2 6 = some (.ifCond .lt 21, 3, 0, 0, 0) := rfl
theorem sl_209_9 : pm_209.2.2.2.2.2 9 = some (.iload_n 1, 1, 0, 0, 0) := rfl
theorem sl_209_10 : pm_209.2.2.2.2.2 10 = some (.bipush 20, 2, 0, 0, 0) := rfl
theorem sl_209_12 : pm_209.2.2.2.2.2 12 = some (.if_icmp .gt 15, 3, 0, 0, 0) := rfl
theorem sl_209_27 : pm_209.2.2.2.2.2 27 = some (.iconst (-1), 1, 0, 0, 0) := rfl
theorem sl_209_28 : pm_209.2.2.2.2.2 28 = some (.ireturn, 1, 0, 0, 0) := rfl
theorem sl_287_0 : pm_287.2.2.2.2.2 0 = some (.aload_n 0, 1, 0, 0, 0) := rfl
theorem sl_287_1 : pm_287.2.2.2.2.2 1 = some (.iconst 0, 1, 0, 0, 0) := rfl
theorem sl_287_2 : pm_287.2.2.2.2.2 2 = some (.putfield 431, 3, 12, 1, 0) := rfl
theorem sl_287_5 : pm_287.2.2.2.2.2 5 = some (.iload_n 1, 1, 0, 0, 0) := rfl
theorem sl_287_6 : pm_287.2.2.2.2.2 6 = some (.ifCond .ne 10, 3, 0, 0, 0) := rfl
theorem sl_287_9 : pm_287.2.2.2.2.2 9 = some (.aload_n 0, 1, 0, 0, 0) := rfl
theorem sl_287_10 : pm_287.2.2.2.2.2 10 = some (.getfield 437, 3, 12, 10, 0) := rfl
theorem sl_287_13 : pm_287.2.2.2.2.2 13 = some (.goto 16, 3, 0, 0, 0) := rfl
theorem sl_287_16 : pm_287.2.2.2.2.2 16 = some (.iload_n 1, 1, 0, 0, 0) := rfl
theorem sl_287_17 : pm_287.2.2.2.2.2 17 = some (.iconst 1, 1, 0, 0, 0) := rfl
theorem sl_287_18 : pm_287.2.2.2.2.2 18 = some (.if_icmp .ne 10, 3, 0, 0, 0) := rfl
theorem sl_287_21 : pm_287.2.2.2.2.2 21 = some (.aload_n 0, 1, 0, 0, 0) := rfl
theorem sl_287_22 : pm_287.2.2.2.2.2 22 = some (.getfield 22, 3, 12, 11, 0) := rfl
theorem sl_287_25 : pm_287.2.2.2.2.2 25 = some (.goto 4, 3, 0, 0, 0) := rfl
theorem sl_287_28 : pm_287.2.2.2.2.2 28 = some (.iconst (-1), 1, 0, 0, 0) := rfl
theorem sl_287_29 : pm_287.2.2.2.2.2 29 = some (.ireturn, 1, 0, 0, 0) := rfl
theorem sl_288_0 : pm_288.2.2.2.2.2 0 = some (.aload_n 0, 1, 0, 0, 0) := rfl
theorem sl_288_1 : pm_288.2.2.2.2.2 1 = some (.iconst 0, 1, 0, 0, 0) := rfl
theorem sl_288_2 : pm_288.2.2.2.2.2 2 = some (.putfield 431, 3, 12, 1, 0) := rfl
theorem sl_288_5 : pm_288.2.2.2.2.2 5 = some (.aload_n 0, 1, 0, 0, 0) := rfl
theorem sl_288_6 : pm_288.2.2.2.2.2 6 = some (.getfield 766, 3, 12, 127, 0) := rfl
theorem sl_288_9 : pm_288.2.2.2.2.2 9 = some (.ifCond .ne 5, 3, 0, 0, 0) := rfl
theorem sl_288_12 : pm_288.2.2.2.2.2 12 = some (.iconst (-1), 1, 0, 0, 0) := rfl
theorem sl_288_13 : pm_288.2.2.2.2.2 13 = some (.ireturn, 1, 0, 0, 0) := rfl
theorem sl_289_0 : pm_289.2.2.2.2.2 0 = some (.aload_n 0, 1, 0, 0, 0) := rfl
theorem sl_289_1 : pm_289.2.2.2.2.2 1 = some (.aload_n 0, 1, 0, 0, 0) := rfl
theorem sl_289_2 : pm_289.2.2.2.2.2 2 = some (.getfield 766, 3, 12, 127, 0) := rfl
theorem sl_289_5 : pm_289.2.2.2.2.2 5 = some (.ifCond .eq 10, 3, 0, 0, 0) := rfl
theorem sl_289_15 : pm_289.2.2.2.2.2 15 = some (.iconst 1, 1, 0, 0, 0) := rfl
theorem sl_289_16 : pm_289.2.2.2.2.2 16 = some (.goto 27, 3, 0, 0, 0) := rfl
theorem sl_289_43 : pm_289.2.2.2.2.2 43 = some (.putfield 431, 3, 12, 1, 0) := rfl
theorem sl_289_46 : pm_289.2.2.2.2.2 46 = some (.aload_n 0, 1, 0, 0, 0) := rfl
theorem sl_289_47 : pm_289.2.2.2.2.2 47 = some (.getfield 431, 3, 12, 1, 0) := rfl
theorem sl_289_50 : pm_289.2.2.2.2.2 50 = some (.ifCond .le 5, 3, 0, 0, 0) := rfl
theorem sl_289_53 : pm_289.2.2.2.2.2 53 = some (.iconst 0, 1, 0, 0, 0) := rfl
theorem sl_289_54 : pm_289.2.2.2.2.2 54 = some (.ireturn, 1, 0, 0, 0) := rfl
theorem sl_303_0 : pm_303.2.2.2.2.2 0 = some (.aload_n 0, 1, 0, 0, 0) := rfl
theorem sl_303_1 : pm_303.2.2.2.2.2 1 = some (.iconst 0, 1, 0, 0, 0) := rfl
theorem sl_303_2 : pm_303.2.2.2.2.2 2 = some (.putfield 431, 3, 12, 1, 0) := rfl
theorem sl_303_5 : pm_303.2.2.2.2.2 5 = some (.aload_n 0, 1, 0, 0, 0) := rfl
theorem sl_303_6 : pm_303.2.2.2.2.2 6 = some (.getfield 304, 3, 12, 130, 0) := rfl
theorem sl_303_9 : pm_303.2.2.2.2.2 9 = some (.ireturn, 1, 0, 0, 0) := rfl
theorem sl_304_0 : pm_304.2.2.2.2.2 0 = some (.aload_n 0, 1, 0, 0, 0) := rfl
theorem sl_304_1 : pm_304.2.2.2.2.2 1 = some (.iconst 0, 1, 0, 0, 0) := rfl
theorem sl_304_2 : pm_304.2.2.2.2.2 2 = some (.putfield 431, 3, 12, 1, 0) := rfl
theorem sl_304_5 : pm_304.2.2.2.2.2 5 = some (.aload_n 0, 1, 0, 0, 0) := rfl
theorem sl_304_6 : pm_304.2.2.2.2.2 6 = some (.getfield 766, 3, 12, 127, 0) := rfl
theorem sl_304_9 : pm_304.2.2.2.2.2 9 = some (.ifCond .eq 14, 3, 0, 0, 0) := rfl
theorem sl_304_23 : pm_304.2.2.2.2.2 23 = some (.iconst (-1), 1, 0, 0, 0) := rfl
theorem sl_304_24 : pm_304.2.2.2.2.2 24 = some (.ireturn, 1, 0, 0, 0) := rfl
theorem sl_305_0 : pm_305.2.2.2.2.2 0 = some (.iload_n 0, 1, 0, 0, 0) := rfl
theorem sl_305_1 : pm_305.2.2.2.2.2 1 = some (.ifCond .lt 12, 3, 0, 0, 0) := rfl
theorem sl_305_4 : pm_305.2.2.2.2.2 4 = some (.iload_n 0, 1, 0, 0, 0) := rfl
theorem sl_305_5 : pm_305.2.2.2.2.2 5 = some (.iload_n 1, 1, 0, 0, 0) := rfl
theorem sl_305_6 : pm_305.2.2.2.2.2 6 = some (.if_icmp .ge 7, 3, 0, 0, 0) := rfl
theorem sl_305_9 : pm_305.2.2.2.2.2 9 = some (.iconst 1, 1, 0, 0, 0) := rfl
theorem sl_305_10 : pm_305.2.2.2.2.2 10 = some (.goto 4, 3, 0, 0, 0) := rfl
theorem sl_305_13 : pm_305.2.2.2.2.2 13 = some (.iconst 0, 1, 0, 0, 0) := rfl
theorem sl_305_14 : pm_305.2.2.2.2.2 14 = some (.ireturn, 1, 0, 0, 0) := rfl
theorem sl_306_0 : pm_306.2.2.2.2.2 0 = some (.aload_n 0, 1, 0, 0, 0) := rfl
theorem sl_306_1 : pm_306.2.2.2.2.2 1 = some (.iconst 0, 1, 0, 0, 0) := rfl
theorem sl_306_2 : pm_306.2.2.2.2.2 2 = some (.putfield 431, 3, 12, 1, 0) := rfl
theorem sl_306_5 : pm_306.2.2.2.2.2 5 = some (.aload_n 0, 1, 0, 0, 0) := rfl
theorem sl_306_6 : pm_306.2.2.2.2.2 6 = some (.getfield 818, 3, 12, 128, 0) := rfl
theorem sl_306_9 : pm_306.2.2.2.2.2 9 = some (.ifCond .eq 14, 3, 0, 0, 0) := rfl
theorem sl_306_23 : pm_306.2.2.2.2.2 23 = some (.iconst (-1), 1, 0, 0, 0) := rfl
theorem sl_306_24 : pm_306.2.2.2.2.2 24 = some (.ireturn, 1, 0, 0, 0) := rfl
theorem sl_307_0 : pm_307.2.2.2.2.2 0 = some (.aload_n 0, 1, 0, 0, 0) := rfl
theorem sl_307_1 : pm_307.2.2.2.2.2 1 = some (.aload_n 0, 1, 0, 0, 0) := rfl
theorem sl_307_2 : pm_307.2.2.2.2.2 2 = some (.getfield 818, 3, 12, 128, 0) := rfl
theorem sl_307_5 : pm_307.2.2.2.2.2 5 = some (.ifCond .eq 12, 3, 0, 0, 0) := rfl
theorem sl_307_17 : pm_307.2.2.2.2.2 17 = some (.iconst 1, 1, 0, 0, 0) := rfl
theorem sl_307_18 : pm_307.2.2.2.2.2 18 = some (.goto 18, 3, 0, 0, 0) := rfl
theorem sl_307_36 : pm_307.2.2.2.2.2 36 = some (.putfield 431, 3, 12, 1, 0) := rfl
theorem sl_307_39 : pm_307.2.2.2.2.2 39 = some (.aload_n 0, 1, 0, 0, 0) := rfl
theorem sl_307_40 : pm_307.2.2.2.2.2 40 = some (.getfield 431, 3, 12, 1, 0) := rfl
theorem sl_307_43 : pm_307.2.2.2.2.2 43 = some (.ifCond .le 5, 3, 0, 0, 0) := rfl
theorem sl_307_46 : pm_307.2.2.2.2.2 46 = some (.iconst 0, 1, 0, 0, 0) := rfl
theorem sl_307_47 : pm_307.2.2.2.2.2 47 = some (.ireturn, 1, 0, 0, 0) := rfl
theorem sl_309_0 : pm_309.2.2.2.2.2 0 = some (.aload_n 0, 1, 0, 0, 0) := rfl
theorem sl_309_1 : pm_309.2.2.2.2.2 1 = some (.iload_n 1, 1, 0, 0, 0) := rfl
theorem sl_309_2 : pm_309.2.2.2.2.2 2 = some (.iconst 4, 1, 0, 0, 0) := rfl
theorem sl_309_3 : pm_309.2.2.2.2.2 3 = some (.invokestatic 831, 3, 305, 2, 1) := rfl
theorem sl_309_6 : pm_309.2.2.2.2.2 6 = some (.ifCond .eq 7, 3, 0, 0, 0) := rfl
theorem sl_309_9 : pm_309.2.2.2.2.2 9 = some (.iconst 0, 1, 0, 0, 0) := rfl
theorem sl_309_10 : pm_309.2.2.2.2.2 10 = some (.goto 4, 3, 0, 0, 0) := rfl
theorem sl_309_13 : pm_309.2.2.2.2.2 13 = some (.iconst 1, 1, 0, 0, 0) := rfl
theorem sl_309_14 : pm_309.2.2.2.2.2 14 = some (.putfield 431, 3, 12, 1, 0) := rfl
theorem sl_309_17 : pm_309.2.2.2.2.2 17 = some (.aload_n 0, 1, 0, 0, 0) := rfl
theorem sl_309_18 : pm_309.2.2.2.2.2 18 = some (.getfield 431, 3, 12, 1, 0) := rfl
theorem sl_309_21 : pm_309.2.2.2.2.2 21 = some (.ifCond .le 4, 3, 0, 0, 0) := rfl
theorem sl_309_24 : pm_309.2.2.2.2.2 24 = some (.return_, 1, 0, 0, 0) := rfl
theorem sl_309_25 : pm_309.2.2.2.2.2 25 = some (.aload_n 0, 1, 0, 0, 0) := rfl
theorem sl_309_26 : pm_309.2.2.2.2.2 26 = some (.getfield 349, 3, 12, 145, 0) := rfl
theorem sl_309_29 : pm_309.2.2.2.2.2 29 = some (.iload_n 1, 1, 0, 0, 0) := rfl
theorem sl_309_30 : pm_309.2.2.2.2.2 30 = some (.lload_n 2, 1, 0, 0, 0) := rfl
theorem sl_309_31 : pm_309.2.2.2.2.2 31 = some (.lastore, 1, 0, 0, 0) := rfl
theorem sl_309_32 : pm_309.2.2.2.2.2 32 = some (.aload_n 0, 1, 0, 0, 0) := rfl
theorem sl_309_33 : pm_309.2.2.2.2.2 33 = some (.getfield 352, 3, 12, 146, 0) := rfl
theorem sl_309_36 : pm_309.2.2.2.2.2 36 = some (.iload_n 1, 1, 0, 0, 0) := rfl
theorem sl_309_37 : pm_309.2.2.2.2.2 37 = some (.lload 4, 2, 0, 0, 0) := rfl
theorem sl_309_39 : pm_309.2.2.2.2.2 39 = some (.lastore, 1, 0, 0, 0) := rfl
theorem sl_309_40 : pm_309.2.2.2.2.2 40 = some (.return_, 1, 0, 0, 0) := rfl
theorem sl_310_0 : pm_310.2.2.2.2.2 0 = some (.aload_n 0, 1, 0, 0, 0) := rfl
theorem sl_310_1 : pm_310.2.2.2.2.2 1 = some (.iload_n 1, 1, 0, 0, 0) := rfl
theorem sl_310_2 : pm_310.2.2.2.2.2 2 = some (.iconst 4, 1, 0, 0, 0) := rfl
theorem sl_310_3 : pm_310.2.2.2.2.2 3 = some (.invokestatic 831, 3, 305, 2, 1) := rfl
theorem sl_310_6 : pm_310.2.2.2.2.2 6 = some (.ifCond .eq 7, 3, 0, 0, 0) := rfl
theorem sl_310_9 : pm_310.2.2.2.2.2 9 = some (.iconst 0, 1, 0, 0, 0) := rfl
theorem sl_310_10 : pm_310.2.2.2.2.2 10 = some (.goto 4, 3, 0, 0, 0) := rfl
theorem sl_310_13 : pm_310.2.2.2.2.2 13 = some (.iconst 1, 1, 0, 0, 0) := rfl
theorem sl_310_14 : pm_310.2.2.2.2.2 14 = some (.putfield 431, 3, 12, 1, 0) := rfl
theorem sl_310_17 : pm_310.2.2.2.2.2 17 = some (.aload_n 0, 1, 0, 0, 0) := rfl
theorem sl_310_18 : pm_310.2.2.2.2.2 18 = some (.getfield 431, 3, 12, 1, 0) := rfl
theorem sl_310_21 : pm_310.2.2.2.2.2 21 = some (.ifCond .ne 10, 3, 0, 0, 0) := rfl
theorem sl_310_24 : pm_310.2.2.2.2.2 24 = some (.aload_n 0, 1, 0, 0, 0) := rfl
theorem sl_310_25 : pm_310.2.2.2.2.2 25 = some (.getfield 355, 3, 12, 147, 0) := rfl
theorem sl_310_28 : pm_310.2.2.2.2.2 28 = some (.iload_n 1, 1, 0, 0, 0) := rfl
theorem sl_310_29 : pm_310.2.2.2.2.2 29 = some (.lload_n 2, 1, 0, 0, 0) := rfl
theorem sl_310_30 : pm_310.2.2.2.2.2 30 = some (.lastore, 1, 0, 0, 0) := rfl
theorem sl_310_31 : pm_310.2.2.2.2.2 31 = some (.return_, 1, 0, 0, 0) := rfl
theorem sl_311_0 : pm_311.2.2.2.2.2 0 = some (.aload_n 0, 1, 0, 0, 0) := rfl
theorem sl_311_1 : pm_311.2.2.2.2.2 1 = some (.iload_n 1, 1, 0, 0, 0) := rfl
theorem sl_311_2 : pm_311.2.2.2.2.2 2 = some (.iconst 3, 1, 0, 0, 0) := rfl
theorem sl_311_3 : pm_311.2.2.2.2.2 3 = some (.invokestatic 831, 3, 305, 2, 1) := rfl
theorem sl_311_6 : pm_311.2.2.2.2.2 6 = some (.ifCond .eq 21, 3, 0, 0, 0) := rfl
theorem sl_311_9 : pm_311.2.2.2.2.2 9 = some (.aload_n 0, 1, 0, 0, 0) := rfl
theorem sl_311_10 : pm_311.2.2.2.2.2 10 = some (.getfield 766, 3, 12, 127, 0) := rfl
theorem sl_311_13 : pm_311.2.2.2.2.2 13 = some (.ifCond .eq 14, 3, 0, 0, 0) := rfl
theorem sl_311_27 : pm_311.2.2.2.2.2 27 = some (.iconst 1, 1, 0, 0, 0) := rfl
theorem sl_311_28 : pm_311.2.2.2.2.2 28 = some (.goto 24, 3, 0, 0, 0) := rfl
theorem sl_311_52 : pm_311.2.2.2.2.2 52 = some (.putfield 431, 3, 12, 1, 0) := rfl
theorem sl_311_55 : pm_311.2.2.2.2.2 55 = some (.aload_n 0, 1, 0, 0, 0) := rfl
theorem sl_311_56 : pm_311.2.2.2.2.2 56 = some (.getfield 431, 3, 12, 1, 0) := rfl
theorem sl_311_59 : pm_311.2.2.2.2.2 59 = some (.ifCond .le 5, 3, 0, 0, 0) := rfl
theorem sl_311_62 : pm_311.2.2.2.2.2 62 = some (.iconst 0, 1, 0, 0, 0) := rfl
theorem sl_311_63 : pm_311.2.2.2.2.2 63 = some (.ireturn, 1, 0, 0, 0) := rfl
theorem sl_312_0 : pm_312.2.2.2.2.2 0 = some (.aload_n 0, 1, 0, 0, 0) := rfl
theorem sl_312_1 : pm_312.2.2.2.2.2 1 = some (.aload_n 0, 1, 0, 0, 0) := rfl
theorem sl_312_2 : pm_312.2.2.2.2.2 2 = some (.getfield 818, 3, 12, 128, 0) := rfl
theorem sl_312_5 : pm_312.2.2.2.2.2 5 = some (.ifCond .ne 7, 3, 0, 0, 0) := rfl
theorem sl_312_8 : pm_312.2.2.2.2.2 8 = some (.iconst 1, 1, 0, 0, 0) := rfl
theorem sl_312_9 : pm_312.2.2.2.2.2 9 = some (.goto 18, 3, 0, 0, 0) := rfl
theorem sl_312_27 : pm_312.2.2.2.2.2 27 = some (.putfield 431, 3, 12, 1, 0) := rfl
theorem sl_312_30 : pm_312.2.2.2.2.2 30 = some (.aload_n 0, 1, 0, 0, 0) := rfl
theorem sl_312_31 : pm_312.2.2.2.2.2 31 = some (.getfield 431, 3, 12, 1, 0) := rfl
theorem sl_312_34 : pm_312.2.2.2.2.2 34 = some (.ifCond .le 5, 3, 0, 0, 0) := rfl
theorem sl_312_37 : pm_312.2.2.2.2.2 37 = some (.iconst 0, 1, 0, 0, 0) := rfl
theorem sl_312_38 : pm_312.2.2.2.2.2 38 = some (.ireturn, 1, 0, 0, 0) := rfl
theorem sl_342_0 : pm_342.2.2.2.2.2 0 = some (.aload_n 0, 1, 0, 0, 0) := rfl
theorem sl_342_1 : pm_342.2.2.2.2.2 1 = some (.iconst 0, 1, 0, 0, 0) := rfl
theorem sl_342_2 : pm_342.2.2.2.2.2 2 = some (.putfield 431, 3, 12, 1, 0) := rfl
theorem sl_342_5 : pm_342.2.2.2.2.2 5 = some (.aload_n 0, 1, 0, 0, 0) := rfl
theorem sl_342_6 : pm_342.2.2.2.2.2 6 = some (.iload_n 1, 1, 0, 0, 0) := rfl
theorem sl_342_7 : pm_342.2.2.2.2.2 7 = some (.invokevirtual 956, 3, 343, 1, 0) := rfl
theorem sl_342_10 : pm_342.2.2.2.2.2 10 = some (.ifCond .ne 5, 3, 0, 0, 0) := rfl
theorem sl_342_13 : pm_342.2.2.2.2.2 13 = some (.iconst (-1), 1, 0, 0, 0) := rfl
theorem sl_342_14 : pm_342.2.2.2.2.2 14 = some (.ireturn, 1, 0, 0, 0) := rfl
theorem sl_343_0 : pm_343.2.2.2.2.2 0 = some (.iload_n 1, 1, 0, 0, 0) := rfl
theorem sl_343_1 : pm_343.2.2.2.2.2 1 = some (.ifCond .lt 26, 3, 0, 0, 0) := rfl
theorem sl_343_4 : pm_343.2.2.2.2.2 4 = some (.iload_n 1, 1, 0, 0, 0) := rfl
theorem sl_343_5 : pm_343.2.2.2.2.2 5 = some (.aload_n 0, 1, 0, 0, 0) := rfl
theorem sl_343_6 : pm_343.2.2.2.2.2 6 = some (.getfield 843, 3, 12, 151, 0) := rfl
theorem sl_343_9 : pm_343.2.2.2.2.2 9 = some (.if_icmp .ge 18, 3, 0, 0, 0) := rfl
theorem sl_343_27 : pm_343.2.2.2.2.2 27 = some (.iconst 0, 1, 0, 0, 0) := rfl
theorem sl_343_28 : pm_343.2.2.2.2.2 28 = some (.ireturn, 1, 0, 0, 0) := rfl
theorem sl_344_0 : pm_344.2.2.2.2.2 0 = some (.aload_n 0, 1, 0, 0, 0) := rfl
theorem sl_344_1 : pm_344.2.2.2.2.2 1 = some (.iconst 0, 1, 0, 0, 0) := rfl
theorem sl_344_2 : pm_344.2.2.2.2.2 2 = some (.putfield 431, 3, 12, 1, 0) := rfl
theorem sl_344_5 : pm_344.2.2.2.2.2 5 = some (.aload_n 0, 1, 0, 0, 0) := rfl
theorem sl_344_6 : pm_344.2.2.2.2.2 6 = some (.iload_n 1, 1, 0, 0, 0) := rfl
theorem sl_344_7 : pm_344.2.2.2.2.2 7 = some (.invokevirtual 956, 3, 343, 1, 0) := rfl
theorem sl_344_10 : pm_344.2.2.2.2.2 10 = some (.ifCond .eq 40, 3, 0, 0, 0) := rfl
theorem sl_344_50 : pm_344.2.2.2.2.2 50 = some (.iconst (-1), 1, 0, 0, 0) := rfl
theorem sl_344_51 : pm_344.2.2.2.2.2 51 = some (.ireturn, 1, 0, 0, 0) := rfl
theorem sl_345_0 : pm_345.2.2.2.2.2 0 = some (.aload_n 0, 1, 0, 0, 0) := rfl
theorem sl_345_1 : pm_345.2.2.2.2.2 1 = some (.iconst 0, 1, 0, 0, 0) := rfl
theorem sl_345_2 : pm_345.2.2.2.2.2 2 = some (.putfield 431, 3, 12, 1, 0) := rfl
theorem sl_345_5 : pm_345.2.2.2.2.2 5 = some (.aload_n 0, 1, 0, 0, 0) := rfl
theorem sl_345_6 : pm_345.2.2.2.2.2 6 = some (.iload_n 1, 1, 0, 0, 0) := rfl
theorem sl_345_7 : pm_345.2.2.2.2.2 7 = some (.invokevirtual 956, 3, 343, 1, 0) := rfl
theorem sl_345_10 : pm_345.2.2.2.2.2 10 = some (.ifCond .eq 45, 3, 0, 0, 0) := rfl
theorem sl_345_55 : pm_345.2.2.2.2.2 55 = some (.iconst (-1), 1, 0, 0, 0) := rfl
theorem sl_345_56 : pm_345.2.2.2.2.2 56 = some (.ireturn, 1, 0, 0, 0) := rfl
theorem sl_346_0 : pm_346.2.2.2.2.2 0 = some (.aload_n 0, 1, 0, 0, 0) := rfl
theorem sl_346_1 : pm_346.2.2.2.2.2 1 = some (.aload_n 0, 1, 0, 0, 0) := rfl
theorem sl_346_2 : pm_346.2.2.2.2.2 2 = some (.getfield 843, 3, 12, 151, 0) := rfl
theorem sl_346_5 : pm_346.2.2.2.2.2 5 = some (.aload_n 0, 1, 0, 0, 0) := rfl
theorem sl_346_6 : pm_346.2.2.2.2.2 6 = some (.getfield 840, 3, 12, 150, 0) := rfl
theorem sl_346_9 : pm_346.2.2.2.2.2 9 = some (.if_icmp .ge 7, 3, 0, 0, 0) := rfl
theorem sl_346_16 : pm_346.2.2.2.2.2 16 = some (.iconst 0, 1, 0, 0, 0) := rfl
theorem sl_346_17 : pm_346.2.2.2.2.2 17 = some (.putfield 431, 3, 12, 1, 0) := rfl
theorem sl_346_20 : pm_346.2.2.2.2.2 20 = some (.aload_n 0, 1, 0, 0, 0) := rfl
theorem sl_346_21 : pm_346.2.2.2.2.2 21 = some (.getfield 431, 3, 12, 1, 0) := rfl
theorem sl_346_24 : pm_346.2.2.2.2.2 24 = some (.ifCond .ne 49, 3, 0, 0, 0) := rfl
theorem sl_346_27 : pm_346.2.2.2.2.2 27 = some (.aload_n 0, 1, 0, 0, 0) := rfl
theorem sl_346_28 : pm_346.2.2.2.2.2 28 = some (.getfield 766, 3, 12, 127, 0) := rfl
theorem sl_346_31 : pm_346.2.2.2.2.2 31 = some (.ifCond .eq 42, 3, 0, 0, 0) := rfl
theorem sl_346_73 : pm_346.2.2.2.2.2 73 = some (.lconst 0, 1, 0, 0, 0) := rfl
theorem sl_346_74 : pm_346.2.2.2.2.2 74 = some (.lreturn, 1, 0, 0, 0) := rfl
theorem sl_347_0 : pm_347.2.2.2.2.2 0 = some (.aload_n 0, 1, 0, 0, 0) := rfl
theorem sl_347_1 : pm_347.2.2.2.2.2 1 = some (.aload_n 0, 1, 0, 0, 0) := rfl
theorem sl_347_2 : pm_347.2.2.2.2.2 2 = some (.getfield 843, 3, 12, 151, 0) := rfl
theorem sl_347_5 : pm_347.2.2.2.2.2 5 = some (.aload_n 0, 1, 0, 0, 0) := rfl
theorem sl_347_6 : pm_347.2.2.2.2.2 6 = some (.getfield 840, 3, 12, 150, 0) := rfl
theorem sl_347_9 : pm_347.2.2.2.2.2 9 = some (.if_icmp .ge 7, 3, 0, 0, 0) := rfl
theorem sl_347_16 : pm_347.2.2.2.2.2 16 = some (.iconst 0, 1, 0, 0, 0) := rfl
theorem sl_347_17 : pm_347.2.2.2.2.2 17 = some (.putfield 431, 3, 12, 1, 0) := rfl
theorem sl_347_20 : pm_347.2.2.2.2.2 20 = some (.aload_n 0, 1, 0, 0, 0) := rfl
theorem sl_347_21 : pm_347.2.2.2.2.2 21 = some (.getfield 431, 3, 12, 1, 0) := rfl
theorem sl_347_24 : pm_347.2.2.2.2.2 24 = some (.ifCond .le 5, 3, 0, 0, 0) := rfl
theorem sl_347_29 : pm_347.2.2.2.2.2 29 = some (.aload_n 0, 1, 0, 0, 0) := rfl
theorem sl_347_30 : pm_347.2.2.2.2.2 30 = some (.getfield 766, 3, 12, 127, 0) := rfl
theorem sl_347_33 : pm_347.2.2.2.2.2 33 = some (.ifCond .eq 14, 3, 0, 0, 0) := rfl
theorem sl_347_47 : pm_347.2.2.2.2.2 47 = some (.iconst (-1), 1, 0, 0, 0) := rfl
theorem sl_347_48 : pm_347.2.2.2.2.2 48 = some (.ireturn, 1, 0, 0, 0) := rfl
theorem sl_348_0 : pm_348.2.2.2.2.2 0 = some (.aload_n 0, 1, 0, 0, 0) := rfl
theorem sl_348_1 : pm_348.2.2.2.2.2 1 = some (.iconst 0, 1, 0, 0, 0) := rfl
theorem sl_348_2 : pm_348.2.2.2.2.2 2 = some (.putfield 431, 3, 12, 1, 0) := rfl
theorem sl_348_5 : pm_348.2.2.2.2.2 5 = some (.iload_n 1, 1, 0, 0, 0) := rfl
theorem sl_348_6 : pm_348.2.2.2.2.2 6 = some (.tableswitch 84 0 5 #[38, 43, 48, 58, 63, 68], 38, 0, 0, 0) := rfl
theorem sl_348_44 : pm_348.2.2.2.2.2 44 = some (.aload_n 0, 1, 0, 0, 0) := rfl
theorem sl_348_45 : pm_348.2.2.2.2.2 45 = some (.getfield 834, 3, 12, 148, 0) := rfl
theorem sl_348_48 : pm_348.2.2.2.2.2 48 = some (.ireturn, 1, 0, 0, 0) := rfl
theorem sl_348_49 : pm_348.2.2.2.2.2 49 = some (.aload_n 0, 1, 0, 0, 0) := rfl
theorem sl_348_50 : pm_348.2.2.2.2.2 50 = some (.getfield 837, 3, 12, 149, 0) := rfl
theorem sl_348_53 : pm_348.2.2.2.2.2 53 = some (.ireturn, 1, 0, 0, 0) := rfl
theorem sl_348_54 : pm_348.2.2.2.2.2 54 = some (.aload_n 0, 1, 0, 0, 0) := rfl
theorem sl_348_55 : pm_348.2.2.2.2.2 55 = some (.getfield 840, 3, 12, 150, 0) := rfl
theorem sl_348_58 : pm_348.2.2.2.2.2 58 = some (.aload_n 0, 1, 0, 0, 0) := rfl
theorem sl_348_59 : pm_348.2.2.2.2.2 59 = some (.getfield 843, 3, 12, 151, 0) := rfl
theorem sl_348_62 : pm_348.2.2.2.2.2 62 = some (.isub, 1, 0, 0, 0) := rfl
theorem sl_348_63 : pm_348.2.2.2.2.2 63 = some (.ireturn, 1, 0, 0, 0) := rfl
theorem sl_348_64 : pm_348.2.2.2.2.2 64 = some (.aload_n 0, 1, 0, 0, 0) := rfl
theorem sl_348_65 : pm_348.2.2.2.2.2 65 = some (.getfield 843, 3, 12, 151, 0) := rfl
theorem sl_348_68 : pm_348.2.2.2.2.2 68 = some (.ireturn, 1, 0, 0, 0) := rfl
theorem sl_348_69 : pm_348.2.2.2.2.2 69 = some (.aload_n 0, 1, 0, 0, 0) := rfl
theorem sl_348_70 : pm_348.2.2.2.2.2 70 = some (.getfield 846, 3, 12, 152, 0) := rfl
theorem sl_348_73 : pm_348.2.2.2.2.2 73 = some (.ireturn, 1, 0, 0, 0) := rfl
theorem sl_348_74 : pm_348.2.2.2.2.2 74 = some (.aload_n 0, 1, 0, 0, 0) := rfl
theorem sl_348_75 : pm_348.2.2.2.2.2 75 = some (.getfield 818, 3, 12, 128, 0) := rfl
theorem sl_348_78 : pm_348.2.2.2.2.2 78 = some (.ifCond .eq 10, 3, 0, 0, 0) := rfl
theorem sl_348_88 : pm_348.2.2.2.2.2 88 = some (.iconst 0, 1, 0, 0, 0) := rfl
theorem sl_348_89 : pm_348.2.2.2.2.2 89 = some (.ireturn, 1, 0, 0, 0) := rfl
theorem sl_348_90 : pm_348.2.2.2.2.2 90 = some (.iconst (-1), 1, 0, 0, 0) := rfl
theorem sl_348_91 : pm_348.2.2.2.2.2 91 = some (.ireturn, 1, 0, 0, 0) := rfl
def sv_0 : List Value := [.ref 1, .ref 2, .int 0, .ref 3, .ref 4, .ref 5, .ref 6, .ref 12, .ref 178, .ref 185, .int 0, .int (-1)]
def sv_6 : List Value := [.ref 2, .ref 7, .ref 8, .ref 9, .ref 10, .ref 11, .int 0, .int 0, .int 0, .int 0, .int 0, .long 0, .long 0, .long 0, .int 0, .int (-1), .int 0]
def sv_12 : List Value := [.ref 13, .ref 14, .ref 15, .ref 16, .ref 17, .ref 18, .ref 19, .ref 20, .ref 21, .ref 22, .ref 31, .ref 45, .ref 59, .int 0, .int 0, .int 0, .int 0, .int 0, .int 0]
def sv_185 : List Value := [.ref 12, .ref 186, .ref 187, .ref 188, .int 0, .int 0, .int 0, .int 0]
def sv_189 : List Value := [.ref 190, .int 0, .ref 191, .ref 192, .ref 193, .int 0, .int 0, .int 0, .int 0, .int 0, .int 0, .int (-1), .long 0, .int 0, .ref 194, .ref 195, .ref 196, .ref 197, .ref 198, .int 0, .int 0, .int 0, .int 0, .int 0, .int 0, .int 0, .int 0, .int 0, .int 0, .ref 199, .ref 200, .ref 201, .ref 202, .ref 203, .ref 204, .ref 205, .ref 206, .ref 207, .ref 208, .ref 209, .ref 210, .ref 211, .ref 212, .ref 213, .ref 214, .ref 215, .ref 216, .ref 217, .ref 218, .ref 219, .ref 220, .ref 221, .ref 222, .ref 223, .ref 224, .ref 225, .ref 226, .ref 227, .ref 228, .ref 229, .ref 230, .ref 231, .ref 232, .ref 233, .int (-1), .ref 234, .ref 235, .ref 236, .ref 237, .int 0, .int 0, .int 0, .long 0, .int 0, .int 0, .int 0, .ref 238, .ref 239, .ref 240, .ref 241, .ref 242, .ref 243, .ref 244, .ref 245, .ref 246, .ref 247, .ref 248, .ref 249, .ref 250, .ref 251, .ref 252, .ref 253, .ref 254, .ref 255, .ref 256, .ref 257, .ref 258, .ref 259, .ref 260, .int 0, .int 0, .ref 261, .ref 262, .ref 263, .ref 264, .ref 265, .ref 266, .ref 267, .ref 268, .ref 269, .ref 270, .ref 271, .ref 272, .ref 273, .ref 274, .ref 275, .ref 276, .ref 277, .ref 278, .int 0, .ref 279, .ref 280, .ref 281, .ref 282, .ref 283, .int 0, .ref 284, .int 0, .int 0, .int 0, .int (-1), .ref 285, .ref 286, .ref 287, .ref 288, .ref 289, .ref 290, .ref 291, .ref 292, .ref 293, .ref 294, .ref 295, .ref 296, .ref 297, .ref 298, .ref 299, .ref 300, .ref 301, .int 0, .int 0, .int 0, .int 0, .int 0, .ref 302, .ref 303, .ref 304, .ref 305, .ref 306, .ref 307, .ref 308, .ref 309, .ref 310, .ref 311, .ref 312, .ref 313, .ref 314, .ref 315, .ref 316, .ref 317, .ref 318, .ref 319, .ref 320, .ref 321, .ref 322, .ref 323, .ref 324, .int 0, .int 0, .ref 325]
