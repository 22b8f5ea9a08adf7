/-! ===== LOOKED UP, by program (wip/gen/emit4.py) ===== -/
theorem sg_0 : pg 0 = pm_0 := rfl
theorem sg_1 : pg 1 = pm_1 := rfl
theorem sg_2 : pg 2 = pm_2 := rfl
theorem sg_3 : pg 3 = pm_3 := rfl
theorem sg_4 : pg 4 = pm_4 := rfl
theorem sg_5 : pg 5 = pm_5 := rfl
theorem sg_6 : pg 6 = pm_6 := rfl
theorem sg_7 : pg 7 = pm_7 := rfl
theorem sg_8 : pg 8 = pm_8 := rfl
theorem sg_9 : pg 9 = pm_9 := rfl
theorem sg_14 : pg 14 = pm_14 := rfl
theorem sg_15 : pg 15 = pm_15 := rfl
theorem sg_16 : pg 16 = pm_16 := rfl
theorem sg_17 : pg 17 = pm_17 := rfl
theorem sg_18 : pg 18 = pm_18 := rfl
theorem sg_19 : pg 19 = pm_19 := rfl
theorem sg_20 : pg 20 = pm_20 := rfl
theorem sg_21 : pg 21 = pm_21 := rfl
theorem sg_22 : pg 22 = pm_22 := rfl
theorem sg_23 : pg 23 = pm_23 := rfl
theorem sg_24 : pg 24 = pm_24 := rfl
theorem sg_25 : pg 25 = pm_25 := rfl
theorem sg_26 : pg 26 = pm_26 := rfl
theorem sg_27 : pg 27 = pm_27 := rfl
theorem sg_30 : pg 30 = pm_30 := rfl
theorem sg_31 : pg 31 = pm_31 := rfl
theorem sg_32 : pg 32 = pm_32 := rfl
theorem sg_33 : pg 33 = pm_33 := rfl
theorem sg_34 : pg 34 = pm_34 := rfl
theorem sg_35 : pg 35 = pm_35 := rfl
theorem sg_37 : pg 37 = pm_37 := rfl
theorem sg_38 : pg 38 = pm_38 := rfl
theorem sg_39 : pg 39 = pm_39 := rfl
theorem sg_40 : pg 40 = pm_40 := rfl
theorem sg_41 : pg 41 = pm_41 := rfl
theorem sg_42 : pg 42 = pm_42 := rfl
theorem sg_43 : pg 43 = pm_43 := rfl
theorem sg_44 : pg 44 = pm_44 := rfl
theorem sg_45 : pg 45 = pm_45 := rfl
theorem sg_46 : pg 46 = pm_46 := rfl
theorem sg_47 : pg 47 = pm_47 := rfl
theorem sg_48 : pg 48 = pm_48 := rfl
theorem sg_49 : pg 49 = pm_49 := rfl
theorem sg_50 : pg 50 = pm_50 := rfl
theorem sg_76 : pg 76 = pm_76 := rfl
theorem sg_78 : pg 78 = pm_78 := rfl
theorem sg_136 : pg 136 = pm_136 := rfl
theorem sg_148 : pg 148 = pm_148 := rfl
theorem sg_149 : pg 149 = pm_149 := rfl
theorem sg_161 : pg 161 = pm_161 := rfl
theorem sg_162 : pg 162 = pm_162 := rfl
theorem sg_166 : pg 166 = pm_166 := rfl
theorem sg_167 : pg 167 = pm_167 := rfl
theorem sg_168 : pg 168 = pm_168 := rfl
theorem sg_169 : pg 169 = pm_169 := rfl
theorem sg_170 : pg 170 = pm_170 := rfl
theorem sg_171 : pg 171 = pm_171 := rfl
theorem sg_172 : pg 172 = pm_172 := rfl
theorem sg_175 : pg 175 = pm_175 := rfl
theorem sg_176 : pg 176 = pm_176 := rfl
theorem sg_202 : pg 202 = pm_202 := rfl
theorem sg_203 : pg 203 = pm_203 := rfl
theorem sg_204 : pg 204 = pm_204 := rfl
theorem sg_205 : pg 205 = pm_205 := rfl
theorem sg_206 : pg 206 = pm_206 := rfl
theorem sg_207 : pg 207 = pm_207 := rfl
theorem sg_208 : pg 208 = pm_208 := rfl
theorem sg_209 : pg 209 = pm_209 := rfl
theorem sg_210 : pg 210 = pm_210 := rfl
theorem sg_211 : pg 211 = pm_211 := rfl
theorem sg_212 : pg 212 = pm_212 := rfl
theorem sg_213 : pg 213 = pm_213 := rfl
theorem sg_214 : pg 214 = pm_214 := rfl
theorem sg_222 : pg 222 = pm_222 := rfl
theorem sg_223 : pg 223 = pm_223 := rfl
theorem sg_226 : pg 226 = pm_226 := rfl
theorem sg_232 : pg 232 = pm_232 := rfl
theorem sg_279 : pg 279 = pm_279 := rfl
theorem sg_280 : pg 280 = pm_280 := rfl
theorem sg_283 : pg 283 = pm_283 := rfl
theorem sg_287 : pg 287 = pm_287 := rfl
theorem sg_288 : pg 288 = pm_288 := rfl
theorem sg_289 : pg 289 = pm_289 := rfl
theorem sg_303 : pg 303 = pm_303 := rfl
theorem sg_304 : pg 304 = pm_304 := rfl
theorem sg_305 : pg 305 = pm_305 := rfl
theorem sg_306 : pg 306 = pm_306 := rfl
theorem sg_307 : pg 307 = pm_307 := rfl
theorem sg_309 : pg 309 = pm_309 := rfl
theorem sg_310 : pg 310 = pm_310 := rfl
theorem sg_311 : pg 311 = pm_311 := rfl
theorem sg_312 : pg 312 = pm_312 := rfl
theorem sg_342 : pg 342 = pm_342 := rfl
theorem sg_343 : pg 343 = pm_343 := rfl
theorem sg_344 : pg 344 = pm_344 := rfl
theorem sg_345 : pg 345 = pm_345 := rfl
theorem sg_346 : pg 346 = pm_346 := rfl
theorem sg_347 : pg 347 = pm_347 := rfl
theorem sg_348 : pg 348 = pm_348 := rfl
theorem sl_0_0 : pm_0.2.2.2.2.2 0 = some (.new 8, 3, 0, 0, 0) := rfl
theorem sl_0_3 : pm_0.2.2.2.2.2 3 = some (.dup, 1, 0, 0, 0) := rfl
theorem sl_0_4 : pm_0.2.2.2.2.2 4 = some (.invokespecial 50, 3, 1, 0, 4) := rfl
theorem sl_0_7 : pm_0.2.2.2.2.2 7 = some (.astore_n 1, 1, 0, 0, 0) := rfl
theorem sl_0_8 : pm_0.2.2.2.2.2 8 = some (.new 51, 3, 12, 0, 0) := rfl
theorem sl_0_11 : pm_0.2.2.2.2.2 11 = some (.dup, 1, 0, 0, 0) := rfl
theorem sl_0_12 : pm_0.2.2.2.2.2 12 = some (.invokespecial 53, 3, 206, 0, 4) := rfl
theorem sl_0_15 : pm_0.2.2.2.2.2 15 = some (.astore_n 2, 1, 0, 0, 0) := rfl
theorem sl_0_16 : pm_0.2.2.2.2.2 16 = some (.iconst 1, 1, 0, 0, 0) := rfl
theorem sl_0_17 : pm_0.2.2.2.2.2 17 = some (.newarray .long, 2, 1, 0, 0) := rfl
theorem sl_0_19 : pm_0.2.2.2.2.2 19 = some (.astore_n 3, 1, 0, 0, 0) := rfl
theorem sl_0_20 : pm_0.2.2.2.2.2 20 = some (.iconst 0, 1, 0, 0, 0) := rfl
theorem sl_0_21 : pm_0.2.2.2.2.2 21 = some (.istore 4, 2, 0, 0, 0) := rfl
theorem sl_0_23 : pm_0.2.2.2.2.2 23 = some (.iload 4, 2, 0, 0, 0) := rfl
theorem sl_0_25 : pm_0.2.2.2.2.2 25 = some (.aload_n 0, 1, 0, 0, 0) := rfl
theorem sl_0_26 : pm_0.2.2.2.2.2 26 = some (.arraylength, 1, 0, 0, 0) := rfl
theorem sl_0_27 : pm_0.2.2.2.2.2 27 = some (.bipush 6, 2, 0, 0, 0) := rfl
theorem sl_0_29 : pm_0.2.2.2.2.2 29 = some (.isub, 1, 0, 0, 0) := rfl
theorem sl_0_30 : pm_0.2.2.2.2.2 30 = some (.if_icmp .gt 1148, 3, 0, 0, 0) := rfl
theorem sl_0_33 : pm_0.2.2.2.2.2 33 = some (.aload_n 0, 1, 0, 0, 0) := rfl
theorem sl_0_34 : pm_0.2.2.2.2.2 34 = some (.iload 4, 2, 0, 0, 0) := rfl
theorem sl_0_36 : pm_0.2.2.2.2.2 36 = some (.iaload, 1, 0, 0, 0) := rfl
theorem sl_0_37 : pm_0.2.2.2.2.2 37 = some (.bipush 31, 2, 0, 0, 0) := rfl
theorem sl_0_39 : pm_0.2.2.2.2.2 39 = some (.iand, 1, 0, 0, 0) := rfl
theorem sl_0_40 : pm_0.2.2.2.2.2 40 = some (.tableswitch 1132 0 19 #[96, 167, 192, 236, 261, 286, 366, 379, 416, 453, 509, 633, 713, 805, 861, 898, 935, 972, 1039, 1107], 96, 0, 0, 0) := rfl
theorem sl_0_136 : pm_0.2.2.2.2.2 136 = some (.aload_n 1, 1, 0, 0, 0) := rfl
theorem sl_0_137 : pm_0.2.2.2.2.2 137 = some (.aload_n 0, 1, 0, 0, 0) := rfl
theorem sl_0_138 : pm_0.2.2.2.2.2 138 = some (.iload 4, 2, 0, 0, 0) := rfl
theorem sl_0_140 : pm_0.2.2.2.2.2 140 = some (.iconst 1, 1, 0, 0, 0) := rfl
theorem sl_0_141 : pm_0.2.2.2.2.2 141 = some (.iadd, 1, 0, 0, 0) := rfl
theorem sl_0_142 : pm_0.2.2.2.2.2 142 = some (.iaload, 1, 0, 0, 0) := rfl
theorem sl_0_143 : pm_0.2.2.2.2.2 143 = some (.aload_n 0, 1, 0, 0, 0) := rfl
theorem sl_0_144 : pm_0.2.2.2.2.2 144 = some (.iload 4, 2, 0, 0, 0) := rfl
theorem sl_0_146 : pm_0.2.2.2.2.2 146 = some (.iconst 2, 1, 0, 0, 0) := rfl
theorem sl_0_147 : pm_0.2.2.2.2.2 147 = some (.iadd, 1, 0, 0, 0) := rfl
theorem sl_0_148 : pm_0.2.2.2.2.2 148 = some (.iaload, 1, 0, 0, 0) := rfl
theorem sl_0_149 : pm_0.2.2.2.2.2 149 = some (.aload_n 0, 1, 0, 0, 0) := rfl
theorem sl_0_150 : pm_0.2.2.2.2.2 150 = some (.iload 4, 2, 0, 0, 0) := rfl
theorem sl_0_152 : pm_0.2.2.2.2.2 152 = some (.iconst 3, 1, 0, 0, 0) := rfl
theorem sl_0_153 : pm_0.2.2.2.2.2 153 = some (.iadd, 1, 0, 0, 0) := rfl
theorem sl_0_154 : pm_0.2.2.2.2.2 154 = some (.iaload, 1, 0, 0, 0) := rfl
theorem sl_0_155 : pm_0.2.2.2.2.2 155 = some (.aload_n 0, 1, 0, 0, 0) := rfl
theorem sl_0_156 : pm_0.2.2.2.2.2 156 = some (.iload 4, 2, 0, 0, 0) := rfl
theorem sl_0_158 : pm_0.2.2.2.2.2 158 = some (.iconst 4, 1, 0, 0, 0) := rfl
theorem sl_0_159 : pm_0.2.2.2.2.2 159 = some (.iadd, 1, 0, 0, 0) := rfl
theorem sl_0_160 : pm_0.2.2.2.2.2 160 = some (.iaload, 1, 0, 0, 0) := rfl
theorem sl_0_161 : pm_0.2.2.2.2.2 161 = some (.aload_n 0, 1, 0, 0, 0) := rfl
theorem sl_0_162 : pm_0.2.2.2.2.2 162 = some (.iload 4, 2, 0, 0, 0) := rfl
theorem sl_0_164 : pm_0.2.2.2.2.2 164 = some (.iconst 5, 1, 0, 0, 0) := rfl
theorem sl_0_165 : pm_0.2.2.2.2.2 165 = some (.iadd, 1, 0, 0, 0) := rfl
theorem sl_0_166 : pm_0.2.2.2.2.2 166 = some (.iaload, 1, 0, 0, 0) := rfl
theorem sl_0_167 : pm_0.2.2.2.2.2 167 = some (.invokevirtual 54, 3, 23, 5, 0) := rfl
theorem sl_0_170 : pm_0.2.2.2.2.2 170 = some (.aload_n 2, 1, 0, 0, 0) := rfl
theorem sl_0_171 : pm_0.2.2.2.2.2 171 = some (.aload_n 0, 1, 0, 0, 0) := rfl
theorem sl_0_172 : pm_0.2.2.2.2.2 172 = some (.iload 4, 2, 0, 0, 0) := rfl
theorem sl_0_174 : pm_0.2.2.2.2.2 174 = some (.iconst 1, 1, 0, 0, 0) := rfl
theorem sl_0_175 : pm_0.2.2.2.2.2 175 = some (.iadd, 1, 0, 0, 0) := rfl
theorem sl_0_176 : pm_0.2.2.2.2.2 176 = some (.iaload, 1, 0, 0, 0) := rfl
theorem sl_0_177 : pm_0.2.2.2.2.2 177 = some (.aload_n 0, 1, 0, 0, 0) := rfl
theorem sl_0_178 : pm_0.2.2.2.2.2 178 = some (.iload 4, 2, 0, 0, 0) := rfl
theorem sl_0_180 : pm_0.2.2.2.2.2 180 = some (.iconst 2, 1, 0, 0, 0) := rfl
theorem sl_0_181 : pm_0.2.2.2.2.2 181 = some (.iadd, 1, 0, 0, 0) := rfl
theorem sl_0_182 : pm_0.2.2.2.2.2 182 = some (.iaload, 1, 0, 0, 0) := rfl
theorem sl_0_183 : pm_0.2.2.2.2.2 183 = some (.aload_n 0, 1, 0, 0, 0) := rfl
theorem sl_0_184 : pm_0.2.2.2.2.2 184 = some (.iload 4, 2, 0, 0, 0) := rfl
theorem sl_0_186 : pm_0.2.2.2.2.2 186 = some (.iconst 3, 1, 0, 0, 0) := rfl
theorem sl_0_187 : pm_0.2.2.2.2.2 187 = some (.iadd, 1, 0, 0, 0) := rfl
theorem sl_0_188 : pm_0.2.2.2.2.2 188 = some (.iaload, 1, 0, 0, 0) := rfl
theorem sl_0_189 : pm_0.2.2.2.2.2 189 = some (.aload_n 0, 1, 0, 0, 0) := rfl
theorem sl_0_190 : pm_0.2.2.2.2.2 190 = some (.iload 4, 2, 0, 0, 0) := rfl
theorem sl_0_192 : pm_0.2.2.2.2.2 192 = some (.iconst 4, 1, 0, 0, 0) := rfl
theorem sl_0_193 : pm_0.2.2.2.2.2 193 = some (.iadd, 1, 0, 0, 0) := rfl
theorem sl_0_194 : pm_0.2.2.2.2.2 194 = some (.iaload, 1, 0, 0, 0) := rfl
theorem sl_0_195 : pm_0.2.2.2.2.2 195 = some (.aload_n 0, 1, 0, 0, 0) := rfl
theorem sl_0_196 : pm_0.2.2.2.2.2 196 = some (.iload 4, 2, 0, 0, 0) := rfl
theorem sl_0_198 : pm_0.2.2.2.2.2 198 = some (.iconst 5, 1, 0, 0, 0) := rfl
theorem sl_0_199 : pm_0.2.2.2.2.2 199 = some (.iadd, 1, 0, 0, 0) := rfl
theorem sl_0_200 : pm_0.2.2.2.2.2 200 = some (.iaload, 1, 0, 0, 0) := rfl
theorem sl_0_201 : pm_0.2.2.2.2.2 201 = some (.invokevirtual 58, 3, 208, 5, 0) := rfl
theorem sl_0_204 : pm_0.2.2.2.2.2 204 = some (.goto 968, 3, 0, 0, 0) := rfl
theorem sl_0_207 : pm_0.2.2.2.2.2 207 = some (.aload_n 1, 1, 0, 0, 0) := rfl
theorem sl_0_208 : pm_0.2.2.2.2.2 208 = some (.aload_n 0, 1, 0, 0, 0) := rfl
theorem sl_0_209 : pm_0.2.2.2.2.2 209 = some (.iload 4, 2, 0, 0, 0) := rfl
theorem sl_0_211 : pm_0.2.2.2.2.2 211 = some (.iconst 1, 1, 0, 0, 0) := rfl
theorem sl_0_212 : pm_0.2.2.2.2.2 212 = some (.iadd, 1, 0, 0, 0) := rfl
theorem sl_0_213 : pm_0.2.2.2.2.2 213 = some (.iaload, 1, 0, 0, 0) := rfl
theorem sl_0_214 : pm_0.2.2.2.2.2 214 = some (.invokevirtual 59, 3, 24, 1, 0) := rfl
theorem sl_0_217 : pm_0.2.2.2.2.2 217 = some (.aload_n 2, 1, 0, 0, 0) := rfl
theorem sl_0_218 : pm_0.2.2.2.2.2 218 = some (.aload_n 0, 1, 0, 0, 0) := rfl
theorem sl_0_219 : pm_0.2.2.2.2.2 219 = some (.iload 4, 2, 0, 0, 0) := rfl
theorem sl_0_221 : pm_0.2.2.2.2.2 221 = some (.iconst 1, 1, 0, 0, 0) := rfl
theorem sl_0_222 : pm_0.2.2.2.2.2 222 = some (.iadd, 1, 0, 0, 0) := rfl
theorem sl_0_223 : pm_0.2.2.2.2.2 223 = some (.iaload, 1, 0, 0, 0) := rfl
theorem sl_0_224 : pm_0.2.2.2.2.2 224 = some (.invokevirtual 62, 3, 209, 1, 0) := rfl
theorem sl_0_227 : pm_0.2.2.2.2.2 227 = some (.if_icmp .eq 945, 3, 0, 0, 0) := rfl
theorem sl_0_232 : pm_0.2.2.2.2.2 232 = some (.aload_n 1, 1, 0, 0, 0) := rfl
theorem sl_0_233 : pm_0.2.2.2.2.2 233 = some (.aload_n 3, 1, 0, 0, 0) := rfl
theorem sl_0_234 : pm_0.2.2.2.2.2 234 = some (.invokestatic 63, 3, 42, 2, 3) := rfl
theorem sl_0_237 : pm_0.2.2.2.2.2 237 = some (.istore 5, 2, 0, 0, 0) := rfl
theorem sl_0_239 : pm_0.2.2.2.2.2 239 = some (.aload_n 2, 1, 0, 0, 0) := rfl
theorem sl_0_240 : pm_0.2.2.2.2.2 240 = some (.invokevirtual 68, 3, 210, 0, 0) := rfl
theorem sl_0_243 : pm_0.2.2.2.2.2 243 = some (.istore 6, 2, 0, 0, 0) := rfl
theorem sl_0_245 : pm_0.2.2.2.2.2 245 = some (.aload_n 2, 1, 0, 0, 0) := rfl
theorem sl_0_246 : pm_0.2.2.2.2.2 246 = some (.invokevirtual 69, 3, 207, 0, 0) := rfl
theorem sl_0_249 : pm_0.2.2.2.2.2 249 = some (.iload 5, 2, 0, 0, 0) := rfl
theorem sl_0_251 : pm_0.2.2.2.2.2 251 = some (.if_icmp .eq 5, 3, 0, 0, 0) := rfl
theorem sl_0_256 : pm_0.2.2.2.2.2 256 = some (.iload 5, 2, 0, 0, 0) := rfl
theorem sl_0_258 : pm_0.2.2.2.2.2 258 = some (.ifCond .ne 15, 3, 0, 0, 0) := rfl
theorem sl_0_273 : pm_0.2.2.2.2.2 273 = some (.goto 899, 3, 0, 0, 0) := rfl
theorem sl_0_276 : pm_0.2.2.2.2.2 276 = some (.aload_n 1, 1, 0, 0, 0) := rfl
theorem sl_0_277 : pm_0.2.2.2.2.2 277 = some (.aload_n 0, 1, 0, 0, 0) := rfl
theorem sl_0_278 : pm_0.2.2.2.2.2 278 = some (.iload 4, 2, 0, 0, 0) := rfl
theorem sl_0_280 : pm_0.2.2.2.2.2 280 = some (.iconst 1, 1, 0, 0, 0) := rfl
theorem sl_0_281 : pm_0.2.2.2.2.2 281 = some (.iadd, 1, 0, 0, 0) := rfl
theorem sl_0_282 : pm_0.2.2.2.2.2 282 = some (.iaload, 1, 0, 0, 0) := rfl
theorem sl_0_283 : pm_0.2.2.2.2.2 283 = some (.invokevirtual 72, 3, 26, 1, 0) := rfl
theorem sl_0_286 : pm_0.2.2.2.2.2 286 = some (.aload_n 2, 1, 0, 0, 0) := rfl
theorem sl_0_287 : pm_0.2.2.2.2.2 287 = some (.aload_n 0, 1, 0, 0, 0) := rfl
theorem sl_0_288 : pm_0.2.2.2.2.2 288 = some (.iload 4, 2, 0, 0, 0) := rfl
theorem sl_0_290 : pm_0.2.2.2.2.2 290 = some (.iconst 1, 1, 0, 0, 0) := rfl
theorem sl_0_291 : pm_0.2.2.2.2.2 291 = some (.iadd, 1, 0, 0, 0) := rfl
theorem sl_0_292 : pm_0.2.2.2.2.2 292 = some (.iaload, 1, 0, 0, 0) := rfl
theorem sl_0_293 : pm_0.2.2.2.2.2 293 = some (.invokevirtual 75, 3, 287, 1, 0) := rfl
theorem sl_0_296 : pm_0.2.2.2.2.2 296 = some (.if_icmp .eq 876, 3, 0, 0, 0) := rfl
theorem sl_0_301 : pm_0.2.2.2.2.2 301 = some (.aload_n 1, 1, 0, 0, 0) := rfl
theorem sl_0_302 : pm_0.2.2.2.2.2 302 = some (.aload_n 0, 1, 0, 0, 0) := rfl
theorem sl_0_303 : pm_0.2.2.2.2.2 303 = some (.iload 4, 2, 0, 0, 0) := rfl
theorem sl_0_305 : pm_0.2.2.2.2.2 305 = some (.iconst 1, 1, 0, 0, 0) := rfl
theorem sl_0_306 : pm_0.2.2.2.2.2 306 = some (.iadd, 1, 0, 0, 0) := rfl
theorem sl_0_307 : pm_0.2.2.2.2.2 307 = some (.iaload, 1, 0, 0, 0) := rfl
theorem sl_0_308 : pm_0.2.2.2.2.2 308 = some (.invokevirtual 76, 3, 27, 1, 0) := rfl
theorem sl_0_311 : pm_0.2.2.2.2.2 311 = some (.aload_n 2, 1, 0, 0, 0) := rfl
theorem sl_0_312 : pm_0.2.2.2.2.2 312 = some (.aload_n 0, 1, 0, 0, 0) := rfl
theorem sl_0_313 : pm_0.2.2.2.2.2 313 = some (.iload 4, 2, 0, 0, 0) := rfl
theorem sl_0_315 : pm_0.2.2.2.2.2 315 = some (.iconst 1, 1, 0, 0, 0) := rfl
theorem sl_0_316 : pm_0.2.2.2.2.2 316 = some (.iadd, 1, 0, 0, 0) := rfl
theorem sl_0_317 : pm_0.2.2.2.2.2 317 = some (.iaload, 1, 0, 0, 0) := rfl
theorem sl_0_318 : pm_0.2.2.2.2.2 318 = some (.invokevirtual 79, 3, 288, 1, 0) := rfl
theorem sl_0_321 : pm_0.2.2.2.2.2 321 = some (.if_icmp .eq 851, 3, 0, 0, 0) := rfl
theorem sl_0_326 : pm_0.2.2.2.2.2 326 = some (.aload_n 1, 1, 0, 0, 0) := rfl
theorem sl_0_327 : pm_0.2.2.2.2.2 327 = some (.aload_n 0, 1, 0, 0, 0) := rfl
theorem sl_0_328 : pm_0.2.2.2.2.2 328 = some (.iload 4, 2, 0, 0, 0) := rfl
theorem sl_0_330 : pm_0.2.2.2.2.2 330 = some (.iconst 1, 1, 0, 0, 0) := rfl
theorem sl_0_331 : pm_0.2.2.2.2.2 331 = some (.iadd, 1, 0, 0, 0) := rfl
theorem sl_0_332 : pm_0.2.2.2.2.2 332 = some (.iaload, 1, 0, 0, 0) := rfl
theorem sl_0_333 : pm_0.2.2.2.2.2 333 = some (.aload_n 0, 1, 0, 0, 0) := rfl
theorem sl_0_334 : pm_0.2.2.2.2.2 334 = some (.iload 4, 2, 0, 0, 0) := rfl
theorem sl_0_336 : pm_0.2.2.2.2.2 336 = some (.iconst 2, 1, 0, 0, 0) := rfl
theorem sl_0_337 : pm_0.2.2.2.2.2 337 = some (.iadd, 1, 0, 0, 0) := rfl
theorem sl_0_338 : pm_0.2.2.2.2.2 338 = some (.iaload, 1, 0, 0, 0) := rfl
theorem sl_0_339 : pm_0.2.2.2.2.2 339 = some (.aload_n 0, 1, 0, 0, 0) := rfl
theorem sl_0_340 : pm_0.2.2.2.2.2 340 = some (.iload 4, 2, 0, 0, 0) := rfl
theorem sl_0_342 : pm_0.2.2.2.2.2 342 = some (.iconst 3, 1, 0, 0, 0) := rfl
theorem sl_0_343 : pm_0.2.2.2.2.2 343 = some (.iadd, 1, 0, 0, 0) := rfl
theorem sl_0_344 : pm_0.2.2.2.2.2 344 = some (.iaload, 1, 0, 0, 0) := rfl
theorem sl_0_345 : pm_0.2.2.2.2.2 345 = some (.aload_n 3, 1, 0, 0, 0) := rfl
theorem sl_0_346 : pm_0.2.2.2.2.2 346 = some (.invokestatic 80, 3, 148, 5, 3) := rfl
theorem sl_0_349 : pm_0.2.2.2.2.2 349 = some (.istore 5, 2, 0, 0, 0) := rfl
theorem sl_0_351 : pm_0.2.2.2.2.2 351 = some (.aload_n 2, 1, 0, 0, 0) := rfl
theorem sl_0_352 : pm_0.2.2.2.2.2 352 = some (.aload_n 0, 1, 0, 0, 0) := rfl
theorem sl_0_353 : pm_0.2.2.2.2.2 353 = some (.iload 4, 2, 0, 0, 0) := rfl
theorem sl_0_355 : pm_0.2.2.2.2.2 355 = some (.iconst 1, 1, 0, 0, 0) := rfl
theorem sl_0_356 : pm_0.2.2.2.2.2 356 = some (.iadd, 1, 0, 0, 0) := rfl
theorem sl_0_357 : pm_0.2.2.2.2.2 357 = some (.iaload, 1, 0, 0, 0) := rfl
theorem sl_0_358 : pm_0.2.2.2.2.2 358 = some (.aload_n 0, 1, 0, 0, 0) := rfl
theorem sl_0_359 : pm_0.2.2.2.2.2 359 = some (.iload 4, 2, 0, 0, 0) := rfl
theorem sl_0_361 : pm_0.2.2.2.2.2 361 = some (.iconst 2, 1, 0, 0, 0) := rfl
theorem sl_0_362 : pm_0.2.2.2.2.2 362 = some (.iadd, 1, 0, 0, 0) := rfl
theorem sl_0_363 : pm_0.2.2.2.2.2 363 = some (.iaload, 1, 0, 0, 0) := rfl
theorem sl_0_364 : pm_0.2.2.2.2.2 364 = some (.aload_n 0, 1, 0, 0, 0) := rfl
theorem sl_0_365 : pm_0.2.2.2.2.2 365 = some (.iload 4, 2, 0, 0, 0) := rfl
theorem sl_0_367 : pm_0.2.2.2.2.2 367 = some (.iconst 3, 1, 0, 0, 0) := rfl
theorem sl_0_368 : pm_0.2.2.2.2.2 368 = some (.iadd, 1, 0, 0, 0) := rfl
theorem sl_0_369 : pm_0.2.2.2.2.2 369 = some (.iaload, 1, 0, 0, 0) := rfl
theorem sl_0_370 : pm_0.2.2.2.2.2 370 = some (.invokevirtual 83, 3, 289, 3, 0) := rfl
theorem sl_0_373 : pm_0.2.2.2.2.2 373 = some (.istore 6, 2, 0, 0, 0) := rfl
theorem sl_0_375 : pm_0.2.2.2.2.2 375 = some (.aload_n 2, 1, 0, 0, 0) := rfl
theorem sl_0_376 : pm_0.2.2.2.2.2 376 = some (.invokevirtual 69, 3, 207, 0, 0) := rfl
theorem sl_0_379 : pm_0.2.2.2.2.2 379 = some (.iload 5, 2, 0, 0, 0) := rfl
theorem sl_0_381 : pm_0.2.2.2.2.2 381 = some (.if_icmp .eq 5, 3, 0, 0, 0) := rfl
theorem sl_0_386 : pm_0.2.2.2.2.2 386 = some (.iload 5, 2, 0, 0, 0) := rfl
theorem sl_0_388 : pm_0.2.2.2.2.2 388 = some (.ifCond .ne 15, 3, 0, 0, 0) := rfl
theorem sl_0_403 : pm_0.2.2.2.2.2 403 = some (.goto 769, 3, 0, 0, 0) := rfl
theorem sl_0_406 : pm_0.2.2.2.2.2 406 = some (.aload_n 1, 1, 0, 0, 0) := rfl
theorem sl_0_407 : pm_0.2.2.2.2.2 407 = some (.invokevirtual 84, 3, 30, 0, 0) := rfl
theorem sl_0_410 : pm_0.2.2.2.2.2 410 = some (.aload_n 2, 1, 0, 0, 0) := rfl
theorem sl_0_411 : pm_0.2.2.2.2.2 411 = some (.invokevirtual 87, 3, 303, 0, 0) := rfl
theorem sl_0_414 : pm_0.2.2.2.2.2 414 = some (.if_icmp .eq 758, 3, 0, 0, 0) := rfl
theorem sl_0_419 : pm_0.2.2.2.2.2 419 = some (.aload_n 1, 1, 0, 0, 0) := rfl
theorem sl_0_420 : pm_0.2.2.2.2.2 420 = some (.aload_n 0, 1, 0, 0, 0) := rfl
theorem sl_0_421 : pm_0.2.2.2.2.2 421 = some (.iload 4, 2, 0, 0, 0) := rfl
theorem sl_0_423 : pm_0.2.2.2.2.2 423 = some (.iconst 1, 1, 0, 0, 0) := rfl
theorem sl_0_424 : pm_0.2.2.2.2.2 424 = some (.iadd, 1, 0, 0, 0) := rfl
theorem sl_0_425 : pm_0.2.2.2.2.2 425 = some (.iaload, 1, 0, 0, 0) := rfl
theorem sl_0_426 : pm_0.2.2.2.2.2 426 = some (.aload_n 0, 1, 0, 0, 0) := rfl
theorem sl_0_427 : pm_0.2.2.2.2.2 427 = some (.iload 4, 2, 0, 0, 0) := rfl
theorem sl_0_429 : pm_0.2.2.2.2.2 429 = some (.iconst 2, 1, 0, 0, 0) := rfl
theorem sl_0_430 : pm_0.2.2.2.2.2 430 = some (.iadd, 1, 0, 0, 0) := rfl
theorem sl_0_431 : pm_0.2.2.2.2.2 431 = some (.iaload, 1, 0, 0, 0) := rfl
theorem sl_0_432 : pm_0.2.2.2.2.2 432 = some (.invokevirtual 88, 3, 31, 2, 0) := rfl
theorem sl_0_435 : pm_0.2.2.2.2.2 435 = some (.aload_n 2, 1, 0, 0, 0) := rfl
theorem sl_0_436 : pm_0.2.2.2.2.2 436 = some (.aload_n 0, 1, 0, 0, 0) := rfl
theorem sl_0_437 : pm_0.2.2.2.2.2 437 = some (.iload 4, 2, 0, 0, 0) := rfl
theorem sl_0_439 : pm_0.2.2.2.2.2 439 = some (.iconst 1, 1, 0, 0, 0) := rfl
theorem sl_0_440 : pm_0.2.2.2.2.2 440 = some (.iadd, 1, 0, 0, 0) := rfl
theorem sl_0_441 : pm_0.2.2.2.2.2 441 = some (.iaload, 1, 0, 0, 0) := rfl
theorem sl_0_442 : pm_0.2.2.2.2.2 442 = some (.aload_n 0, 1, 0, 0, 0) := rfl
theorem sl_0_443 : pm_0.2.2.2.2.2 443 = some (.iload 4, 2, 0, 0, 0) := rfl
theorem sl_0_445 : pm_0.2.2.2.2.2 445 = some (.iconst 2, 1, 0, 0, 0) := rfl
theorem sl_0_446 : pm_0.2.2.2.2.2 446 = some (.iadd, 1, 0, 0, 0) := rfl
theorem sl_0_447 : pm_0.2.2.2.2.2 447 = some (.iaload, 1, 0, 0, 0) := rfl
theorem sl_0_448 : pm_0.2.2.2.2.2 448 = some (.invokevirtual 91, 3, 304, 2, 0) := rfl
theorem sl_0_451 : pm_0.2.2.2.2.2 451 = some (.if_icmp .eq 721, 3, 0, 0, 0) := rfl
theorem sl_0_456 : pm_0.2.2.2.2.2 456 = some (.aload_n 1, 1, 0, 0, 0) := rfl
theorem sl_0_457 : pm_0.2.2.2.2.2 457 = some (.aload_n 0, 1, 0, 0, 0) := rfl
theorem sl_0_458 : pm_0.2.2.2.2.2 458 = some (.iload 4, 2, 0, 0, 0) := rfl
theorem sl_0_460 : pm_0.2.2.2.2.2 460 = some (.iconst 1, 1, 0, 0, 0) := rfl
theorem sl_0_461 : pm_0.2.2.2.2.2 461 = some (.iadd, 1, 0, 0, 0) := rfl
theorem sl_0_462 : pm_0.2.2.2.2.2 462 = some (.iaload, 1, 0, 0, 0) := rfl
theorem sl_0_463 : pm_0.2.2.2.2.2 463 = some (.aload_n 0, 1, 0, 0, 0) := rfl
theorem sl_0_464 : pm_0.2.2.2.2.2 464 = some (.iload 4, 2, 0, 0, 0) := rfl
theorem sl_0_466 : pm_0.2.2.2.2.2 466 = some (.iconst 2, 1, 0, 0, 0) := rfl
theorem sl_0_467 : pm_0.2.2.2.2.2 467 = some (.iadd, 1, 0, 0, 0) := rfl
theorem sl_0_468 : pm_0.2.2.2.2.2 468 = some (.iaload, 1, 0, 0, 0) := rfl
theorem sl_0_469 : pm_0.2.2.2.2.2 469 = some (.invokevirtual 92, 3, 32, 2, 0) := rfl
theorem sl_0_472 : pm_0.2.2.2.2.2 472 = some (.aload_n 2, 1, 0, 0, 0) := rfl
theorem sl_0_473 : pm_0.2.2.2.2.2 473 = some (.aload_n 0, 1, 0, 0, 0) := rfl
theorem sl_0_474 : pm_0.2.2.2.2.2 474 = some (.iload 4, 2, 0, 0, 0) := rfl
theorem sl_0_476 : pm_0.2.2.2.2.2 476 = some (.iconst 1, 1, 0, 0, 0) := rfl
theorem sl_0_477 : pm_0.2.2.2.2.2 477 = some (.iadd, 1, 0, 0, 0) := rfl
theorem sl_0_478 : pm_0.2.2.2.2.2 478 = some (.iaload, 1, 0, 0, 0) := rfl
theorem sl_0_479 : pm_0.2.2.2.2.2 479 = some (.aload_n 0, 1, 0, 0, 0) := rfl
theorem sl_0_480 : pm_0.2.2.2.2.2 480 = some (.iload 4, 2, 0, 0, 0) := rfl
theorem sl_0_482 : pm_0.2.2.2.2.2 482 = some (.iconst 2, 1, 0, 0, 0) := rfl
theorem sl_0_483 : pm_0.2.2.2.2.2 483 = some (.iadd, 1, 0, 0, 0) := rfl
theorem sl_0_484 : pm_0.2.2.2.2.2 484 = some (.iaload, 1, 0, 0, 0) := rfl
theorem sl_0_485 : pm_0.2.2.2.2.2 485 = some (.invokevirtual 95, 3, 306, 2, 0) := rfl
theorem sl_0_488 : pm_0.2.2.2.2.2 488 = some (.if_icmp .eq 684, 3, 0, 0, 0) := rfl
theorem sl_0_493 : pm_0.2.2.2.2.2 493 = some (.aload_n 1, 1, 0, 0, 0) := rfl
theorem sl_0_494 : pm_0.2.2.2.2.2 494 = some (.aload_n 0, 1, 0, 0, 0) := rfl
theorem sl_0_495 : pm_0.2.2.2.2.2 495 = some (.iload 4, 2, 0, 0, 0) := rfl
theorem sl_0_497 : pm_0.2.2.2.2.2 497 = some (.iconst 1, 1, 0, 0, 0) := rfl
theorem sl_0_498 : pm_0.2.2.2.2.2 498 = some (.iadd, 1, 0, 0, 0) := rfl
theorem sl_0_499 : pm_0.2.2.2.2.2 499 = some (.iaload, 1, 0, 0, 0) := rfl
theorem sl_0_500 : pm_0.2.2.2.2.2 500 = some (.aload_n 3, 1, 0, 0, 0) := rfl
theorem sl_0_501 : pm_0.2.2.2.2.2 501 = some (.invokestatic 96, 3, 161, 3, 3) := rfl
theorem sl_0_504 : pm_0.2.2.2.2.2 504 = some (.istore 5, 2, 0, 0, 0) := rfl
theorem sl_0_506 : pm_0.2.2.2.2.2 506 = some (.aload_n 2, 1, 0, 0, 0) := rfl
theorem sl_0_507 : pm_0.2.2.2.2.2 507 = some (.aload_n 0, 1, 0, 0, 0) := rfl
theorem sl_0_508 : pm_0.2.2.2.2.2 508 = some (.iload 4, 2, 0, 0, 0) := rfl
theorem sl_0_510 : pm_0.2.2.2.2.2 510 = some (.iconst 1, 1, 0, 0, 0) := rfl
theorem sl_0_511 : pm_0.2.2.2.2.2 511 = some (.iadd, 1, 0, 0, 0) := rfl
theorem sl_0_512 : pm_0.2.2.2.2.2 512 = some (.iaload, 1, 0, 0, 0) := rfl
theorem sl_0_513 : pm_0.2.2.2.2.2 513 = some (.invokevirtual 99, 3, 307, 1, 0) := rfl
theorem sl_0_516 : pm_0.2.2.2.2.2 516 = some (.istore 6, 2, 0, 0, 0) := rfl
theorem sl_0_518 : pm_0.2.2.2.2.2 518 = some (.aload_n 2, 1, 0, 0, 0) := rfl
theorem sl_0_519 : pm_0.2.2.2.2.2 519 = some (.invokevirtual 69, 3, 207, 0, 0) := rfl
theorem sl_0_522 : pm_0.2.2.2.2.2 522 = some (.iload 5, 2, 0, 0, 0) := rfl
theorem sl_0_524 : pm_0.2.2.2.2.2 524 = some (.if_icmp .eq 5, 3, 0, 0, 0) := rfl
theorem sl_0_529 : pm_0.2.2.2.2.2 529 = some (.iload 5, 2, 0, 0, 0) := rfl
theorem sl_0_531 : pm_0.2.2.2.2.2 531 = some (.ifCond .ne 15, 3, 0, 0, 0) := rfl
theorem sl_0_546 : pm_0.2.2.2.2.2 546 = some (.goto 626, 3, 0, 0, 0) := rfl
theorem sl_0_549 : pm_0.2.2.2.2.2 549 = some (.aload_n 1, 1, 0, 0, 0) := rfl
theorem sl_0_550 : pm_0.2.2.2.2.2 550 = some (.aload_n 0, 1, 0, 0, 0) := rfl
theorem sl_0_551 : pm_0.2.2.2.2.2 551 = some (.iload 4, 2, 0, 0, 0) := rfl
theorem sl_0_553 : pm_0.2.2.2.2.2 553 = some (.iconst 1, 1, 0, 0, 0) := rfl
theorem sl_0_554 : pm_0.2.2.2.2.2 554 = some (.iadd, 1, 0, 0, 0) := rfl
theorem sl_0_555 : pm_0.2.2.2.2.2 555 = some (.iaload, 1, 0, 0, 0) := rfl
theorem sl_0_556 : pm_0.2.2.2.2.2 556 = some (.aload_n 0, 1, 0, 0, 0) := rfl
theorem sl_0_557 : pm_0.2.2.2.2.2 557 = some (.iload 4, 2, 0, 0, 0) := rfl
theorem sl_0_559 : pm_0.2.2.2.2.2 559 = some (.iconst 2, 1, 0, 0, 0) := rfl
theorem sl_0_560 : pm_0.2.2.2.2.2 560 = some (.iadd, 1, 0, 0, 0) := rfl
theorem sl_0_561 : pm_0.2.2.2.2.2 561 = some (.iaload, 1, 0, 0, 0) := rfl
theorem sl_0_562 : pm_0.2.2.2.2.2 562 = some (.i2l, 1, 0, 0, 0) := rfl
theorem sl_0_563 : pm_0.2.2.2.2.2 563 = some (.bipush 32, 2, 0, 0, 0) := rfl
theorem sl_0_565 : pm_0.2.2.2.2.2 565 = some (.lshl, 1, 0, 0, 0) := rfl
theorem sl_0_566 : pm_0.2.2.2.2.2 566 = some (.aload_n 0, 1, 0, 0, 0) := rfl
theorem sl_0_567 : pm_0.2.2.2.2.2 567 = some (.iload 4, 2, 0, 0, 0) := rfl
theorem sl_0_569 : pm_0.2.2.2.2.2 569 = some (.iconst 3, 1, 0, 0, 0) := rfl
theorem sl_0_570 : pm_0.2.2.2.2.2 570 = some (.iadd, 1, 0, 0, 0) := rfl
theorem sl_0_571 : pm_0.2.2.2.2.2 571 = some (.iaload, 1, 0, 0, 0) := rfl
theorem sl_0_572 : pm_0.2.2.2.2.2 572 = some (.i2l, 1, 0, 0, 0) := rfl
theorem sl_0_573 : pm_0.2.2.2.2.2 573 = some (.ldc2_w 100, 3, 4294967295, 0, 0) := rfl
theorem sl_0_576 : pm_0.2.2.2.2.2 576 = some (.land, 1, 0, 0, 0) := rfl
theorem sl_0_577 : pm_0.2.2.2.2.2 577 = some (.lor, 1, 0, 0, 0) := rfl
theorem sl_0_578 : pm_0.2.2.2.2.2 578 = some (.aload_n 0, 1, 0, 0, 0) := rfl
theorem sl_0_579 : pm_0.2.2.2.2.2 579 = some (.iload 4, 2, 0, 0, 0) := rfl
theorem sl_0_581 : pm_0.2.2.2.2.2 581 = some (.iconst 4, 1, 0, 0, 0) := rfl
theorem sl_0_582 : pm_0.2.2.2.2.2 582 = some (.iadd, 1, 0, 0, 0) := rfl
theorem sl_0_583 : pm_0.2.2.2.2.2 583 = some (.iaload, 1, 0, 0, 0) := rfl
theorem sl_0_584 : pm_0.2.2.2.2.2 584 = some (.i2l, 1, 0, 0, 0) := rfl
theorem sl_0_585 : pm_0.2.2.2.2.2 585 = some (.bipush 32, 2, 0, 0, 0) := rfl
theorem sl_0_587 : pm_0.2.2.2.2.2 587 = some (.lshl, 1, 0, 0, 0) := rfl
theorem sl_0_588 : pm_0.2.2.2.2.2 588 = some (.aload_n 0, 1, 0, 0, 0) := rfl
theorem sl_0_589 : pm_0.2.2.2.2.2 589 = some (.iload 4, 2, 0, 0, 0) := rfl
theorem sl_0_591 : pm_0.2.2.2.2.2 591 = some (.iconst 5, 1, 0, 0, 0) := rfl
theorem sl_0_592 : pm_0.2.2.2.2.2 592 = some (.iadd, 1, 0, 0, 0) := rfl
theorem sl_0_593 : pm_0.2.2.2.2.2 593 = some (.iaload, 1, 0, 0, 0) := rfl
theorem sl_0_594 : pm_0.2.2.2.2.2 594 = some (.i2l, 1, 0, 0, 0) := rfl
theorem sl_0_595 : pm_0.2.2.2.2.2 595 = some (.ldc2_w 100, 3, 4294967295, 0, 0) := rfl
theorem sl_0_598 : pm_0.2.2.2.2.2 598 = some (.land, 1, 0, 0, 0) := rfl
theorem sl_0_599 : pm_0.2.2.2.2.2 599 = some (.lor, 1, 0, 0, 0) := rfl
theorem sl_0_600 : pm_0.2.2.2.2.2 600 = some (.invokestatic 102, 3, 166, 4, 3) := rfl
theorem sl_0_603 : pm_0.2.2.2.2.2 603 = some (.istore 5, 2, 0, 0, 0) := rfl
theorem sl_0_605 : pm_0.2.2.2.2.2 605 = some (.aload_n 2, 1, 0, 0, 0) := rfl
theorem sl_0_606 : pm_0.2.2.2.2.2 606 = some (.aload_n 0, 1, 0, 0, 0) := rfl
theorem sl_0_607 : pm_0.2.2.2.2.2 607 = some (.iload 4, 2, 0, 0, 0) := rfl
theorem sl_0_609 : pm_0.2.2.2.2.2 609 = some (.iconst 1, 1, 0, 0, 0) := rfl
theorem sl_0_610 : pm_0.2.2.2.2.2 610 = some (.iadd, 1, 0, 0, 0) := rfl
theorem sl_0_611 : pm_0.2.2.2.2.2 611 = some (.iaload, 1, 0, 0, 0) := rfl
theorem sl_0_612 : pm_0.2.2.2.2.2 612 = some (.aload_n 0, 1, 0, 0, 0) := rfl
theorem sl_0_613 : pm_0.2.2.2.2.2 613 = some (.iload 4, 2, 0, 0, 0) := rfl
theorem sl_0_615 : pm_0.2.2.2.2.2 615 = some (.iconst 2, 1, 0, 0, 0) := rfl
theorem sl_0_616 : pm_0.2.2.2.2.2 616 = some (.iadd, 1, 0, 0, 0) := rfl
theorem sl_0_617 : pm_0.2.2.2.2.2 617 = some (.iaload, 1, 0, 0, 0) := rfl
theorem sl_0_618 : pm_0.2.2.2.2.2 618 = some (.i2l, 1, 0, 0, 0) := rfl
theorem sl_0_619 : pm_0.2.2.2.2.2 619 = some (.bipush 32, 2, 0, 0, 0) := rfl
theorem sl_0_621 : pm_0.2.2.2.2.2 621 = some (.lshl, 1, 0, 0, 0) := rfl
theorem sl_0_622 : pm_0.2.2.2.2.2 622 = some (.aload_n 0, 1, 0, 0, 0) := rfl
theorem sl_0_623 : pm_0.2.2.2.2.2 623 = some (.iload 4, 2, 0, 0, 0) := rfl
theorem sl_0_625 : pm_0.2.2.2.2.2 625 = some (.iconst 3, 1, 0, 0, 0) := rfl
theorem sl_0_626 : pm_0.2.2.2.2.2 626 = some (.iadd, 1, 0, 0, 0) := rfl
theorem sl_0_627 : pm_0.2.2.2.2.2 627 = some (.iaload, 1, 0, 0, 0) := rfl
theorem sl_0_628 : pm_0.2.2.2.2.2 628 = some (.i2l, 1, 0, 0, 0) := rfl
theorem sl_0_629 : pm_0.2.2.2.2.2 629 = some (.ldc2_w 100, 3, 4294967295, 0, 0) := rfl
theorem sl_0_632 : pm_0.2.2.2.2.2 632 = some (.land, 1, 0, 0, 0) := rfl
theorem sl_0_633 : pm_0.2.2.2.2.2 633 = some (.lor, 1, 0, 0, 0) := rfl
theorem sl_0_634 : pm_0.2.2.2.2.2 634 = some (.aload_n 0, 1, 0, 0, 0) := rfl
theorem sl_0_635 : pm_0.2.2.2.2.2 635 = some (.iload 4, 2, 0, 0, 0) := rfl
theorem sl_0_637 : pm_0.2.2.2.2.2 637 = some (.iconst 4, 1, 0, 0, 0) := rfl
theorem sl_0_638 : pm_0.2.2.2.2.2 638 = some (.iadd, 1, 0, 0, 0) := rfl
theorem sl_0_639 : pm_0.2.2.2.2.2 639 = some (.iaload, 1, 0, 0, 0) := rfl
theorem sl_0_640 : pm_0.2.2.2.2.2 640 = some (.i2l, 1, 0, 0, 0) := rfl
theorem sl_0_641 : pm_0.2.2.2.2.2 641 = some (.bipush 32, 2, 0, 0, 0) := rfl
theorem sl_0_643 : pm_0.2.2.2.2.2 643 = some (.lshl, 1, 0, 0, 0) := rfl
theorem sl_0_644 : pm_0.2.2.2.2.2 644 = some (.aload_n 0, 1, 0, 0, 0) := rfl
theorem sl_0_645 : pm_0.2.2.2.2.2 645 = some (.iload 4, 2, 0, 0, 0) := rfl
theorem sl_0_647 : pm_0.2.2.2.2.2 647 = some (.iconst 5, 1, 0, 0, 0) := rfl
theorem sl_0_648 : pm_0.2.2.2.2.2 648 = some (.iadd, 1, 0, 0, 0) := rfl
theorem sl_0_649 : pm_0.2.2.2.2.2 649 = some (.iaload, 1, 0, 0, 0) := rfl
theorem sl_0_650 : pm_0.2.2.2.2.2 650 = some (.i2l, 1, 0, 0, 0) := rfl
theorem sl_0_651 : pm_0.2.2.2.2.2 651 = some (.ldc2_w 100, 3, 4294967295, 0, 0) := rfl
theorem sl_0_654 : pm_0.2.2.2.2.2 654 = some (.land, 1, 0, 0, 0) := rfl
theorem sl_0_655 : pm_0.2.2.2.2.2 655 = some (.lor, 1, 0, 0, 0) := rfl
theorem sl_0_656 : pm_0.2.2.2.2.2 656 = some (.invokevirtual 105, 3, 309, 3, 0) := rfl
theorem sl_0_659 : pm_0.2.2.2.2.2 659 = some (.aload_n 2, 1, 0, 0, 0) := rfl
theorem sl_0_660 : pm_0.2.2.2.2.2 660 = some (.invokevirtual 69, 3, 207, 0, 0) := rfl
theorem sl_0_663 : pm_0.2.2.2.2.2 663 = some (.iload 5, 2, 0, 0, 0) := rfl
theorem sl_0_665 : pm_0.2.2.2.2.2 665 = some (.if_icmp .eq 5, 3, 0, 0, 0) := rfl
theorem sl_0_670 : pm_0.2.2.2.2.2 670 = some (.goto 502, 3, 0, 0, 0) := rfl
theorem sl_0_673 : pm_0.2.2.2.2.2 673 = some (.aload_n 1, 1, 0, 0, 0) := rfl
theorem sl_0_674 : pm_0.2.2.2.2.2 674 = some (.aload_n 0, 1, 0, 0, 0) := rfl
theorem sl_0_675 : pm_0.2.2.2.2.2 675 = some (.iload 4, 2, 0, 0, 0) := rfl
theorem sl_0_677 : pm_0.2.2.2.2.2 677 = some (.iconst 1, 1, 0, 0, 0) := rfl
theorem sl_0_678 : pm_0.2.2.2.2.2 678 = some (.iadd, 1, 0, 0, 0) := rfl
theorem sl_0_679 : pm_0.2.2.2.2.2 679 = some (.iaload, 1, 0, 0, 0) := rfl
theorem sl_0_680 : pm_0.2.2.2.2.2 680 = some (.aload_n 0, 1, 0, 0, 0) := rfl
theorem sl_0_681 : pm_0.2.2.2.2.2 681 = some (.iload 4, 2, 0, 0, 0) := rfl
theorem sl_0_683 : pm_0.2.2.2.2.2 683 = some (.iconst 2, 1, 0, 0, 0) := rfl
theorem sl_0_684 : pm_0.2.2.2.2.2 684 = some (.iadd, 1, 0, 0, 0) := rfl
theorem sl_0_685 : pm_0.2.2.2.2.2 685 = some (.iaload, 1, 0, 0, 0) := rfl
theorem sl_0_686 : pm_0.2.2.2.2.2 686 = some (.i2l, 1, 0, 0, 0) := rfl
theorem sl_0_687 : pm_0.2.2.2.2.2 687 = some (.bipush 32, 2, 0, 0, 0) := rfl
theorem sl_0_689 : pm_0.2.2.2.2.2 689 = some (.lshl, 1, 0, 0, 0) := rfl
theorem sl_0_690 : pm_0.2.2.2.2.2 690 = some (.aload_n 0, 1, 0, 0, 0) := rfl
theorem sl_0_691 : pm_0.2.2.2.2.2 691 = some (.iload 4, 2, 0, 0, 0) := rfl
theorem sl_0_693 : pm_0.2.2.2.2.2 693 = some (.iconst 3, 1, 0, 0, 0) := rfl
theorem sl_0_694 : pm_0.2.2.2.2.2 694 = some (.iadd, 1, 0, 0, 0) := rfl
theorem sl_0_695 : pm_0.2.2.2.2.2 695 = some (.iaload, 1, 0, 0, 0) := rfl
theorem sl_0_696 : pm_0.2.2.2.2.2 696 = some (.i2l, 1, 0, 0, 0) := rfl
theorem sl_0_697 : pm_0.2.2.2.2.2 697 = some (.ldc2_w 100, 3, 4294967295, 0, 0) := rfl
theorem sl_0_700 : pm_0.2.2.2.2.2 700 = some (.land, 1, 0, 0, 0) := rfl
theorem sl_0_701 : pm_0.2.2.2.2.2 701 = some (.lor, 1, 0, 0, 0) := rfl
theorem sl_0_702 : pm_0.2.2.2.2.2 702 = some (.invokestatic 106, 3, 168, 3, 3) := rfl
theorem sl_0_705 : pm_0.2.2.2.2.2 705 = some (.istore 5, 2, 0, 0, 0) := rfl
theorem sl_0_707 : pm_0.2.2.2.2.2 707 = some (.aload_n 2, 1, 0, 0, 0) := rfl
theorem sl_0_708 : pm_0.2.2.2.2.2 708 = some (.aload_n 0, 1, 0, 0, 0) := rfl
theorem sl_0_709 : pm_0.2.2.2.2.2 709 = some (.iload 4, 2, 0, 0, 0) := rfl
theorem sl_0_711 : pm_0.2.2.2.2.2 711 = some (.iconst 1, 1, 0, 0, 0) := rfl
theorem sl_0_712 : pm_0.2.2.2.2.2 712 = some (.iadd, 1, 0, 0, 0) := rfl
theorem sl_0_713 : pm_0.2.2.2.2.2 713 = some (.iaload, 1, 0, 0, 0) := rfl
theorem sl_0_714 : pm_0.2.2.2.2.2 714 = some (.aload_n 0, 1, 0, 0, 0) := rfl
theorem sl_0_715 : pm_0.2.2.2.2.2 715 = some (.iload 4, 2, 0, 0, 0) := rfl
theorem sl_0_717 : pm_0.2.2.2.2.2 717 = some (.iconst 2, 1, 0, 0, 0) := rfl
theorem sl_0_718 : pm_0.2.2.2.2.2 718 = some (.iadd, 1, 0, 0, 0) := rfl
theorem sl_0_719 : pm_0.2.2.2.2.2 719 = some (.iaload, 1, 0, 0, 0) := rfl
theorem sl_0_720 : pm_0.2.2.2.2.2 720 = some (.i2l, 1, 0, 0, 0) := rfl
theorem sl_0_721 : pm_0.2.2.2.2.2 721 = some (.bipush 32, 2, 0, 0, 0) := rfl
theorem sl_0_723 : pm_0.2.2.2.2.2 723 = some (.lshl, 1, 0, 0, 0) := rfl
theorem sl_0_724 : pm_0.2.2.2.2.2 724 = some (.aload_n 0, 1, 0, 0, 0) := rfl
theorem sl_0_725 : pm_0.2.2.2.2.2 725 = some (.iload 4, 2, 0, 0, 0) := rfl
theorem sl_0_727 : pm_0.2.2.2.2.2 727 = some (.iconst 3, 1, 0, 0, 0) := rfl
theorem sl_0_728 : pm_0.2.2.2.2.2 728 = some (.iadd, 1, 0, 0, 0) := rfl
theorem sl_0_729 : pm_0.2.2.2.2.2 729 = some (.iaload, 1, 0, 0, 0) := rfl
theorem sl_0_730 : pm_0.2.2.2.2.2 730 = some (.i2l, 1, 0, 0, 0) := rfl
theorem sl_0_731 : pm_0.2.2.2.2.2 731 = some (.ldc2_w 100, 3, 4294967295, 0, 0) := rfl
theorem sl_0_734 : pm_0.2.2.2.2.2 734 = some (.land, 1, 0, 0, 0) := rfl
theorem sl_0_735 : pm_0.2.2.2.2.2 735 = some (.lor, 1, 0, 0, 0) := rfl
theorem sl_0_736 : pm_0.2.2.2.2.2 736 = some (.invokevirtual 109, 3, 310, 2, 0) := rfl
theorem sl_0_739 : pm_0.2.2.2.2.2 739 = some (.aload_n 2, 1, 0, 0, 0) := rfl
theorem sl_0_740 : pm_0.2.2.2.2.2 740 = some (.invokevirtual 69, 3, 207, 0, 0) := rfl
theorem sl_0_743 : pm_0.2.2.2.2.2 743 = some (.iload 5, 2, 0, 0, 0) := rfl
theorem sl_0_745 : pm_0.2.2.2.2.2 745 = some (.if_icmp .eq 5, 3, 0, 0, 0) := rfl
theorem sl_0_750 : pm_0.2.2.2.2.2 750 = some (.goto 422, 3, 0, 0, 0) := rfl
theorem sl_0_753 : pm_0.2.2.2.2.2 753 = some (.aload_n 1, 1, 0, 0, 0) := rfl
theorem sl_0_754 : pm_0.2.2.2.2.2 754 = some (.aload_n 0, 1, 0, 0, 0) := rfl
theorem sl_0_755 : pm_0.2.2.2.2.2 755 = some (.iload 4, 2, 0, 0, 0) := rfl
theorem sl_0_757 : pm_0.2.2.2.2.2 757 = some (.iconst 1, 1, 0, 0, 0) := rfl
theorem sl_0_758 : pm_0.2.2.2.2.2 758 = some (.iadd, 1, 0, 0, 0) := rfl
theorem sl_0_759 : pm_0.2.2.2.2.2 759 = some (.iaload, 1, 0, 0, 0) := rfl
theorem sl_0_760 : pm_0.2.2.2.2.2 760 = some (.aload_n 0, 1, 0, 0, 0) := rfl
theorem sl_0_761 : pm_0.2.2.2.2.2 761 = some (.iload 4, 2, 0, 0, 0) := rfl
theorem sl_0_763 : pm_0.2.2.2.2.2 763 = some (.iconst 2, 1, 0, 0, 0) := rfl
theorem sl_0_764 : pm_0.2.2.2.2.2 764 = some (.iadd, 1, 0, 0, 0) := rfl
theorem sl_0_765 : pm_0.2.2.2.2.2 765 = some (.iaload, 1, 0, 0, 0) := rfl
theorem sl_0_766 : pm_0.2.2.2.2.2 766 = some (.aload_n 0, 1, 0, 0, 0) := rfl
theorem sl_0_767 : pm_0.2.2.2.2.2 767 = some (.iload 4, 2, 0, 0, 0) := rfl
theorem sl_0_769 : pm_0.2.2.2.2.2 769 = some (.iconst 3, 1, 0, 0, 0) := rfl
theorem sl_0_770 : pm_0.2.2.2.2.2 770 = some (.iadd, 1, 0, 0, 0) := rfl
theorem sl_0_771 : pm_0.2.2.2.2.2 771 = some (.iaload, 1, 0, 0, 0) := rfl
theorem sl_0_772 : pm_0.2.2.2.2.2 772 = some (.aload_n 0, 1, 0, 0, 0) := rfl
theorem sl_0_773 : pm_0.2.2.2.2.2 773 = some (.iload 4, 2, 0, 0, 0) := rfl
theorem sl_0_775 : pm_0.2.2.2.2.2 775 = some (.iconst 4, 1, 0, 0, 0) := rfl
theorem sl_0_776 : pm_0.2.2.2.2.2 776 = some (.iadd, 1, 0, 0, 0) := rfl
theorem sl_0_777 : pm_0.2.2.2.2.2 777 = some (.iaload, 1, 0, 0, 0) := rfl
theorem sl_0_778 : pm_0.2.2.2.2.2 778 = some (.aload_n 3, 1, 0, 0, 0) := rfl
theorem sl_0_779 : pm_0.2.2.2.2.2 779 = some (.invokestatic 110, 3, 170, 6, 3) := rfl
theorem sl_0_782 : pm_0.2.2.2.2.2 782 = some (.istore 5, 2, 0, 0, 0) := rfl
theorem sl_0_784 : pm_0.2.2.2.2.2 784 = some (.aload_n 2, 1, 0, 0, 0) := rfl
theorem sl_0_785 : pm_0.2.2.2.2.2 785 = some (.aload_n 0, 1, 0, 0, 0) := rfl
theorem sl_0_786 : pm_0.2.2.2.2.2 786 = some (.iload 4, 2, 0, 0, 0) := rfl
theorem sl_0_788 : pm_0.2.2.2.2.2 788 = some (.iconst 1, 1, 0, 0, 0) := rfl
theorem sl_0_789 : pm_0.2.2.2.2.2 789 = some (.iadd, 1, 0, 0, 0) := rfl
theorem sl_0_790 : pm_0.2.2.2.2.2 790 = some (.iaload, 1, 0, 0, 0) := rfl
theorem sl_0_791 : pm_0.2.2.2.2.2 791 = some (.aload_n 0, 1, 0, 0, 0) := rfl
theorem sl_0_792 : pm_0.2.2.2.2.2 792 = some (.iload 4, 2, 0, 0, 0) := rfl
theorem sl_0_794 : pm_0.2.2.2.2.2 794 = some (.iconst 2, 1, 0, 0, 0) := rfl
theorem sl_0_795 : pm_0.2.2.2.2.2 795 = some (.iadd, 1, 0, 0, 0) := rfl
theorem sl_0_796 : pm_0.2.2.2.2.2 796 = some (.iaload, 1, 0, 0, 0) := rfl
theorem sl_0_797 : pm_0.2.2.2.2.2 797 = some (.aload_n 0, 1, 0, 0, 0) := rfl
theorem sl_0_798 : pm_0.2.2.2.2.2 798 = some (.iload 4, 2, 0, 0, 0) := rfl
theorem sl_0_800 : pm_0.2.2.2.2.2 800 = some (.iconst 3, 1, 0, 0, 0) := rfl
theorem sl_0_801 : pm_0.2.2.2.2.2 801 = some (.iadd, 1, 0, 0, 0) := rfl
theorem sl_0_802 : pm_0.2.2.2.2.2 802 = some (.iaload, 1, 0, 0, 0) := rfl
theorem sl_0_803 : pm_0.2.2.2.2.2 803 = some (.aload_n 0, 1, 0, 0, 0) := rfl
theorem sl_0_804 : pm_0.2.2.2.2.2 804 = some (.iload 4, 2, 0, 0, 0) := rfl
theorem sl_0_806 : pm_0.2.2.2.2.2 806 = some (.iconst 4, 1, 0, 0, 0) := rfl
theorem sl_0_807 : pm_0.2.2.2.2.2 807 = some (.iadd, 1, 0, 0, 0) := rfl
theorem sl_0_808 : pm_0.2.2.2.2.2 808 = some (.iaload, 1, 0, 0, 0) := rfl
theorem sl_0_809 : pm_0.2.2.2.2.2 809 = some (.invokevirtual 113, 3, 311, 4, 0) := rfl
theorem sl_0_812 : pm_0.2.2.2.2.2 812 = some (.istore 6, 2, 0, 0, 0) := rfl
theorem sl_0_814 : pm_0.2.2.2.2.2 814 = some (.aload_n 2, 1, 0, 0, 0) := rfl
theorem sl_0_815 : pm_0.2.2.2.2.2 815 = some (.invokevirtual 69, 3, 207, 0, 0) := rfl
theorem sl_0_818 : pm_0.2.2.2.2.2 818 = some (.iload 5, 2, 0, 0, 0) := rfl
theorem sl_0_820 : pm_0.2.2.2.2.2 820 = some (.if_icmp .eq 5, 3, 0, 0, 0) := rfl
theorem sl_0_825 : pm_0.2.2.2.2.2 825 = some (.iload 5, 2, 0, 0, 0) := rfl
theorem sl_0_827 : pm_0.2.2.2.2.2 827 = some (.ifCond .ne 15, 3, 0, 0, 0) := rfl
theorem sl_0_842 : pm_0.2.2.2.2.2 842 = some (.goto 330, 3, 0, 0, 0) := rfl
theorem sl_0_845 : pm_0.2.2.2.2.2 845 = some (.aload_n 1, 1, 0, 0, 0) := rfl
theorem sl_0_846 : pm_0.2.2.2.2.2 846 = some (.aload_n 0, 1, 0, 0, 0) := rfl
theorem sl_0_847 : pm_0.2.2.2.2.2 847 = some (.iload 4, 2, 0, 0, 0) := rfl
theorem sl_0_849 : pm_0.2.2.2.2.2 849 = some (.iconst 1, 1, 0, 0, 0) := rfl
theorem sl_0_850 : pm_0.2.2.2.2.2 850 = some (.iadd, 1, 0, 0, 0) := rfl
theorem sl_0_851 : pm_0.2.2.2.2.2 851 = some (.iaload, 1, 0, 0, 0) := rfl
theorem sl_0_852 : pm_0.2.2.2.2.2 852 = some (.aload_n 3, 1, 0, 0, 0) := rfl
theorem sl_0_853 : pm_0.2.2.2.2.2 853 = some (.invokestatic 114, 3, 175, 3, 3) := rfl
theorem sl_0_856 : pm_0.2.2.2.2.2 856 = some (.istore 5, 2, 0, 0, 0) := rfl
theorem sl_0_858 : pm_0.2.2.2.2.2 858 = some (.aload_n 2, 1, 0, 0, 0) := rfl
theorem sl_0_859 : pm_0.2.2.2.2.2 859 = some (.aload_n 0, 1, 0, 0, 0) := rfl
theorem sl_0_860 : pm_0.2.2.2.2.2 860 = some (.iload 4, 2, 0, 0, 0) := rfl
theorem sl_0_862 : pm_0.2.2.2.2.2 862 = some (.iconst 1, 1, 0, 0, 0) := rfl
theorem sl_0_863 : pm_0.2.2.2.2.2 863 = some (.iadd, 1, 0, 0, 0) := rfl
theorem sl_0_864 : pm_0.2.2.2.2.2 864 = some (.iaload, 1, 0, 0, 0) := rfl
theorem sl_0_865 : pm_0.2.2.2.2.2 865 = some (.invokevirtual 116, 3, 312, 1, 0) := rfl
theorem sl_0_868 : pm_0.2.2.2.2.2 868 = some (.istore 6, 2, 0, 0, 0) := rfl
theorem sl_0_870 : pm_0.2.2.2.2.2 870 = some (.aload_n 2, 1, 0, 0, 0) := rfl
theorem sl_0_871 : pm_0.2.2.2.2.2 871 = some (.invokevirtual 69, 3, 207, 0, 0) := rfl
theorem sl_0_874 : pm_0.2.2.2.2.2 874 = some (.iload 5, 2, 0, 0, 0) := rfl
theorem sl_0_876 : pm_0.2.2.2.2.2 876 = some (.if_icmp .eq 5, 3, 0, 0, 0) := rfl
theorem sl_0_881 : pm_0.2.2.2.2.2 881 = some (.iload 5, 2, 0, 0, 0) := rfl
theorem sl_0_883 : pm_0.2.2.2.2.2 883 = some (.ifCond .ne 15, 3, 0, 0, 0) := rfl
theorem sl_0_898 : pm_0.2.2.2.2.2 898 = some (.goto 274, 3, 0, 0, 0) := rfl
theorem sl_0_901 : pm_0.2.2.2.2.2 901 = some (.aload_n 1, 1, 0, 0, 0) := rfl
theorem sl_0_902 : pm_0.2.2.2.2.2 902 = some (.aload_n 0, 1, 0, 0, 0) := rfl
theorem sl_0_903 : pm_0.2.2.2.2.2 903 = some (.iload 4, 2, 0, 0, 0) := rfl
theorem sl_0_905 : pm_0.2.2.2.2.2 905 = some (.iconst 1, 1, 0, 0, 0) := rfl
theorem sl_0_906 : pm_0.2.2.2.2.2 906 = some (.iadd, 1, 0, 0, 0) := rfl
theorem sl_0_907 : pm_0.2.2.2.2.2 907 = some (.iaload, 1, 0, 0, 0) := rfl
theorem sl_0_908 : pm_0.2.2.2.2.2 908 = some (.aload_n 0, 1, 0, 0, 0) := rfl
theorem sl_0_909 : pm_0.2.2.2.2.2 909 = some (.iload 4, 2, 0, 0, 0) := rfl
theorem sl_0_911 : pm_0.2.2.2.2.2 911 = some (.iconst 2, 1, 0, 0, 0) := rfl
theorem sl_0_912 : pm_0.2.2.2.2.2 912 = some (.iadd, 1, 0, 0, 0) := rfl
theorem sl_0_913 : pm_0.2.2.2.2.2 913 = some (.iaload, 1, 0, 0, 0) := rfl
theorem sl_0_914 : pm_0.2.2.2.2.2 914 = some (.invokevirtual 117, 3, 34, 2, 0) := rfl
theorem sl_0_917 : pm_0.2.2.2.2.2 917 = some (.aload_n 2, 1, 0, 0, 0) := rfl
theorem sl_0_918 : pm_0.2.2.2.2.2 918 = some (.aload_n 0, 1, 0, 0, 0) := rfl
theorem sl_0_919 : pm_0.2.2.2.2.2 919 = some (.iload 4, 2, 0, 0, 0) := rfl
theorem sl_0_921 : pm_0.2.2.2.2.2 921 = some (.iconst 1, 1, 0, 0, 0) := rfl
theorem sl_0_922 : pm_0.2.2.2.2.2 922 = some (.iadd, 1, 0, 0, 0) := rfl
theorem sl_0_923 : pm_0.2.2.2.2.2 923 = some (.iaload, 1, 0, 0, 0) := rfl
theorem sl_0_924 : pm_0.2.2.2.2.2 924 = some (.aload_n 0, 1, 0, 0, 0) := rfl
theorem sl_0_925 : pm_0.2.2.2.2.2 925 = some (.iload 4, 2, 0, 0, 0) := rfl
theorem sl_0_927 : pm_0.2.2.2.2.2 927 = some (.iconst 2, 1, 0, 0, 0) := rfl
theorem sl_0_928 : pm_0.2.2.2.2.2 928 = some (.iadd, 1, 0, 0, 0) := rfl
theorem sl_0_929 : pm_0.2.2.2.2.2 929 = some (.iaload, 1, 0, 0, 0) := rfl
theorem sl_0_930 : pm_0.2.2.2.2.2 930 = some (.invokevirtual 120, 3, 342, 2, 0) := rfl
theorem sl_0_933 : pm_0.2.2.2.2.2 933 = some (.if_icmp .eq 239, 3, 0, 0, 0) := rfl
theorem sl_0_938 : pm_0.2.2.2.2.2 938 = some (.aload_n 1, 1, 0, 0, 0) := rfl
theorem sl_0_939 : pm_0.2.2.2.2.2 939 = some (.aload_n 0, 1, 0, 0, 0) := rfl
theorem sl_0_940 : pm_0.2.2.2.2.2 940 = some (.iload 4, 2, 0, 0, 0) := rfl
theorem sl_0_942 : pm_0.2.2.2.2.2 942 = some (.iconst 1, 1, 0, 0, 0) := rfl
theorem sl_0_943 : pm_0.2.2.2.2.2 943 = some (.iadd, 1, 0, 0, 0) := rfl
theorem sl_0_944 : pm_0.2.2.2.2.2 944 = some (.iaload, 1, 0, 0, 0) := rfl
theorem sl_0_945 : pm_0.2.2.2.2.2 945 = some (.aload_n 0, 1, 0, 0, 0) := rfl
theorem sl_0_946 : pm_0.2.2.2.2.2 946 = some (.iload 4, 2, 0, 0, 0) := rfl
theorem sl_0_948 : pm_0.2.2.2.2.2 948 = some (.iconst 2, 1, 0, 0, 0) := rfl
theorem sl_0_949 : pm_0.2.2.2.2.2 949 = some (.iadd, 1, 0, 0, 0) := rfl
theorem sl_0_950 : pm_0.2.2.2.2.2 950 = some (.iaload, 1, 0, 0, 0) := rfl
theorem sl_0_951 : pm_0.2.2.2.2.2 951 = some (.invokevirtual 121, 3, 37, 2, 0) := rfl
theorem sl_0_954 : pm_0.2.2.2.2.2 954 = some (.aload_n 2, 1, 0, 0, 0) := rfl
theorem sl_0_955 : pm_0.2.2.2.2.2 955 = some (.aload_n 0, 1, 0, 0, 0) := rfl
theorem sl_0_956 : pm_0.2.2.2.2.2 956 = some (.iload 4, 2, 0, 0, 0) := rfl
theorem sl_0_958 : pm_0.2.2.2.2.2 958 = some (.iconst 1, 1, 0, 0, 0) := rfl
theorem sl_0_959 : pm_0.2.2.2.2.2 959 = some (.iadd, 1, 0, 0, 0) := rfl
theorem sl_0_960 : pm_0.2.2.2.2.2 960 = some (.iaload, 1, 0, 0, 0) := rfl
theorem sl_0_961 : pm_0.2.2.2.2.2 961 = some (.aload_n 0, 1, 0, 0, 0) := rfl
theorem sl_0_962 : pm_0.2.2.2.2.2 962 = some (.iload 4, 2, 0, 0, 0) := rfl
theorem sl_0_964 : pm_0.2.2.2.2.2 964 = some (.iconst 2, 1, 0, 0, 0) := rfl
theorem sl_0_965 : pm_0.2.2.2.2.2 965 = some (.iadd, 1, 0, 0, 0) := rfl
theorem sl_0_966 : pm_0.2.2.2.2.2 966 = some (.iaload, 1, 0, 0, 0) := rfl
theorem sl_0_967 : pm_0.2.2.2.2.2 967 = some (.invokevirtual 124, 3, 344, 2, 0) := rfl
theorem sl_0_970 : pm_0.2.2.2.2.2 970 = some (.if_icmp .eq 202, 3, 0, 0, 0) := rfl
theorem sl_0_975 : pm_0.2.2.2.2.2 975 = some (.aload_n 1, 1, 0, 0, 0) := rfl
theorem sl_0_976 : pm_0.2.2.2.2.2 976 = some (.aload_n 0, 1, 0, 0, 0) := rfl
theorem sl_0_977 : pm_0.2.2.2.2.2 977 = some (.iload 4, 2, 0, 0, 0) := rfl
theorem sl_0_979 : pm_0.2.2.2.2.2 979 = some (.iconst 1, 1, 0, 0, 0) := rfl
theorem sl_0_980 : pm_0.2.2.2.2.2 980 = some (.iadd, 1, 0, 0, 0) := rfl
theorem sl_0_981 : pm_0.2.2.2.2.2 981 = some (.iaload, 1, 0, 0, 0) := rfl
theorem sl_0_982 : pm_0.2.2.2.2.2 982 = some (.aload_n 0, 1, 0, 0, 0) := rfl
theorem sl_0_983 : pm_0.2.2.2.2.2 983 = some (.iload 4, 2, 0, 0, 0) := rfl
theorem sl_0_985 : pm_0.2.2.2.2.2 985 = some (.iconst 2, 1, 0, 0, 0) := rfl
theorem sl_0_986 : pm_0.2.2.2.2.2 986 = some (.iadd, 1, 0, 0, 0) := rfl
theorem sl_0_987 : pm_0.2.2.2.2.2 987 = some (.iaload, 1, 0, 0, 0) := rfl
theorem sl_0_988 : pm_0.2.2.2.2.2 988 = some (.invokevirtual 125, 3, 38, 2, 0) := rfl
theorem sl_0_991 : pm_0.2.2.2.2.2 991 = some (.aload_n 2, 1, 0, 0, 0) := rfl
theorem sl_0_992 : pm_0.2.2.2.2.2 992 = some (.aload_n 0, 1, 0, 0, 0) := rfl
theorem sl_0_993 : pm_0.2.2.2.2.2 993 = some (.iload 4, 2, 0, 0, 0) := rfl
theorem sl_0_995 : pm_0.2.2.2.2.2 995 = some (.iconst 1, 1, 0, 0, 0) := rfl
theorem sl_0_996 : pm_0.2.2.2.2.2 996 = some (.iadd, 1, 0, 0, 0) := rfl
theorem sl_0_997 : pm_0.2.2.2.2.2 997 = some (.iaload, 1, 0, 0, 0) := rfl
theorem sl_0_998 : pm_0.2.2.2.2.2 998 = some (.aload_n 0, 1, 0, 0, 0) := rfl
theorem sl_0_999 : pm_0.2.2.2.2.2 999 = some (.iload 4, 2, 0, 0, 0) := rfl
theorem sl_0_1001 : pm_0.2.2.2.2.2 1001 = some (.iconst 2, 1, 0, 0, 0) := rfl
theorem sl_0_1002 : pm_0.2.2.2.2.2 1002 = some (.iadd, 1, 0, 0, 0) := rfl
theorem sl_0_1003 : pm_0.2.2.2.2.2 1003 = some (.iaload, 1, 0, 0, 0) := rfl
theorem sl_0_1004 : pm_0.2.2.2.2.2 1004 = some (.invokevirtual 128, 3, 345, 2, 0) := rfl
theorem sl_0_1007 : pm_0.2.2.2.2.2 1007 = some (.if_icmp .eq 165, 3, 0, 0, 0) := rfl
theorem sl_0_1012 : pm_0.2.2.2.2.2 1012 = some (.aload_n 1, 1, 0, 0, 0) := rfl
theorem sl_0_1013 : pm_0.2.2.2.2.2 1013 = some (.aload_n 0, 1, 0, 0, 0) := rfl
theorem sl_0_1014 : pm_0.2.2.2.2.2 1014 = some (.iload 4, 2, 0, 0, 0) := rfl
theorem sl_0_1016 : pm_0.2.2.2.2.2 1016 = some (.iconst 1, 1, 0, 0, 0) := rfl
theorem sl_0_1017 : pm_0.2.2.2.2.2 1017 = some (.iadd, 1, 0, 0, 0) := rfl
theorem sl_0_1018 : pm_0.2.2.2.2.2 1018 = some (.iaload, 1, 0, 0, 0) := rfl
theorem sl_0_1019 : pm_0.2.2.2.2.2 1019 = some (.aload_n 0, 1, 0, 0, 0) := rfl
theorem sl_0_1020 : pm_0.2.2.2.2.2 1020 = some (.iload 4, 2, 0, 0, 0) := rfl
theorem sl_0_1022 : pm_0.2.2.2.2.2 1022 = some (.iconst 2, 1, 0, 0, 0) := rfl
theorem sl_0_1023 : pm_0.2.2.2.2.2 1023 = some (.iadd, 1, 0, 0, 0) := rfl
theorem sl_0_1024 : pm_0.2.2.2.2.2 1024 = some (.iaload, 1, 0, 0, 0) := rfl
theorem sl_0_1025 : pm_0.2.2.2.2.2 1025 = some (.aload_n 3, 1, 0, 0, 0) := rfl
theorem sl_0_1026 : pm_0.2.2.2.2.2 1026 = some (.invokestatic 129, 3, 202, 4, 3) := rfl
theorem sl_0_1029 : pm_0.2.2.2.2.2 1029 = some (.istore 5, 2, 0, 0, 0) := rfl
theorem sl_0_1031 : pm_0.2.2.2.2.2 1031 = some (.aload_n 2, 1, 0, 0, 0) := rfl
theorem sl_0_1032 : pm_0.2.2.2.2.2 1032 = some (.aload_n 0, 1, 0, 0, 0) := rfl
theorem sl_0_1033 : pm_0.2.2.2.2.2 1033 = some (.iload 4, 2, 0, 0, 0) := rfl
theorem sl_0_1035 : pm_0.2.2.2.2.2 1035 = some (.iconst 1, 1, 0, 0, 0) := rfl
theorem sl_0_1036 : pm_0.2.2.2.2.2 1036 = some (.iadd, 1, 0, 0, 0) := rfl
theorem sl_0_1037 : pm_0.2.2.2.2.2 1037 = some (.iaload, 1, 0, 0, 0) := rfl
theorem sl_0_1038 : pm_0.2.2.2.2.2 1038 = some (.aload_n 0, 1, 0, 0, 0) := rfl
theorem sl_0_1039 : pm_0.2.2.2.2.2 1039 = some (.iload 4, 2, 0, 0, 0) := rfl
theorem sl_0_1041 : pm_0.2.2.2.2.2 1041 = some (.iconst 2, 1, 0, 0, 0) := rfl
theorem sl_0_1042 : pm_0.2.2.2.2.2 1042 = some (.iadd, 1, 0, 0, 0) := rfl
theorem sl_0_1043 : pm_0.2.2.2.2.2 1043 = some (.iaload, 1, 0, 0, 0) := rfl
theorem sl_0_1044 : pm_0.2.2.2.2.2 1044 = some (.invokevirtual 132, 3, 346, 2, 0) := rfl
theorem sl_0_1047 : pm_0.2.2.2.2.2 1047 = some (.lstore 6, 2, 0, 0, 0) := rfl
theorem sl_0_1049 : pm_0.2.2.2.2.2 1049 = some (.aload_n 2, 1, 0, 0, 0) := rfl
theorem sl_0_1050 : pm_0.2.2.2.2.2 1050 = some (.invokevirtual 69, 3, 207, 0, 0) := rfl
theorem sl_0_1053 : pm_0.2.2.2.2.2 1053 = some (.iload 5, 2, 0, 0, 0) := rfl
theorem sl_0_1055 : pm_0.2.2.2.2.2 1055 = some (.if_icmp .eq 5, 3, 0, 0, 0) := rfl
theorem sl_0_1060 : pm_0.2.2.2.2.2 1060 = some (.iload 5, 2, 0, 0, 0) := rfl
theorem sl_0_1062 : pm_0.2.2.2.2.2 1062 = some (.ifCond .ne 14, 3, 0, 0, 0) := rfl
theorem sl_0_1065 : pm_0.2.2.2.2.2 1065 = some (.aload_n 3, 1, 0, 0, 0) := rfl
theorem sl_0_1066 : pm_0.2.2.2.2.2 1066 = some (.iconst 0, 1, 0, 0, 0) := rfl
theorem sl_0_1067 : pm_0.2.2.2.2.2 1067 = some (.laload, 1, 0, 0, 0) := rfl
theorem sl_0_1068 : pm_0.2.2.2.2.2 1068 = some (.lload 6, 2, 0, 0, 0) := rfl
theorem sl_0_1070 : pm_0.2.2.2.2.2 1070 = some (.lcmp, 1, 0, 0, 0) := rfl
theorem sl_0_1071 : pm_0.2.2.2.2.2 1071 = some (.ifCond .eq 5, 3, 0, 0, 0) := rfl
theorem sl_0_1076 : pm_0.2.2.2.2.2 1076 = some (.goto 96, 3, 0, 0, 0) := rfl
theorem sl_0_1079 : pm_0.2.2.2.2.2 1079 = some (.aload_n 1, 1, 0, 0, 0) := rfl
theorem sl_0_1080 : pm_0.2.2.2.2.2 1080 = some (.aload_n 0, 1, 0, 0, 0) := rfl
theorem sl_0_1081 : pm_0.2.2.2.2.2 1081 = some (.iload 4, 2, 0, 0, 0) := rfl
theorem sl_0_1083 : pm_0.2.2.2.2.2 1083 = some (.iconst 1, 1, 0, 0, 0) := rfl
theorem sl_0_1084 : pm_0.2.2.2.2.2 1084 = some (.iadd, 1, 0, 0, 0) := rfl
theorem sl_0_1085 : pm_0.2.2.2.2.2 1085 = some (.iaload, 1, 0, 0, 0) := rfl
theorem sl_0_1086 : pm_0.2.2.2.2.2 1086 = some (.aload_n 0, 1, 0, 0, 0) := rfl
theorem sl_0_1087 : pm_0.2.2.2.2.2 1087 = some (.iload 4, 2, 0, 0, 0) := rfl
theorem sl_0_1089 : pm_0.2.2.2.2.2 1089 = some (.iconst 2, 1, 0, 0, 0) := rfl
theorem sl_0_1090 : pm_0.2.2.2.2.2 1090 = some (.iadd, 1, 0, 0, 0) := rfl
theorem sl_0_1091 : pm_0.2.2.2.2.2 1091 = some (.iaload, 1, 0, 0, 0) := rfl
theorem sl_0_1092 : pm_0.2.2.2.2.2 1092 = some (.aload_n 3, 1, 0, 0, 0) := rfl
theorem sl_0_1093 : pm_0.2.2.2.2.2 1093 = some (.invokestatic 133, 3, 204, 4, 3) := rfl
theorem sl_0_1096 : pm_0.2.2.2.2.2 1096 = some (.istore 5, 2, 0, 0, 0) := rfl
theorem sl_0_1098 : pm_0.2.2.2.2.2 1098 = some (.aload_n 2, 1, 0, 0, 0) := rfl
theorem sl_0_1099 : pm_0.2.2.2.2.2 1099 = some (.aload_n 0, 1, 0, 0, 0) := rfl
theorem sl_0_1100 : pm_0.2.2.2.2.2 1100 = some (.iload 4, 2, 0, 0, 0) := rfl
theorem sl_0_1102 : pm_0.2.2.2.2.2 1102 = some (.iconst 1, 1, 0, 0, 0) := rfl
theorem sl_0_1103 : pm_0.2.2.2.2.2 1103 = some (.iadd, 1, 0, 0, 0) := rfl
theorem sl_0_1104 : pm_0.2.2.2.2.2 1104 = some (.iaload, 1, 0, 0, 0) := rfl
theorem sl_0_1105 : pm_0.2.2.2.2.2 1105 = some (.aload_n 0, 1, 0, 0, 0) := rfl
theorem sl_0_1106 : pm_0.2.2.2.2.2 1106 = some (.iload 4, 2, 0, 0, 0) := rfl
theorem sl_0_1108 : pm_0.2.2.2.2.2 1108 = some (.iconst 2, 1, 0, 0, 0) := rfl
theorem sl_0_1109 : pm_0.2.2.2.2.2 1109 = some (.iadd, 1, 0, 0, 0) := rfl
theorem sl_0_1110 : pm_0.2.2.2.2.2 1110 = some (.iaload, 1, 0, 0, 0) := rfl
theorem sl_0_1111 : pm_0.2.2.2.2.2 1111 = some (.invokevirtual 135, 3, 347, 2, 0) := rfl
theorem sl_0_1114 : pm_0.2.2.2.2.2 1114 = some (.istore 6, 2, 0, 0, 0) := rfl
theorem sl_0_1116 : pm_0.2.2.2.2.2 1116 = some (.aload_n 2, 1, 0, 0, 0) := rfl
theorem sl_0_1117 : pm_0.2.2.2.2.2 1117 = some (.invokevirtual 69, 3, 207, 0, 0) := rfl
theorem sl_0_1120 : pm_0.2.2.2.2.2 1120 = some (.iload 5, 2, 0, 0, 0) := rfl
theorem sl_0_1122 : pm_0.2.2.2.2.2 1122 = some (.if_icmp .eq 5, 3, 0, 0, 0) := rfl
theorem sl_0_1127 : pm_0.2.2.2.2.2 1127 = some (.iload 5, 2, 0, 0, 0) := rfl
theorem sl_0_1129 : pm_0.2.2.2.2.2 1129 = some (.ifCond .ne 15, 3, 0, 0, 0) := rfl
theorem sl_0_1132 : pm_0.2.2.2.2.2 1132 = some (.aload_n 3, 1, 0, 0, 0) := rfl
theorem sl_0_1133 : pm_0.2.2.2.2.2 1133 = some (.iconst 0, 1, 0, 0, 0) := rfl
theorem sl_0_1134 : pm_0.2.2.2.2.2 1134 = some (.laload, 1, 0, 0, 0) := rfl
theorem sl_0_1135 : pm_0.2.2.2.2.2 1135 = some (.iload 6, 2, 0, 0, 0) := rfl
theorem sl_0_1137 : pm_0.2.2.2.2.2 1137 = some (.i2l, 1, 0, 0, 0) := rfl
theorem sl_0_1138 : pm_0.2.2.2.2.2 1138 = some (.lcmp, 1, 0, 0, 0) := rfl
theorem sl_0_1139 : pm_0.2.2.2.2.2 1139 = some (.ifCond .eq 5, 3, 0, 0, 0) := rfl
theorem sl_0_1144 : pm_0.2.2.2.2.2 1144 = some (.goto 28, 3, 0, 0, 0) := rfl
theorem sl_0_1147 : pm_0.2.2.2.2.2 1147 = some (.aload_n 1, 1, 0, 0, 0) := rfl
theorem sl_0_1148 : pm_0.2.2.2.2.2 1148 = some (.aload_n 0, 1, 0, 0, 0) := rfl
theorem sl_0_1149 : pm_0.2.2.2.2.2 1149 = some (.iload 4, 2, 0, 0, 0) := rfl
theorem sl_0_1151 : pm_0.2.2.2.2.2 1151 = some (.iconst 1, 1, 0, 0, 0) := rfl
theorem sl_0_1152 : pm_0.2.2.2.2.2 1152 = some (.iadd, 1, 0, 0, 0) := rfl
theorem sl_0_1153 : pm_0.2.2.2.2.2 1153 = some (.iaload, 1, 0, 0, 0) := rfl
theorem sl_0_1154 : pm_0.2.2.2.2.2 1154 = some (.invokevirtual 136, 3, 39, 1, 0) := rfl
theorem sl_0_1157 : pm_0.2.2.2.2.2 1157 = some (.aload_n 2, 1, 0, 0, 0) := rfl
theorem sl_0_1158 : pm_0.2.2.2.2.2 1158 = some (.aload_n 0, 1, 0, 0, 0) := rfl
theorem sl_0_1159 : pm_0.2.2.2.2.2 1159 = some (.iload 4, 2, 0, 0, 0) := rfl
theorem sl_0_1161 : pm_0.2.2.2.2.2 1161 = some (.iconst 1, 1, 0, 0, 0) := rfl
theorem sl_0_1162 : pm_0.2.2.2.2.2 1162 = some (.iadd, 1, 0, 0, 0) := rfl
theorem sl_0_1163 : pm_0.2.2.2.2.2 1163 = some (.iaload, 1, 0, 0, 0) := rfl
theorem sl_0_1164 : pm_0.2.2.2.2.2 1164 = some (.invokevirtual 139, 3, 348, 1, 0) := rfl
theorem sl_0_1167 : pm_0.2.2.2.2.2 1167 = some (.if_icmp .eq 5, 3, 0, 0, 0) := rfl
theorem sl_0_1172 : pm_0.2.2.2.2.2 1172 = some (.iinc 4 6, 3, 0, 0, 0) := rfl
theorem sl_0_1175 : pm_0.2.2.2.2.2 1175 = some (.goto (-1152), 3, 0, 0, 0) := rfl
theorem sl_0_1178 : pm_0.2.2.2.2.2 1178 = some (.iconst 1, 1, 0, 0, 0) := rfl
theorem sl_0_1179 : pm_0.2.2.2.2.2 1179 = some (.ireturn, 1, 0, 0, 0) := rfl
theorem sl_1_0 : pm_1.2.2.2.2.2 0 = some (.aload_n 0, 1, 0, 0, 0) := rfl
theorem sl_1_1 : pm_1.2.2.2.2.2 1 = some (.invokespecial 3, 3, 0, 0, 6) := rfl
theorem sl_1_4 : pm_1.2.2.2.2.2 4 = some (.aload_n 0, 1, 0, 0, 0) := rfl
theorem sl_1_5 : pm_1.2.2.2.2.2 5 = some (.iconst 5, 1, 0, 0, 0) := rfl
theorem sl_1_6 : pm_1.2.2.2.2.2 6 = some (.newarray .int, 2, 0, 0, 0) := rfl
theorem sl_1_8 : pm_1.2.2.2.2.2 8 = some (.putfield 9, 3, 0, 0, 0) := rfl
theorem sl_1_11 : pm_1.2.2.2.2.2 11 = some (.aload_n 0, 1, 0, 0, 0) := rfl
theorem sl_1_12 : pm_1.2.2.2.2.2 12 = some (.sipush 4000, 3, 0, 0, 0) := rfl
theorem sl_1_15 : pm_1.2.2.2.2.2 15 = some (.newarray .byte, 2, 2, 0, 0) := rfl
theorem sl_1_17 : pm_1.2.2.2.2.2 17 = some (.putfield 13, 3, 0, 1, 0) := rfl
theorem sl_1_20 : pm_1.2.2.2.2.2 20 = some (.aload_n 0, 1, 0, 0, 0) := rfl
theorem sl_1_21 : pm_1.2.2.2.2.2 21 = some (.iconst 4, 1, 0, 0, 0) := rfl
theorem sl_1_22 : pm_1.2.2.2.2.2 22 = some (.newarray .long, 2, 1, 0, 0) := rfl
theorem sl_1_24 : pm_1.2.2.2.2.2 24 = some (.putfield 17, 3, 0, 3, 0) := rfl
theorem sl_1_27 : pm_1.2.2.2.2.2 27 = some (.aload_n 0, 1, 0, 0, 0) := rfl
theorem sl_1_28 : pm_1.2.2.2.2.2 28 = some (.iconst 4, 1, 0, 0, 0) := rfl
theorem sl_1_29 : pm_1.2.2.2.2.2 29 = some (.newarray .long, 2, 1, 0, 0) := rfl
theorem sl_1_31 : pm_1.2.2.2.2.2 31 = some (.putfield 21, 3, 0, 4, 0) := rfl
theorem sl_1_34 : pm_1.2.2.2.2.2 34 = some (.aload_n 0, 1, 0, 0, 0) := rfl
theorem sl_1_35 : pm_1.2.2.2.2.2 35 = some (.iconst 4, 1, 0, 0, 0) := rfl
theorem sl_1_36 : pm_1.2.2.2.2.2 36 = some (.newarray .long, 2, 1, 0, 0) := rfl
theorem sl_1_38 : pm_1.2.2.2.2.2 38 = some (.putfield 24, 3, 0, 5, 0) := rfl
theorem sl_1_41 : pm_1.2.2.2.2.2 41 = some (.aload_n 0, 1, 0, 0, 0) := rfl
theorem sl_1_42 : pm_1.2.2.2.2.2 42 = some (.new 27, 3, 11, 0, 0) := rfl
theorem sl_1_45 : pm_1.2.2.2.2.2 45 = some (.dup, 1, 0, 0, 0) := rfl
theorem sl_1_46 : pm_1.2.2.2.2.2 46 = some (.aload_n 0, 1, 0, 0, 0) := rfl
theorem sl_1_47 : pm_1.2.2.2.2.2 47 = some (.getfield 13, 3, 0, 1, 0) := rfl
theorem sl_1_50 : pm_1.2.2.2.2.2 50 = some (.invokespecial 29, 3, 2, 1, 4) := rfl
theorem sl_1_53 : pm_1.2.2.2.2.2 53 = some (.putfield 32, 3, 0, 6, 0) := rfl
theorem sl_1_56 : pm_1.2.2.2.2.2 56 = some (.aload_n 0, 1, 0, 0, 0) := rfl
theorem sl_1_57 : pm_1.2.2.2.2.2 57 = some (.new 36, 3, 6, 0, 0) := rfl
theorem sl_1_60 : pm_1.2.2.2.2.2 60 = some (.dup, 1, 0, 0, 0) := rfl
theorem sl_1_61 : pm_1.2.2.2.2.2 61 = some (.invokespecial 38, 3, 14, 0, 4) := rfl
theorem sl_1_64 : pm_1.2.2.2.2.2 64 = some (.putfield 39, 3, 0, 7, 0) := rfl
theorem sl_1_67 : pm_1.2.2.2.2.2 67 = some (.aload_n 0, 1, 0, 0, 0) := rfl
theorem sl_1_68 : pm_1.2.2.2.2.2 68 = some (.new 43, 3, 7, 0, 0) := rfl
theorem sl_1_71 : pm_1.2.2.2.2.2 71 = some (.dup, 1, 0, 0, 0) := rfl
theorem sl_1_72 : pm_1.2.2.2.2.2 72 = some (.aload_n 0, 1, 0, 0, 0) := rfl
theorem sl_1_73 : pm_1.2.2.2.2.2 73 = some (.getfield 32, 3, 0, 6, 0) := rfl
theorem sl_1_76 : pm_1.2.2.2.2.2 76 = some (.aload_n 0, 1, 0, 0, 0) := rfl
theorem sl_1_77 : pm_1.2.2.2.2.2 77 = some (.getfield 39, 3, 0, 7, 0) := rfl
theorem sl_1_80 : pm_1.2.2.2.2.2 80 = some (.invokespecial 45, 3, 20, 2, 4) := rfl
theorem sl_1_83 : pm_1.2.2.2.2.2 83 = some (.putfield 48, 3, 0, 8, 0) := rfl
theorem sl_1_86 : pm_1.2.2.2.2.2 86 = some (.aload_n 0, 1, 0, 0, 0) := rfl
theorem sl_1_87 : pm_1.2.2.2.2.2 87 = some (.new 52, 3, 5, 0, 0) := rfl
theorem sl_1_90 : pm_1.2.2.2.2.2 90 = some (.dup, 1, 0, 0, 0) := rfl
theorem sl_1_91 : pm_1.2.2.2.2.2 91 = some (.aload_n 0, 1, 0, 0, 0) := rfl
theorem sl_1_92 : pm_1.2.2.2.2.2 92 = some (.getfield 39, 3, 0, 7, 0) := rfl
theorem sl_1_95 : pm_1.2.2.2.2.2 95 = some (.invokespecial 54, 3, 22, 1, 4) := rfl
theorem sl_1_98 : pm_1.2.2.2.2.2 98 = some (.putfield 57, 3, 0, 9, 0) := rfl
theorem sl_1_101 : pm_1.2.2.2.2.2 101 = some (.aload_n 0, 1, 0, 0, 0) := rfl
theorem sl_1_102 : pm_1.2.2.2.2.2 102 = some (.iconst (-1), 1, 0, 0, 0) := rfl
theorem sl_1_103 : pm_1.2.2.2.2.2 103 = some (.putfield 61, 3, 0, 11, 0) := rfl
theorem sl_1_106 : pm_1.2.2.2.2.2 106 = some (.return_, 1, 0, 0, 0) := rfl
theorem sl_2_0 : pm_2.2.2.2.2.2 0 = some (.aload_n 0, 1, 0, 0, 0) := rfl
theorem sl_2_1 : pm_2.2.2.2.2.2 1 = some (.invokespecial 3, 3, 0, 0, 6) := rfl
theorem sl_2_4 : pm_2.2.2.2.2.2 4 = some (.aload_n 0, 1, 0, 0, 0) := rfl
theorem sl_2_5 : pm_2.2.2.2.2.2 5 = some (.bipush 31, 2, 0, 0, 0) := rfl
theorem sl_2_7 : pm_2.2.2.2.2.2 7 = some (.newarray .long, 2, 1, 0, 0) := rfl
theorem sl_2_9 : pm_2.2.2.2.2.2 9 = some (.putfield 9, 3, 11, 1, 0) := rfl
theorem sl_2_12 : pm_2.2.2.2.2.2 12 = some (.aload_n 0, 1, 0, 0, 0) := rfl
theorem sl_2_13 : pm_2.2.2.2.2.2 13 = some (.bipush 90, 2, 0, 0, 0) := rfl
theorem sl_2_15 : pm_2.2.2.2.2.2 15 = some (.newarray .long, 2, 1, 0, 0) := rfl
theorem sl_2_17 : pm_2.2.2.2.2.2 17 = some (.putfield 15, 3, 11, 2, 0) := rfl
theorem sl_2_20 : pm_2.2.2.2.2.2 20 = some (.aload_n 0, 1, 0, 0, 0) := rfl
theorem sl_2_21 : pm_2.2.2.2.2.2 21 = some (.bipush 90, 2, 0, 0, 0) := rfl
theorem sl_2_23 : pm_2.2.2.2.2.2 23 = some (.newarray .long, 2, 1, 0, 0) := rfl
theorem sl_2_25 : pm_2.2.2.2.2.2 25 = some (.putfield 18, 3, 11, 3, 0) := rfl
theorem sl_2_28 : pm_2.2.2.2.2.2 28 = some (.aload_n 0, 1, 0, 0, 0) := rfl
theorem sl_2_29 : pm_2.2.2.2.2.2 29 = some (.bipush 90, 2, 0, 0, 0) := rfl
theorem sl_2_31 : pm_2.2.2.2.2.2 31 = some (.newarray .int, 2, 0, 0, 0) := rfl
theorem sl_2_33 : pm_2.2.2.2.2.2 33 = some (.putfield 21, 3, 11, 4, 0) := rfl
theorem sl_2_36 : pm_2.2.2.2.2.2 36 = some (.aload_n 0, 1, 0, 0, 0) := rfl
theorem sl_2_37 : pm_2.2.2.2.2.2 37 = some (.bipush 90, 2, 0, 0, 0) := rfl
theorem sl_2_39 : pm_2.2.2.2.2.2 39 = some (.newarray .int, 2, 0, 0, 0) := rfl
theorem sl_2_41 : pm_2.2.2.2.2.2 41 = some (.putfield 25, 3, 11, 5, 0) := rfl
theorem sl_2_44 : pm_2.2.2.2.2.2 44 = some (.aload_n 0, 1, 0, 0, 0) := rfl
theorem sl_2_45 : pm_2.2.2.2.2.2 45 = some (.iconst (-1), 1, 0, 0, 0) := rfl
theorem sl_2_46 : pm_2.2.2.2.2.2 46 = some (.putfield 28, 3, 11, 15, 0) := rfl
theorem sl_2_49 : pm_2.2.2.2.2.2 49 = some (.aload_n 0, 1, 0, 0, 0) := rfl
theorem sl_2_50 : pm_2.2.2.2.2.2 50 = some (.aload_n 1, 1, 0, 0, 0) := rfl
theorem sl_2_51 : pm_2.2.2.2.2.2 51 = some (.putfield 32, 3, 11, 0, 0) := rfl
theorem sl_2_54 : pm_2.2.2.2.2.2 54 = some (.iconst 0, 1, 0, 0, 0) := rfl
theorem sl_2_55 : pm_2.2.2.2.2.2 55 = some (.istore_n 2, 1, 0, 0, 0) := rfl
theorem sl_2_56 : pm_2.2.2.2.2.2 56 = some (.iconst 0, 1, 0, 0, 0) := rfl
theorem sl_2_57 : pm_2.2.2.2.2.2 57 = some (.istore_n 3, 1, 0, 0, 0) := rfl
theorem sl_2_58 : pm_2.2.2.2.2.2 58 = some (.iconst 0, 1, 0, 0, 0) := rfl
theorem sl_2_59 : pm_2.2.2.2.2.2 59 = some (.istore 4, 2, 0, 0, 0) := rfl
theorem sl_2_61 : pm_2.2.2.2.2.2 61 = some (.iload 4, 2, 0, 0, 0) := rfl
theorem sl_2_63 : pm_2.2.2.2.2.2 63 = some (.ldc 36, 2, 0, 0, 1) := rfl
theorem sl_2_65 : pm_2.2.2.2.2.2 65 = some (.invokevirtual 38, 3, 3, 0, 7) := rfl
theorem sl_2_68 : pm_2.2.2.2.2.2 68 = some (.if_icmp .ge 62, 3, 0, 0, 0) := rfl
theorem sl_2_71 : pm_2.2.2.2.2.2 71 = some (.iload_n 2, 1, 0, 0, 0) := rfl
theorem sl_2_72 : pm_2.2.2.2.2.2 72 = some (.bipush 31, 2, 0, 0, 0) := rfl
theorem sl_2_74 : pm_2.2.2.2.2.2 74 = some (.if_icmp .ge 56, 3, 0, 0, 0) := rfl
theorem sl_2_77 : pm_2.2.2.2.2.2 77 = some (.ldc 36, 2, 0, 0, 1) := rfl
theorem sl_2_79 : pm_2.2.2.2.2.2 79 = some (.iload 4, 2, 0, 0, 0) := rfl
theorem sl_2_81 : pm_2.2.2.2.2.2 81 = some (.invokevirtual 44, 3, 5, 1, 7) := rfl
theorem sl_2_84 : pm_2.2.2.2.2.2 84 = some (.istore 5, 2, 0, 0, 0) := rfl
theorem sl_2_86 : pm_2.2.2.2.2.2 86 = some (.iload 5, 2, 0, 0, 0) := rfl
theorem sl_2_88 : pm_2.2.2.2.2.2 88 = some (.bipush 32, 2, 0, 0, 0) := rfl
theorem sl_2_90 : pm_2.2.2.2.2.2 90 = some (.if_icmp .ne 11, 3, 0, 0, 0) := rfl
theorem sl_2_93 : pm_2.2.2.2.2.2 93 = some (.iinc 2 1, 3, 0, 0, 0) := rfl
theorem sl_2_96 : pm_2.2.2.2.2.2 96 = some (.iconst 0, 1, 0, 0, 0) := rfl
theorem sl_2_97 : pm_2.2.2.2.2.2 97 = some (.istore_n 3, 1, 0, 0, 0) := rfl
theorem sl_2_98 : pm_2.2.2.2.2.2 98 = some (.goto 26, 3, 0, 0, 0) := rfl
theorem sl_2_101 : pm_2.2.2.2.2.2 101 = some (.aload_n 0, 1, 0, 0, 0) := rfl
theorem sl_2_102 : pm_2.2.2.2.2.2 102 = some (.getfield 9, 3, 11, 1, 0) := rfl
theorem sl_2_105 : pm_2.2.2.2.2.2 105 = some (.iload_n 2, 1, 0, 0, 0) := rfl
theorem sl_2_106 : pm_2.2.2.2.2.2 106 = some (.dup2, 1, 0, 0, 0) := rfl
theorem sl_2_107 : pm_2.2.2.2.2.2 107 = some (.laload, 1, 0, 0, 0) := rfl
theorem sl_2_108 : pm_2.2.2.2.2.2 108 = some (.iload 5, 2, 0, 0, 0) := rfl
theorem sl_2_110 : pm_2.2.2.2.2.2 110 = some (.i2l, 1, 0, 0, 0) := rfl
theorem sl_2_111 : pm_2.2.2.2.2.2 111 = some (.bipush 56, 2, 0, 0, 0) := rfl
theorem sl_2_113 : pm_2.2.2.2.2.2 113 = some (.bipush 8, 2, 0, 0, 0) := rfl
theorem sl_2_115 : pm_2.2.2.2.2.2 115 = some (.iload_n 3, 1, 0, 0, 0) := rfl
theorem sl_2_116 : pm_2.2.2.2.2.2 116 = some (.imul, 1, 0, 0, 0) := rfl
theorem sl_2_117 : pm_2.2.2.2.2.2 117 = some (.isub, 1, 0, 0, 0) := rfl
theorem sl_2_118 : pm_2.2.2.2.2.2 118 = some (.lshl, 1, 0, 0, 0) := rfl
theorem sl_2_119 : pm_2.2.2.2.2.2 119 = some (.lor, 1, 0, 0, 0) := rfl
theorem sl_2_120 : pm_2.2.2.2.2.2 120 = some (.lastore, 1, 0, 0, 0) := rfl
theorem sl_2_121 : pm_2.2.2.2.2.2 121 = some (.iinc 3 1, 3, 0, 0, 0) := rfl
theorem sl_2_124 : pm_2.2.2.2.2.2 124 = some (.iinc 4 1, 3, 0, 0, 0) := rfl
theorem sl_2_127 : pm_2.2.2.2.2.2 127 = some (.goto (-66), 3, 0, 0, 0) := rfl
theorem sl_2_130 : pm_2.2.2.2.2.2 130 = some (.return_, 1, 0, 0, 0) := rfl
theorem sl_3_0 : pm_3.2.2.2.2.2 0 = some (.aload_n 0, 1, 0, 0, 0) := rfl
theorem sl_3_1 : pm_3.2.2.2.2.2 1 = some (.getfield 9, 3, 1, 0, 1) := rfl
theorem sl_3_4 : pm_3.2.2.2.2.2 4 = some (.arraylength, 1, 0, 0, 0) := rfl
theorem sl_3_5 : pm_3.2.2.2.2.2 5 = some (.aload_n 0, 1, 0, 0, 0) := rfl
theorem sl_3_6 : pm_3.2.2.2.2.2 6 = some (.invokevirtual 335, 3, 4, 0, 7) := rfl
theorem sl_3_9 : pm_3.2.2.2.2.2 9 = some (.ishr, 1, 0, 0, 0) := rfl
theorem sl_3_10 : pm_3.2.2.2.2.2 10 = some (.ireturn, 1, 0, 0, 0) := rfl
theorem sl_4_0 : pm_4.2.2.2.2.2 0 = some (.getstatic 38, 3, 0, 0, 0) := rfl
theorem sl_4_3 : pm_4.2.2.2.2.2 3 = some (.ifCond .eq 10, 3, 0, 0, 0) := rfl
theorem sl_4_6 : pm_4.2.2.2.2.2 6 = some (.aload_n 0, 1, 0, 0, 0) := rfl
theorem sl_4_7 : pm_4.2.2.2.2.2 7 = some (.getfield 15, 3, 2, 0, 1) := rfl
theorem sl_4_10 : pm_4.2.2.2.2.2 10 = some (.goto 4, 3, 0, 0, 0) := rfl
theorem sl_4_14 : pm_4.2.2.2.2.2 14 = some (.ireturn, 1, 0, 0, 0) := rfl
theorem sl_5_0 : pm_5.2.2.2.2.2 0 = some (.aload_n 0, 1, 0, 0, 0) := rfl
theorem sl_5_1 : pm_5.2.2.2.2.2 1 = some (.invokevirtual 492, 3, 6, 0, 7) := rfl
theorem sl_5_4 : pm_5.2.2.2.2.2 4 = some (.ifCond .eq 12, 3, 0, 0, 0) := rfl
theorem sl_5_7 : pm_5.2.2.2.2.2 7 = some (.aload_n 0, 1, 0, 0, 0) := rfl
theorem sl_5_8 : pm_5.2.2.2.2.2 8 = some (.getfield 9, 3, 1, 0, 1) := rfl
theorem sl_5_11 : pm_5.2.2.2.2.2 11 = some (.iload_n 1, 1, 0, 0, 0) := rfl
theorem sl_5_12 : pm_5.2.2.2.2.2 12 = some (.invokestatic 495, 3, 7, 2, 1) := rfl
theorem sl_5_15 : pm_5.2.2.2.2.2 15 = some (.ireturn, 1, 0, 0, 0) := rfl
theorem sl_6_0 : pm_6.2.2.2.2.2 0 = some (.getstatic 38, 3, 0, 0, 0) := rfl
theorem sl_6_3 : pm_6.2.2.2.2.2 3 = some (.ifCond .eq 14, 3, 0, 0, 0) := rfl
theorem sl_6_6 : pm_6.2.2.2.2.2 6 = some (.aload_n 0, 1, 0, 0, 0) := rfl
theorem sl_6_7 : pm_6.2.2.2.2.2 7 = some (.getfield 15, 3, 2, 0, 1) := rfl
theorem sl_6_10 : pm_6.2.2.2.2.2 10 = some (.ifCond .ne 7, 3, 0, 0, 0) := rfl
theorem sl_6_13 : pm_6.2.2.2.2.2 13 = some (.iconst 1, 1, 0, 0, 0) := rfl
theorem sl_6_14 : pm_6.2.2.2.2.2 14 = some (.goto 4, 3, 0, 0, 0) := rfl
theorem sl_6_18 : pm_6.2.2.2.2.2 18 = some (.ireturn, 1, 0, 0, 0) := rfl
theorem sl_7_0 : pm_7.2.2.2.2.2 0 = some (.iload_n 1, 1, 0, 0, 0) := rfl
theorem sl_7_1 : pm_7.2.2.2.2.2 1 = some (.aload_n 0, 1, 0, 0, 0) := rfl
theorem sl_7_2 : pm_7.2.2.2.2.2 2 = some (.arraylength, 1, 0, 0, 0) := rfl
theorem sl_7_3 : pm_7.2.2.2.2.2 3 = some (.invokestatic 9, 3, 8, 2, 1) := rfl
theorem sl_7_6 : pm_7.2.2.2.2.2 6 = some (.aload_n 0, 1, 0, 0, 0) := rfl
theorem sl_7_7 : pm_7.2.2.2.2.2 7 = some (.iload_n 1, 1, 0, 0, 0) := rfl
theorem sl_7_8 : pm_7.2.2.2.2.2 8 = some (.baload, 1, 0, 0, 0) := rfl
theorem sl_7_9 : pm_7.2.2.2.2.2 9 = some (.sipush 255, 3, 0, 0, 0) := rfl
theorem sl_7_12 : pm_7.2.2.2.2.2 12 = some (.iand, 1, 0, 0, 0) := rfl
theorem sl_7_13 : pm_7.2.2.2.2.2 13 = some (.i2c, 1, 0, 0, 0) := rfl
theorem sl_7_14 : pm_7.2.2.2.2.2 14 = some (.ireturn, 1, 0, 0, 0) := rfl
theorem sl_8_0 : pm_8.2.2.2.2.2 0 = some (.iload_n 0, 1, 0, 0, 0) := rfl
theorem sl_8_1 : pm_8.2.2.2.2.2 1 = some (.iload_n 1, 1, 0, 0, 0) := rfl
theorem sl_8_2 : pm_8.2.2.2.2.2 2 = some (.getstatic 1053, 3, 0, 0, 1) := rfl
theorem sl_8_5 : pm_8.2.2.2.2.2 5 = some (.invokestatic 1059, 3, 9, 3, 1) := rfl
theorem sl_8_8 : pm_8.2.2.2.2.2 8 = some (.pop, 1, 0, 0, 0) := rfl
theorem sl_8_9 : pm_8.2.2.2.2.2 9 = some (.return_, 1, 0, 0, 0) := rfl
theorem sl_9_0 : pm_9.2.2.2.2.2 0 = some (.iload_n 0, 1, 0, 0, 0) := rfl
theorem sl_9_1 : pm_9.2.2.2.2.2 1 = some (.ifCond .lt 8, 3, 0, 0, 0) := rfl
theorem sl_9_4 : pm_9.2.2.2.2.2 4 = some (.iload_n 0, 1, 0, 0, 0) := rfl
theorem sl_9_5 : pm_9.2.2.2.2.2 5 = some (.iload_n 1, 1, 0, 0, 0) := rfl
theorem sl_9_6 : pm_9.2.2.2.2.2 6 = some (.if_icmp .lt 10, 3, 0, 0, 0) := rfl
theorem sl_9_16 : pm_9.2.2.2.2.2 16 = some (.iload_n 0, 1, 0, 0, 0) := rfl
theorem sl_9_17 : pm_9.2.2.2.2.2 17 = some (.ireturn, 1, 0, 0, 0) := rfl
theorem sl_14_0 : pm_14.2.2.2.2.2 0 = some (.aload_n 0, 1, 0, 0, 0) := rfl
theorem sl_14_1 : pm_14.2.2.2.2.2 1 = some (.invokespecial 3, 3, 0, 0, 6) := rfl
theorem sl_14_4 : pm_14.2.2.2.2.2 4 = some (.aload_n 0, 1, 0, 0, 0) := rfl
theorem sl_14_5 : pm_14.2.2.2.2.2 5 = some (.sipush 192, 3, 0, 0, 0) := rfl
theorem sl_14_8 : pm_14.2.2.2.2.2 8 = some (.newarray .int, 2, 0, 0, 0) := rfl
theorem sl_14_10 : pm_14.2.2.2.2.2 10 = some (.putfield 9, 3, 6, 0, 0) := rfl
theorem sl_14_13 : pm_14.2.2.2.2.2 13 = some (.aload_n 0, 1, 0, 0, 0) := rfl
theorem sl_14_14 : pm_14.2.2.2.2.2 14 = some (.sipush 192, 3, 0, 0, 0) := rfl
theorem sl_14_17 : pm_14.2.2.2.2.2 17 = some (.newarray .long, 2, 1, 0, 0) := rfl
theorem sl_14_19 : pm_14.2.2.2.2.2 19 = some (.putfield 15, 3, 6, 1, 0) := rfl
theorem sl_14_22 : pm_14.2.2.2.2.2 22 = some (.aload_n 0, 1, 0, 0, 0) := rfl
theorem sl_14_23 : pm_14.2.2.2.2.2 23 = some (.sipush 192, 3, 0, 0, 0) := rfl
theorem sl_14_26 : pm_14.2.2.2.2.2 26 = some (.newarray .long, 2, 1, 0, 0) := rfl
theorem sl_14_28 : pm_14.2.2.2.2.2 28 = some (.putfield 19, 3, 6, 2, 0) := rfl
theorem sl_14_31 : pm_14.2.2.2.2.2 31 = some (.aload_n 0, 1, 0, 0, 0) := rfl
theorem sl_14_32 : pm_14.2.2.2.2.2 32 = some (.bipush 12, 2, 0, 0, 0) := rfl
theorem sl_14_34 : pm_14.2.2.2.2.2 34 = some (.newarray .int, 2, 0, 0, 0) := rfl
theorem sl_14_36 : pm_14.2.2.2.2.2 36 = some (.putfield 22, 3, 6, 3, 0) := rfl
theorem sl_14_39 : pm_14.2.2.2.2.2 39 = some (.aload_n 0, 1, 0, 0, 0) := rfl
theorem sl_14_40 : pm_14.2.2.2.2.2 40 = some (.bipush 16, 2, 0, 0, 0) := rfl
theorem sl_14_42 : pm_14.2.2.2.2.2 42 = some (.newarray .int, 2, 0, 0, 0) := rfl
theorem sl_14_44 : pm_14.2.2.2.2.2 44 = some (.putfield 25, 3, 6, 4, 0) := rfl
theorem sl_14_47 : pm_14.2.2.2.2.2 47 = some (.aload_n 0, 1, 0, 0, 0) := rfl
theorem sl_14_48 : pm_14.2.2.2.2.2 48 = some (.bipush 8, 2, 0, 0, 0) := rfl
theorem sl_14_50 : pm_14.2.2.2.2.2 50 = some (.newarray .int, 2, 0, 0, 0) := rfl
theorem sl_14_52 : pm_14.2.2.2.2.2 52 = some (.putfield 28, 3, 6, 5, 0) := rfl
theorem sl_14_55 : pm_14.2.2.2.2.2 55 = some (.aload_n 0, 1, 0, 0, 0) := rfl
theorem sl_14_56 : pm_14.2.2.2.2.2 56 = some (.bipush 8, 2, 0, 0, 0) := rfl
theorem sl_14_58 : pm_14.2.2.2.2.2 58 = some (.newarray .int, 2, 0, 0, 0) := rfl
theorem sl_14_60 : pm_14.2.2.2.2.2 60 = some (.putfield 31, 3, 6, 6, 0) := rfl
theorem sl_14_63 : pm_14.2.2.2.2.2 63 = some (.aload_n 0, 1, 0, 0, 0) := rfl
theorem sl_14_64 : pm_14.2.2.2.2.2 64 = some (.bipush 12, 2, 0, 0, 0) := rfl
theorem sl_14_66 : pm_14.2.2.2.2.2 66 = some (.newarray .int, 2, 0, 0, 0) := rfl
theorem sl_14_68 : pm_14.2.2.2.2.2 68 = some (.putfield 34, 3, 6, 7, 0) := rfl
theorem sl_14_71 : pm_14.2.2.2.2.2 71 = some (.aload_n 0, 1, 0, 0, 0) := rfl
theorem sl_14_72 : pm_14.2.2.2.2.2 72 = some (.bipush 8, 2, 0, 0, 0) := rfl
theorem sl_14_74 : pm_14.2.2.2.2.2 74 = some (.anewarray 37, 3, 4, 0, 0) := rfl
theorem sl_14_77 : pm_14.2.2.2.2.2 77 = some (.putfield 39, 3, 6, 8, 0) := rfl
theorem sl_14_80 : pm_14.2.2.2.2.2 80 = some (.aload_n 0, 1, 0, 0, 0) := rfl
theorem sl_14_81 : pm_14.2.2.2.2.2 81 = some (.new 43, 3, 3, 0, 0) := rfl
theorem sl_14_84 : pm_14.2.2.2.2.2 84 = some (.dup, 1, 0, 0, 0) := rfl
theorem sl_14_85 : pm_14.2.2.2.2.2 85 = some (.invokespecial 45, 3, 15, 0, 5) := rfl
theorem sl_14_88 : pm_14.2.2.2.2.2 88 = some (.putfield 46, 3, 6, 9, 0) := rfl
theorem sl_14_91 : pm_14.2.2.2.2.2 91 = some (.aload_n 0, 1, 0, 0, 0) := rfl
theorem sl_14_92 : pm_14.2.2.2.2.2 92 = some (.new 50, 3, 8, 0, 0) := rfl
theorem sl_14_95 : pm_14.2.2.2.2.2 95 = some (.dup, 1, 0, 0, 0) := rfl
theorem sl_14_96 : pm_14.2.2.2.2.2 96 = some (.invokespecial 52, 3, 16, 0, 5) := rfl
theorem sl_14_99 : pm_14.2.2.2.2.2 99 = some (.putfield 53, 3, 6, 10, 0) := rfl
theorem sl_14_102 : pm_14.2.2.2.2.2 102 = some (.aload_n 0, 1, 0, 0, 0) := rfl
theorem sl_14_103 : pm_14.2.2.2.2.2 103 = some (.new 57, 3, 1, 0, 0) := rfl
theorem sl_14_106 : pm_14.2.2.2.2.2 106 = some (.dup, 1, 0, 0, 0) := rfl
theorem sl_14_107 : pm_14.2.2.2.2.2 107 = some (.invokespecial 59, 3, 17, 0, 5) := rfl
theorem sl_14_110 : pm_14.2.2.2.2.2 110 = some (.putfield 60, 3, 6, 11, 0) := rfl
theorem sl_14_113 : pm_14.2.2.2.2.2 113 = some (.aload_n 0, 1, 0, 0, 0) := rfl
theorem sl_14_114 : pm_14.2.2.2.2.2 114 = some (.new 64, 3, 9, 0, 0) := rfl
theorem sl_14_117 : pm_14.2.2.2.2.2 117 = some (.dup, 1, 0, 0, 0) := rfl
theorem sl_14_118 : pm_14.2.2.2.2.2 118 = some (.invokespecial 66, 3, 18, 0, 5) := rfl
theorem sl_14_121 : pm_14.2.2.2.2.2 121 = some (.putfield 67, 3, 6, 12, 0) := rfl
theorem sl_14_124 : pm_14.2.2.2.2.2 124 = some (.iconst 0, 1, 0, 0, 0) := rfl
theorem sl_14_125 : pm_14.2.2.2.2.2 125 = some (.istore_n 1, 1, 0, 0, 0) := rfl
theorem sl_14_126 : pm_14.2.2.2.2.2 126 = some (.iload_n 1, 1, 0, 0, 0) := rfl
theorem sl_14_127 : pm_14.2.2.2.2.2 127 = some (.bipush 8, 2, 0, 0, 0) := rfl
theorem sl_14_129 : pm_14.2.2.2.2.2 129 = some (.if_icmp .ge 22, 3, 0, 0, 0) := rfl
theorem sl_14_132 : pm_14.2.2.2.2.2 132 = some (.aload_n 0, 1, 0, 0, 0) := rfl
theorem sl_14_133 : pm_14.2.2.2.2.2 133 = some (.getfield 39, 3, 6, 8, 0) := rfl
theorem sl_14_136 : pm_14.2.2.2.2.2 136 = some (.iload_n 1, 1, 0, 0, 0) := rfl
theorem sl_14_137 : pm_14.2.2.2.2.2 137 = some (.new 37, 3, 10, 0, 0) := rfl
theorem sl_14_140 : pm_14.2.2.2.2.2 140 = some (.dup, 1, 0, 0, 0) := rfl
theorem sl_14_141 : pm_14.2.2.2.2.2 141 = some (.invokespecial 71, 3, 19, 0, 5) := rfl
theorem sl_14_144 : pm_14.2.2.2.2.2 144 = some (.aastore, 1, 0, 0, 0) := rfl
theorem sl_14_145 : pm_14.2.2.2.2.2 145 = some (.iinc 1 1, 3, 0, 0, 0) := rfl
theorem sl_14_148 : pm_14.2.2.2.2.2 148 = some (.goto (-22), 3, 0, 0, 0) := rfl
theorem sl_14_151 : pm_14.2.2.2.2.2 151 = some (.return_, 1, 0, 0, 0) := rfl
theorem sl_15_0 : pm_15.2.2.2.2.2 0 = some (.aload_n 0, 1, 0, 0, 0) := rfl
theorem sl_15_1 : pm_15.2.2.2.2.2 1 = some (.invokespecial 3, 3, 0, 0, 6) := rfl
theorem sl_15_4 : pm_15.2.2.2.2.2 4 = some (.aload_n 0, 1, 0, 0, 0) := rfl
theorem sl_15_5 : pm_15.2.2.2.2.2 5 = some (.sipush 1090, 3, 0, 0, 0) := rfl
theorem sl_15_8 : pm_15.2.2.2.2.2 8 = some (.newarray .int, 2, 0, 0, 0) := rfl
theorem sl_15_10 : pm_15.2.2.2.2.2 10 = some (.putfield 9, 3, 3, 0, 0) := rfl
theorem sl_15_13 : pm_15.2.2.2.2.2 13 = some (.aload_n 0, 1, 0, 0, 0) := rfl
theorem sl_15_14 : pm_15.2.2.2.2.2 14 = some (.sipush 1090, 3, 0, 0, 0) := rfl
theorem sl_15_17 : pm_15.2.2.2.2.2 17 = some (.newarray .int, 2, 0, 0, 0) := rfl
theorem sl_15_19 : pm_15.2.2.2.2.2 19 = some (.putfield 15, 3, 3, 1, 0) := rfl
theorem sl_15_22 : pm_15.2.2.2.2.2 22 = some (.aload_n 0, 1, 0, 0, 0) := rfl
theorem sl_15_23 : pm_15.2.2.2.2.2 23 = some (.sipush 1090, 3, 0, 0, 0) := rfl
theorem sl_15_26 : pm_15.2.2.2.2.2 26 = some (.newarray .int, 2, 0, 0, 0) := rfl
theorem sl_15_28 : pm_15.2.2.2.2.2 28 = some (.putfield 18, 3, 3, 2, 0) := rfl
theorem sl_15_31 : pm_15.2.2.2.2.2 31 = some (.aload_n 0, 1, 0, 0, 0) := rfl
theorem sl_15_32 : pm_15.2.2.2.2.2 32 = some (.sipush 1090, 3, 0, 0, 0) := rfl
theorem sl_15_35 : pm_15.2.2.2.2.2 35 = some (.newarray .int, 2, 0, 0, 0) := rfl
theorem sl_15_37 : pm_15.2.2.2.2.2 37 = some (.putfield 21, 3, 3, 3, 0) := rfl
theorem sl_15_40 : pm_15.2.2.2.2.2 40 = some (.aload_n 0, 1, 0, 0, 0) := rfl
theorem sl_15_41 : pm_15.2.2.2.2.2 41 = some (.sipush 1090, 3, 0, 0, 0) := rfl
theorem sl_15_44 : pm_15.2.2.2.2.2 44 = some (.newarray .int, 2, 0, 0, 0) := rfl
theorem sl_15_46 : pm_15.2.2.2.2.2 46 = some (.putfield 24, 3, 3, 4, 0) := rfl
theorem sl_15_49 : pm_15.2.2.2.2.2 49 = some (.aload_n 0, 1, 0, 0, 0) := rfl
theorem sl_15_50 : pm_15.2.2.2.2.2 50 = some (.sipush 1090, 3, 0, 0, 0) := rfl
theorem sl_15_53 : pm_15.2.2.2.2.2 53 = some (.newarray .int, 2, 0, 0, 0) := rfl
theorem sl_15_55 : pm_15.2.2.2.2.2 55 = some (.putfield 27, 3, 3, 5, 0) := rfl
theorem sl_15_58 : pm_15.2.2.2.2.2 58 = some (.aload_n 0, 1, 0, 0, 0) := rfl
theorem sl_15_59 : pm_15.2.2.2.2.2 59 = some (.sipush 1090, 3, 0, 0, 0) := rfl
theorem sl_15_62 : pm_15.2.2.2.2.2 62 = some (.newarray .long, 2, 1, 0, 0) := rfl
theorem sl_15_64 : pm_15.2.2.2.2.2 64 = some (.putfield 30, 3, 3, 6, 0) := rfl
theorem sl_15_67 : pm_15.2.2.2.2.2 67 = some (.aload_n 0, 1, 0, 0, 0) := rfl
theorem sl_15_68 : pm_15.2.2.2.2.2 68 = some (.sipush 1090, 3, 0, 0, 0) := rfl
theorem sl_15_71 : pm_15.2.2.2.2.2 71 = some (.newarray .long, 2, 1, 0, 0) := rfl
theorem sl_15_73 : pm_15.2.2.2.2.2 73 = some (.putfield 34, 3, 3, 7, 0) := rfl
theorem sl_15_76 : pm_15.2.2.2.2.2 76 = some (.return_, 1, 0, 0, 0) := rfl
theorem sl_16_0 : pm_16.2.2.2.2.2 0 = some (.aload_n 0, 1, 0, 0, 0) := rfl
theorem sl_16_1 : pm_16.2.2.2.2.2 1 = some (.invokespecial 3, 3, 0, 0, 6) := rfl
theorem sl_16_4 : pm_16.2.2.2.2.2 4 = some (.aload_n 0, 1, 0, 0, 0) := rfl
theorem sl_16_5 : pm_16.2.2.2.2.2 5 = some (.bipush 16, 2, 0, 0, 0) := rfl
theorem sl_16_7 : pm_16.2.2.2.2.2 7 = some (.newarray .int, 2, 0, 0, 0) := rfl
theorem sl_16_9 : pm_16.2.2.2.2.2 9 = some (.putfield 9, 3, 8, 0, 0) := rfl
theorem sl_16_12 : pm_16.2.2.2.2.2 12 = some (.aload_n 0, 1, 0, 0, 0) := rfl
theorem sl_16_13 : pm_16.2.2.2.2.2 13 = some (.bipush 96, 2, 0, 0, 0) := rfl
theorem sl_16_15 : pm_16.2.2.2.2.2 15 = some (.newarray .int, 2, 0, 0, 0) := rfl
theorem sl_16_17 : pm_16.2.2.2.2.2 17 = some (.putfield 15, 3, 8, 1, 0) := rfl
theorem sl_16_20 : pm_16.2.2.2.2.2 20 = some (.aload_n 0, 1, 0, 0, 0) := rfl
theorem sl_16_21 : pm_16.2.2.2.2.2 21 = some (.bipush 16, 2, 0, 0, 0) := rfl
theorem sl_16_23 : pm_16.2.2.2.2.2 23 = some (.newarray .int, 2, 0, 0, 0) := rfl
theorem sl_16_25 : pm_16.2.2.2.2.2 25 = some (.putfield 18, 3, 8, 2, 0) := rfl
theorem sl_16_28 : pm_16.2.2.2.2.2 28 = some (.aload_n 0, 1, 0, 0, 0) := rfl
theorem sl_16_29 : pm_16.2.2.2.2.2 29 = some (.bipush 16, 2, 0, 0, 0) := rfl
theorem sl_16_31 : pm_16.2.2.2.2.2 31 = some (.newarray .int, 2, 0, 0, 0) := rfl
theorem sl_16_33 : pm_16.2.2.2.2.2 33 = some (.putfield 21, 3, 8, 3, 0) := rfl
theorem sl_16_36 : pm_16.2.2.2.2.2 36 = some (.aload_n 0, 1, 0, 0, 0) := rfl
theorem sl_16_37 : pm_16.2.2.2.2.2 37 = some (.bipush 16, 2, 0, 0, 0) := rfl
theorem sl_16_39 : pm_16.2.2.2.2.2 39 = some (.newarray .int, 2, 0, 0, 0) := rfl
theorem sl_16_41 : pm_16.2.2.2.2.2 41 = some (.putfield 24, 3, 8, 4, 0) := rfl
theorem sl_16_44 : pm_16.2.2.2.2.2 44 = some (.aload_n 0, 1, 0, 0, 0) := rfl
theorem sl_16_45 : pm_16.2.2.2.2.2 45 = some (.sipush 128, 3, 0, 0, 0) := rfl
theorem sl_16_48 : pm_16.2.2.2.2.2 48 = some (.newarray .long, 2, 1, 0, 0) := rfl
theorem sl_16_50 : pm_16.2.2.2.2.2 50 = some (.putfield 27, 3, 8, 5, 0) := rfl
theorem sl_16_53 : pm_16.2.2.2.2.2 53 = some (.aload_n 0, 1, 0, 0, 0) := rfl
theorem sl_16_54 : pm_16.2.2.2.2.2 54 = some (.sipush 128, 3, 0, 0, 0) := rfl
theorem sl_16_57 : pm_16.2.2.2.2.2 57 = some (.newarray .long, 2, 1, 0, 0) := rfl
theorem sl_16_59 : pm_16.2.2.2.2.2 59 = some (.putfield 31, 3, 8, 6, 0) := rfl
theorem sl_16_62 : pm_16.2.2.2.2.2 62 = some (.aload_n 0, 1, 0, 0, 0) := rfl
theorem sl_16_63 : pm_16.2.2.2.2.2 63 = some (.sipush 128, 3, 0, 0, 0) := rfl
theorem sl_16_66 : pm_16.2.2.2.2.2 66 = some (.newarray .int, 2, 0, 0, 0) := rfl
theorem sl_16_68 : pm_16.2.2.2.2.2 68 = some (.putfield 34, 3, 8, 7, 0) := rfl
theorem sl_16_71 : pm_16.2.2.2.2.2 71 = some (.aload_n 0, 1, 0, 0, 0) := rfl
theorem sl_16_72 : pm_16.2.2.2.2.2 72 = some (.bipush 16, 2, 0, 0, 0) := rfl
theorem sl_16_74 : pm_16.2.2.2.2.2 74 = some (.newarray .int, 2, 0, 0, 0) := rfl
theorem sl_16_76 : pm_16.2.2.2.2.2 76 = some (.putfield 37, 3, 8, 8, 0) := rfl
theorem sl_16_79 : pm_16.2.2.2.2.2 79 = some (.aload_n 0, 1, 0, 0, 0) := rfl
theorem sl_16_80 : pm_16.2.2.2.2.2 80 = some (.bipush 16, 2, 0, 0, 0) := rfl
theorem sl_16_82 : pm_16.2.2.2.2.2 82 = some (.newarray .int, 2, 0, 0, 0) := rfl
theorem sl_16_84 : pm_16.2.2.2.2.2 84 = some (.putfield 40, 3, 8, 9, 0) := rfl
theorem sl_16_87 : pm_16.2.2.2.2.2 87 = some (.aload_n 0, 1, 0, 0, 0) := rfl
theorem sl_16_88 : pm_16.2.2.2.2.2 88 = some (.bipush 16, 2, 0, 0, 0) := rfl
theorem sl_16_90 : pm_16.2.2.2.2.2 90 = some (.newarray .int, 2, 0, 0, 0) := rfl
theorem sl_16_92 : pm_16.2.2.2.2.2 92 = some (.putfield 43, 3, 8, 10, 0) := rfl
theorem sl_16_95 : pm_16.2.2.2.2.2 95 = some (.aload_n 0, 1, 0, 0, 0) := rfl
theorem sl_16_96 : pm_16.2.2.2.2.2 96 = some (.bipush 16, 2, 0, 0, 0) := rfl
theorem sl_16_98 : pm_16.2.2.2.2.2 98 = some (.newarray .int, 2, 0, 0, 0) := rfl
theorem sl_16_100 : pm_16.2.2.2.2.2 100 = some (.putfield 46, 3, 8, 11, 0) := rfl
theorem sl_16_103 : pm_16.2.2.2.2.2 103 = some (.aload_n 0, 1, 0, 0, 0) := rfl
theorem sl_16_104 : pm_16.2.2.2.2.2 104 = some (.bipush 16, 2, 0, 0, 0) := rfl
theorem sl_16_106 : pm_16.2.2.2.2.2 106 = some (.newarray .int, 2, 0, 0, 0) := rfl
theorem sl_16_108 : pm_16.2.2.2.2.2 108 = some (.putfield 49, 3, 8, 12, 0) := rfl
theorem sl_16_111 : pm_16.2.2.2.2.2 111 = some (.return_, 1, 0, 0, 0) := rfl
theorem sl_17_0 : pm_17.2.2.2.2.2 0 = some (.aload_n 0, 1, 0, 0, 0) := rfl
theorem sl_17_1 : pm_17.2.2.2.2.2 1 = some (.invokespecial 3, 3, 0, 0, 6) := rfl
theorem sl_17_4 : pm_17.2.2.2.2.2 4 = some (.aload_n 0, 1, 0, 0, 0) := rfl
theorem sl_17_5 : pm_17.2.2.2.2.2 5 = some (.bipush 16, 2, 0, 0, 0) := rfl
theorem sl_17_7 : pm_17.2.2.2.2.2 7 = some (.newarray .int, 2, 0, 0, 0) := rfl
theorem sl_17_9 : pm_17.2.2.2.2.2 9 = some (.putfield 9, 3, 1, 0, 0) := rfl
theorem sl_17_12 : pm_17.2.2.2.2.2 12 = some (.aload_n 0, 1, 0, 0, 0) := rfl
theorem sl_17_13 : pm_17.2.2.2.2.2 13 = some (.bipush 64, 2, 0, 0, 0) := rfl
theorem sl_17_15 : pm_17.2.2.2.2.2 15 = some (.newarray .int, 2, 0, 0, 0) := rfl
theorem sl_17_17 : pm_17.2.2.2.2.2 17 = some (.putfield 15, 3, 1, 1, 0) := rfl
theorem sl_17_20 : pm_17.2.2.2.2.2 20 = some (.aload_n 0, 1, 0, 0, 0) := rfl
theorem sl_17_21 : pm_17.2.2.2.2.2 21 = some (.bipush 64, 2, 0, 0, 0) := rfl
theorem sl_17_23 : pm_17.2.2.2.2.2 23 = some (.newarray .long, 2, 1, 0, 0) := rfl
theorem sl_17_25 : pm_17.2.2.2.2.2 25 = some (.putfield 18, 3, 1, 2, 0) := rfl
theorem sl_17_28 : pm_17.2.2.2.2.2 28 = some (.aload_n 0, 1, 0, 0, 0) := rfl
theorem sl_17_29 : pm_17.2.2.2.2.2 29 = some (.bipush 64, 2, 0, 0, 0) := rfl
theorem sl_17_31 : pm_17.2.2.2.2.2 31 = some (.newarray .long, 2, 1, 0, 0) := rfl
theorem sl_17_33 : pm_17.2.2.2.2.2 33 = some (.putfield 22, 3, 1, 3, 0) := rfl
theorem sl_17_36 : pm_17.2.2.2.2.2 36 = some (.aload_n 0, 1, 0, 0, 0) := rfl
theorem sl_17_37 : pm_17.2.2.2.2.2 37 = some (.bipush 16, 2, 0, 0, 0) := rfl
theorem sl_17_39 : pm_17.2.2.2.2.2 39 = some (.newarray .int, 2, 0, 0, 0) := rfl
theorem sl_17_41 : pm_17.2.2.2.2.2 41 = some (.putfield 25, 3, 1, 4, 0) := rfl
theorem sl_17_44 : pm_17.2.2.2.2.2 44 = some (.aload_n 0, 1, 0, 0, 0) := rfl
theorem sl_17_45 : pm_17.2.2.2.2.2 45 = some (.bipush 16, 2, 0, 0, 0) := rfl
theorem sl_17_47 : pm_17.2.2.2.2.2 47 = some (.newarray .int, 2, 0, 0, 0) := rfl
theorem sl_17_49 : pm_17.2.2.2.2.2 49 = some (.putfield 28, 3, 1, 5, 0) := rfl
theorem sl_17_52 : pm_17.2.2.2.2.2 52 = some (.aload_n 0, 1, 0, 0, 0) := rfl
theorem sl_17_53 : pm_17.2.2.2.2.2 53 = some (.sipush 240, 3, 0, 0, 0) := rfl
theorem sl_17_56 : pm_17.2.2.2.2.2 56 = some (.newarray .int, 2, 0, 0, 0) := rfl
theorem sl_17_58 : pm_17.2.2.2.2.2 58 = some (.putfield 31, 3, 1, 6, 0) := rfl
theorem sl_17_61 : pm_17.2.2.2.2.2 61 = some (.aload_n 0, 1, 0, 0, 0) := rfl
theorem sl_17_62 : pm_17.2.2.2.2.2 62 = some (.sipush 240, 3, 0, 0, 0) := rfl
theorem sl_17_65 : pm_17.2.2.2.2.2 65 = some (.newarray .int, 2, 0, 0, 0) := rfl
theorem sl_17_67 : pm_17.2.2.2.2.2 67 = some (.putfield 34, 3, 1, 7, 0) := rfl
theorem sl_17_70 : pm_17.2.2.2.2.2 70 = some (.aload_n 0, 1, 0, 0, 0) := rfl
theorem sl_17_71 : pm_17.2.2.2.2.2 71 = some (.sipush 240, 3, 0, 0, 0) := rfl
theorem sl_17_74 : pm_17.2.2.2.2.2 74 = some (.newarray .int, 2, 0, 0, 0) := rfl
theorem sl_17_76 : pm_17.2.2.2.2.2 76 = some (.putfield 37, 3, 1, 8, 0) := rfl
theorem sl_17_79 : pm_17.2.2.2.2.2 79 = some (.aload_n 0, 1, 0, 0, 0) := rfl
theorem sl_17_80 : pm_17.2.2.2.2.2 80 = some (.sipush 240, 3, 0, 0, 0) := rfl
theorem sl_17_83 : pm_17.2.2.2.2.2 83 = some (.newarray .int, 2, 0, 0, 0) := rfl
theorem sl_17_85 : pm_17.2.2.2.2.2 85 = some (.putfield 40, 3, 1, 9, 0) := rfl
theorem sl_17_88 : pm_17.2.2.2.2.2 88 = some (.aload_n 0, 1, 0, 0, 0) := rfl
theorem sl_17_89 : pm_17.2.2.2.2.2 89 = some (.sipush 240, 3, 0, 0, 0) := rfl
theorem sl_17_92 : pm_17.2.2.2.2.2 92 = some (.newarray .int, 2, 0, 0, 0) := rfl
theorem sl_17_94 : pm_17.2.2.2.2.2 94 = some (.putfield 43, 3, 1, 10, 0) := rfl
theorem sl_17_97 : pm_17.2.2.2.2.2 97 = some (.aload_n 0, 1, 0, 0, 0) := rfl
theorem sl_17_98 : pm_17.2.2.2.2.2 98 = some (.sipush 240, 3, 0, 0, 0) := rfl
theorem sl_17_101 : pm_17.2.2.2.2.2 101 = some (.newarray .int, 2, 0, 0, 0) := rfl
theorem sl_17_103 : pm_17.2.2.2.2.2 103 = some (.putfield 46, 3, 1, 11, 0) := rfl
theorem sl_17_106 : pm_17.2.2.2.2.2 106 = some (.aload_n 0, 1, 0, 0, 0) := rfl
theorem sl_17_107 : pm_17.2.2.2.2.2 107 = some (.sipush 240, 3, 0, 0, 0) := rfl
theorem sl_17_110 : pm_17.2.2.2.2.2 110 = some (.newarray .int, 2, 0, 0, 0) := rfl
theorem sl_17_112 : pm_17.2.2.2.2.2 112 = some (.putfield 49, 3, 1, 12, 0) := rfl
theorem sl_17_115 : pm_17.2.2.2.2.2 115 = some (.return_, 1, 0, 0, 0) := rfl
theorem sl_18_0 : pm_18.2.2.2.2.2 0 = some (.aload_n 0, 1, 0, 0, 0) := rfl
theorem sl_18_1 : pm_18.2.2.2.2.2 1 = some (.invokespecial 3, 3, 0, 0, 6) := rfl
theorem sl_18_4 : pm_18.2.2.2.2.2 4 = some (.aload_n 0, 1, 0, 0, 0) := rfl
theorem sl_18_5 : pm_18.2.2.2.2.2 5 = some (.bipush 48, 2, 0, 0, 0) := rfl
theorem sl_18_7 : pm_18.2.2.2.2.2 7 = some (.newarray .int, 2, 0, 0, 0) := rfl
theorem sl_18_9 : pm_18.2.2.2.2.2 9 = some (.putfield 9, 3, 9, 0, 0) := rfl
theorem sl_18_12 : pm_18.2.2.2.2.2 12 = some (.aload_n 0, 1, 0, 0, 0) := rfl
theorem sl_18_13 : pm_18.2.2.2.2.2 13 = some (.bipush 48, 2, 0, 0, 0) := rfl
theorem sl_18_15 : pm_18.2.2.2.2.2 15 = some (.newarray .int, 2, 0, 0, 0) := rfl
theorem sl_18_17 : pm_18.2.2.2.2.2 17 = some (.putfield 15, 3, 9, 1, 0) := rfl
theorem sl_18_20 : pm_18.2.2.2.2.2 20 = some (.aload_n 0, 1, 0, 0, 0) := rfl
theorem sl_18_21 : pm_18.2.2.2.2.2 21 = some (.bipush 48, 2, 0, 0, 0) := rfl
theorem sl_18_23 : pm_18.2.2.2.2.2 23 = some (.newarray .int, 2, 0, 0, 0) := rfl
theorem sl_18_25 : pm_18.2.2.2.2.2 25 = some (.putfield 18, 3, 9, 2, 0) := rfl
theorem sl_18_28 : pm_18.2.2.2.2.2 28 = some (.aload_n 0, 1, 0, 0, 0) := rfl
theorem sl_18_29 : pm_18.2.2.2.2.2 29 = some (.bipush 48, 2, 0, 0, 0) := rfl
theorem sl_18_31 : pm_18.2.2.2.2.2 31 = some (.newarray .int, 2, 0, 0, 0) := rfl
theorem sl_18_33 : pm_18.2.2.2.2.2 33 = some (.putfield 21, 3, 9, 3, 0) := rfl
theorem sl_18_36 : pm_18.2.2.2.2.2 36 = some (.aload_n 0, 1, 0, 0, 0) := rfl
theorem sl_18_37 : pm_18.2.2.2.2.2 37 = some (.bipush 48, 2, 0, 0, 0) := rfl
theorem sl_18_39 : pm_18.2.2.2.2.2 39 = some (.newarray .int, 2, 0, 0, 0) := rfl
theorem sl_18_41 : pm_18.2.2.2.2.2 41 = some (.putfield 24, 3, 9, 4, 0) := rfl
theorem sl_18_44 : pm_18.2.2.2.2.2 44 = some (.aload_n 0, 1, 0, 0, 0) := rfl
theorem sl_18_45 : pm_18.2.2.2.2.2 45 = some (.bipush 48, 2, 0, 0, 0) := rfl
theorem sl_18_47 : pm_18.2.2.2.2.2 47 = some (.newarray .int, 2, 0, 0, 0) := rfl
theorem sl_18_49 : pm_18.2.2.2.2.2 49 = some (.putfield 27, 3, 9, 5, 0) := rfl
theorem sl_18_52 : pm_18.2.2.2.2.2 52 = some (.aload_n 0, 1, 0, 0, 0) := rfl
theorem sl_18_53 : pm_18.2.2.2.2.2 53 = some (.bipush 48, 2, 0, 0, 0) := rfl
theorem sl_18_55 : pm_18.2.2.2.2.2 55 = some (.newarray .int, 2, 0, 0, 0) := rfl
theorem sl_18_57 : pm_18.2.2.2.2.2 57 = some (.putfield 30, 3, 9, 6, 0) := rfl
theorem sl_18_60 : pm_18.2.2.2.2.2 60 = some (.aload_n 0, 1, 0, 0, 0) := rfl
theorem sl_18_61 : pm_18.2.2.2.2.2 61 = some (.bipush 48, 2, 0, 0, 0) := rfl
theorem sl_18_63 : pm_18.2.2.2.2.2 63 = some (.newarray .int, 2, 0, 0, 0) := rfl
theorem sl_18_65 : pm_18.2.2.2.2.2 65 = some (.putfield 33, 3, 9, 7, 0) := rfl
theorem sl_18_68 : pm_18.2.2.2.2.2 68 = some (.aload_n 0, 1, 0, 0, 0) := rfl
theorem sl_18_69 : pm_18.2.2.2.2.2 69 = some (.sipush 192, 3, 0, 0, 0) := rfl
theorem sl_18_72 : pm_18.2.2.2.2.2 72 = some (.newarray .long, 2, 1, 0, 0) := rfl
theorem sl_18_74 : pm_18.2.2.2.2.2 74 = some (.putfield 36, 3, 9, 8, 0) := rfl
theorem sl_18_77 : pm_18.2.2.2.2.2 77 = some (.aload_n 0, 1, 0, 0, 0) := rfl
theorem sl_18_78 : pm_18.2.2.2.2.2 78 = some (.sipush 192, 3, 0, 0, 0) := rfl
theorem sl_18_81 : pm_18.2.2.2.2.2 81 = some (.newarray .long, 2, 1, 0, 0) := rfl
theorem sl_18_83 : pm_18.2.2.2.2.2 83 = some (.putfield 40, 3, 9, 9, 0) := rfl
theorem sl_18_86 : pm_18.2.2.2.2.2 86 = some (.aload_n 0, 1, 0, 0, 0) := rfl
theorem sl_18_87 : pm_18.2.2.2.2.2 87 = some (.bipush 48, 2, 0, 0, 0) := rfl
theorem sl_18_89 : pm_18.2.2.2.2.2 89 = some (.newarray .int, 2, 0, 0, 0) := rfl
theorem sl_18_91 : pm_18.2.2.2.2.2 91 = some (.putfield 43, 3, 9, 10, 0) := rfl
theorem sl_18_94 : pm_18.2.2.2.2.2 94 = some (.aload_n 0, 1, 0, 0, 0) := rfl
theorem sl_18_95 : pm_18.2.2.2.2.2 95 = some (.bipush 12, 2, 0, 0, 0) := rfl
theorem sl_18_97 : pm_18.2.2.2.2.2 97 = some (.newarray .int, 2, 0, 0, 0) := rfl
theorem sl_18_99 : pm_18.2.2.2.2.2 99 = some (.putfield 46, 3, 9, 11, 0) := rfl
theorem sl_18_102 : pm_18.2.2.2.2.2 102 = some (.aload_n 0, 1, 0, 0, 0) := rfl
theorem sl_18_103 : pm_18.2.2.2.2.2 103 = some (.bipush 12, 2, 0, 0, 0) := rfl
theorem sl_18_105 : pm_18.2.2.2.2.2 105 = some (.newarray .int, 2, 0, 0, 0) := rfl
theorem sl_18_107 : pm_18.2.2.2.2.2 107 = some (.putfield 49, 3, 9, 12, 0) := rfl
theorem sl_18_110 : pm_18.2.2.2.2.2 110 = some (.aload_n 0, 1, 0, 0, 0) := rfl
theorem sl_18_111 : pm_18.2.2.2.2.2 111 = some (.bipush 12, 2, 0, 0, 0) := rfl
theorem sl_18_113 : pm_18.2.2.2.2.2 113 = some (.newarray .int, 2, 0, 0, 0) := rfl
theorem sl_18_115 : pm_18.2.2.2.2.2 115 = some (.putfield 52, 3, 9, 13, 0) := rfl
theorem sl_18_118 : pm_18.2.2.2.2.2 118 = some (.return_, 1, 0, 0, 0) := rfl
theorem sl_19_0 : pm_19.2.2.2.2.2 0 = some (.aload_n 0, 1, 0, 0, 0) := rfl
theorem sl_19_1 : pm_19.2.2.2.2.2 1 = some (.invokespecial 3, 3, 0, 0, 6) := rfl
theorem sl_19_4 : pm_19.2.2.2.2.2 4 = some (.aload_n 0, 1, 0, 0, 0) := rfl
theorem sl_19_5 : pm_19.2.2.2.2.2 5 = some (.iconst 4, 1, 0, 0, 0) := rfl
theorem sl_19_6 : pm_19.2.2.2.2.2 6 = some (.newarray .int, 2, 0, 0, 0) := rfl
theorem sl_19_8 : pm_19.2.2.2.2.2 8 = some (.putfield 9, 3, 10, 0, 0) := rfl
theorem sl_19_11 : pm_19.2.2.2.2.2 11 = some (.aload_n 0, 1, 0, 0, 0) := rfl
theorem sl_19_12 : pm_19.2.2.2.2.2 12 = some (.iconst 4, 1, 0, 0, 0) := rfl
theorem sl_19_13 : pm_19.2.2.2.2.2 13 = some (.newarray .int, 2, 0, 0, 0) := rfl
theorem sl_19_15 : pm_19.2.2.2.2.2 15 = some (.putfield 15, 3, 10, 1, 0) := rfl
theorem sl_19_18 : pm_19.2.2.2.2.2 18 = some (.aload_n 0, 1, 0, 0, 0) := rfl
theorem sl_19_19 : pm_19.2.2.2.2.2 19 = some (.iconst 4, 1, 0, 0, 0) := rfl
theorem sl_19_20 : pm_19.2.2.2.2.2 20 = some (.newarray .int, 2, 0, 0, 0) := rfl
theorem sl_19_22 : pm_19.2.2.2.2.2 22 = some (.putfield 18, 3, 10, 2, 0) := rfl
theorem sl_19_25 : pm_19.2.2.2.2.2 25 = some (.aload_n 0, 1, 0, 0, 0) := rfl
theorem sl_19_26 : pm_19.2.2.2.2.2 26 = some (.iconst 4, 1, 0, 0, 0) := rfl
theorem sl_19_27 : pm_19.2.2.2.2.2 27 = some (.newarray .int, 2, 0, 0, 0) := rfl
theorem sl_19_29 : pm_19.2.2.2.2.2 29 = some (.putfield 21, 3, 10, 3, 0) := rfl
theorem sl_19_32 : pm_19.2.2.2.2.2 32 = some (.aload_n 0, 1, 0, 0, 0) := rfl
theorem sl_19_33 : pm_19.2.2.2.2.2 33 = some (.bipush 8, 2, 0, 0, 0) := rfl
theorem sl_19_35 : pm_19.2.2.2.2.2 35 = some (.newarray .int, 2, 0, 0, 0) := rfl
theorem sl_19_37 : pm_19.2.2.2.2.2 37 = some (.putfield 24, 3, 10, 4, 0) := rfl
theorem sl_19_40 : pm_19.2.2.2.2.2 40 = some (.aload_n 0, 1, 0, 0, 0) := rfl
theorem sl_19_41 : pm_19.2.2.2.2.2 41 = some (.iconst 4, 1, 0, 0, 0) := rfl
theorem sl_19_42 : pm_19.2.2.2.2.2 42 = some (.newarray .long, 2, 1, 0, 0) := rfl
theorem sl_19_44 : pm_19.2.2.2.2.2 44 = some (.putfield 27, 3, 10, 5, 0) := rfl
theorem sl_19_47 : pm_19.2.2.2.2.2 47 = some (.aload_n 0, 1, 0, 0, 0) := rfl
theorem sl_19_48 : pm_19.2.2.2.2.2 48 = some (.sipush 288, 3, 0, 0, 0) := rfl
theorem sl_19_51 : pm_19.2.2.2.2.2 51 = some (.newarray .long, 2, 1, 0, 0) := rfl
theorem sl_19_53 : pm_19.2.2.2.2.2 53 = some (.putfield 31, 3, 10, 6, 0) := rfl
theorem sl_19_56 : pm_19.2.2.2.2.2 56 = some (.aload_n 0, 1, 0, 0, 0) := rfl
theorem sl_19_57 : pm_19.2.2.2.2.2 57 = some (.sipush 288, 3, 0, 0, 0) := rfl
theorem sl_19_60 : pm_19.2.2.2.2.2 60 = some (.newarray .long, 2, 1, 0, 0) := rfl
theorem sl_19_62 : pm_19.2.2.2.2.2 62 = some (.putfield 34, 3, 10, 7, 0) := rfl
theorem sl_19_65 : pm_19.2.2.2.2.2 65 = some (.aload_n 0, 1, 0, 0, 0) := rfl
theorem sl_19_66 : pm_19.2.2.2.2.2 66 = some (.sipush 288, 3, 0, 0, 0) := rfl
theorem sl_19_69 : pm_19.2.2.2.2.2 69 = some (.newarray .long, 2, 1, 0, 0) := rfl
theorem sl_19_71 : pm_19.2.2.2.2.2 71 = some (.putfield 37, 3, 10, 8, 0) := rfl
theorem sl_19_74 : pm_19.2.2.2.2.2 74 = some (.aload_n 0, 1, 0, 0, 0) := rfl
theorem sl_19_75 : pm_19.2.2.2.2.2 75 = some (.bipush 72, 2, 0, 0, 0) := rfl
theorem sl_19_77 : pm_19.2.2.2.2.2 77 = some (.newarray .int, 2, 0, 0, 0) := rfl
theorem sl_19_79 : pm_19.2.2.2.2.2 79 = some (.putfield 40, 3, 10, 9, 0) := rfl
theorem sl_19_82 : pm_19.2.2.2.2.2 82 = some (.aload_n 0, 1, 0, 0, 0) := rfl
theorem sl_19_83 : pm_19.2.2.2.2.2 83 = some (.bipush 72, 2, 0, 0, 0) := rfl
theorem sl_19_85 : pm_19.2.2.2.2.2 85 = some (.newarray .int, 2, 0, 0, 0) := rfl
theorem sl_19_87 : pm_19.2.2.2.2.2 87 = some (.putfield 43, 3, 10, 10, 0) := rfl
theorem sl_19_90 : pm_19.2.2.2.2.2 90 = some (.aload_n 0, 1, 0, 0, 0) := rfl
theorem sl_19_91 : pm_19.2.2.2.2.2 91 = some (.bipush 16, 2, 0, 0, 0) := rfl
theorem sl_19_93 : pm_19.2.2.2.2.2 93 = some (.newarray .int, 2, 0, 0, 0) := rfl
theorem sl_19_95 : pm_19.2.2.2.2.2 95 = some (.putfield 46, 3, 10, 11, 0) := rfl
theorem sl_19_98 : pm_19.2.2.2.2.2 98 = some (.return_, 1, 0, 0, 0) := rfl
theorem sl_20_0 : pm_20.2.2.2.2.2 0 = some (.aload_n 0, 1, 0, 0, 0) := rfl
theorem sl_20_1 : pm_20.2.2.2.2.2 1 = some (.invokespecial 3, 3, 0, 0, 6) := rfl
theorem sl_20_4 : pm_20.2.2.2.2.2 4 = some (.aload_n 0, 1, 0, 0, 0) := rfl
theorem sl_20_5 : pm_20.2.2.2.2.2 5 = some (.bipush 9, 2, 0, 0, 0) := rfl
theorem sl_20_7 : pm_20.2.2.2.2.2 7 = some (.newarray .int, 2, 0, 0, 0) := rfl
theorem sl_20_9 : pm_20.2.2.2.2.2 9 = some (.putfield 9, 3, 7, 6, 0) := rfl
theorem sl_20_12 : pm_20.2.2.2.2.2 12 = some (.aload_n 0, 1, 0, 0, 0) := rfl
theorem sl_20_13 : pm_20.2.2.2.2.2 13 = some (.bipush 9, 2, 0, 0, 0) := rfl
theorem sl_20_15 : pm_20.2.2.2.2.2 15 = some (.newarray .int, 2, 0, 0, 0) := rfl
theorem sl_20_17 : pm_20.2.2.2.2.2 17 = some (.putfield 15, 3, 7, 7, 0) := rfl
theorem sl_20_20 : pm_20.2.2.2.2.2 20 = some (.aload_n 0, 1, 0, 0, 0) := rfl
theorem sl_20_21 : pm_20.2.2.2.2.2 21 = some (.aload_n 1, 1, 0, 0, 0) := rfl
theorem sl_20_22 : pm_20.2.2.2.2.2 22 = some (.putfield 18, 3, 7, 0, 0) := rfl
theorem sl_20_25 : pm_20.2.2.2.2.2 25 = some (.aload_n 0, 1, 0, 0, 0) := rfl
theorem sl_20_26 : pm_20.2.2.2.2.2 26 = some (.aload_n 2, 1, 0, 0, 0) := rfl
theorem sl_20_27 : pm_20.2.2.2.2.2 27 = some (.putfield 22, 3, 7, 1, 0) := rfl
theorem sl_20_30 : pm_20.2.2.2.2.2 30 = some (.aload_n 0, 1, 0, 0, 0) := rfl
theorem sl_20_31 : pm_20.2.2.2.2.2 31 = some (.new 26, 3, 2, 0, 0) := rfl
theorem sl_20_34 : pm_20.2.2.2.2.2 34 = some (.dup, 1, 0, 0, 0) := rfl
theorem sl_20_35 : pm_20.2.2.2.2.2 35 = some (.aload_n 1, 1, 0, 0, 0) := rfl
theorem sl_20_36 : pm_20.2.2.2.2.2 36 = some (.aload_n 2, 1, 0, 0, 0) := rfl
theorem sl_20_37 : pm_20.2.2.2.2.2 37 = some (.invokespecial 28, 3, 21, 2, 4) := rfl
theorem sl_20_40 : pm_20.2.2.2.2.2 40 = some (.putfield 31, 3, 7, 2, 0) := rfl
theorem sl_20_43 : pm_20.2.2.2.2.2 43 = some (.aload_n 0, 1, 0, 0, 0) := rfl
theorem sl_20_44 : pm_20.2.2.2.2.2 44 = some (.aload_n 2, 1, 0, 0, 0) := rfl
theorem sl_20_45 : pm_20.2.2.2.2.2 45 = some (.getfield 35, 3, 6, 10, 0) := rfl
theorem sl_20_48 : pm_20.2.2.2.2.2 48 = some (.putfield 41, 3, 7, 3, 0) := rfl
theorem sl_20_51 : pm_20.2.2.2.2.2 51 = some (.aload_n 0, 1, 0, 0, 0) := rfl
theorem sl_20_52 : pm_20.2.2.2.2.2 52 = some (.aload_n 2, 1, 0, 0, 0) := rfl
theorem sl_20_53 : pm_20.2.2.2.2.2 53 = some (.getfield 42, 3, 6, 11, 0) := rfl
theorem sl_20_56 : pm_20.2.2.2.2.2 56 = some (.putfield 46, 3, 7, 4, 0) := rfl
theorem sl_20_59 : pm_20.2.2.2.2.2 59 = some (.aload_n 0, 1, 0, 0, 0) := rfl
theorem sl_20_60 : pm_20.2.2.2.2.2 60 = some (.aload_n 2, 1, 0, 0, 0) := rfl
theorem sl_20_61 : pm_20.2.2.2.2.2 61 = some (.getfield 47, 3, 6, 12, 0) := rfl
theorem sl_20_64 : pm_20.2.2.2.2.2 64 = some (.putfield 51, 3, 7, 5, 0) := rfl
theorem sl_20_67 : pm_20.2.2.2.2.2 67 = some (.return_, 1, 0, 0, 0) := rfl
theorem sl_21_0 : pm_21.2.2.2.2.2 0 = some (.aload_n 0, 1, 0, 0, 0) := rfl
theorem sl_21_1 : pm_21.2.2.2.2.2 1 = some (.invokespecial 3, 3, 0, 0, 6) := rfl
theorem sl_21_4 : pm_21.2.2.2.2.2 4 = some (.aload_n 0, 1, 0, 0, 0) := rfl
theorem sl_21_5 : pm_21.2.2.2.2.2 5 = some (.sipush 288, 3, 0, 0, 0) := rfl
theorem sl_21_8 : pm_21.2.2.2.2.2 8 = some (.newarray .int, 2, 0, 0, 0) := rfl
theorem sl_21_10 : pm_21.2.2.2.2.2 10 = some (.putfield 9, 3, 2, 3, 0) := rfl
theorem sl_21_13 : pm_21.2.2.2.2.2 13 = some (.aload_n 0, 1, 0, 0, 0) := rfl
theorem sl_21_14 : pm_21.2.2.2.2.2 14 = some (.sipush 288, 3, 0, 0, 0) := rfl
theorem sl_21_17 : pm_21.2.2.2.2.2 17 = some (.newarray .int, 2, 0, 0, 0) := rfl
theorem sl_21_19 : pm_21.2.2.2.2.2 19 = some (.putfield 15, 3, 2, 4, 0) := rfl
theorem sl_21_22 : pm_21.2.2.2.2.2 22 = some (.aload_n 0, 1, 0, 0, 0) := rfl
theorem sl_21_23 : pm_21.2.2.2.2.2 23 = some (.sipush 576, 3, 0, 0, 0) := rfl
theorem sl_21_26 : pm_21.2.2.2.2.2 26 = some (.newarray .int, 2, 0, 0, 0) := rfl
theorem sl_21_28 : pm_21.2.2.2.2.2 28 = some (.putfield 18, 3, 2, 5, 0) := rfl
theorem sl_21_31 : pm_21.2.2.2.2.2 31 = some (.aload_n 0, 1, 0, 0, 0) := rfl
theorem sl_21_32 : pm_21.2.2.2.2.2 32 = some (.aload_n 1, 1, 0, 0, 0) := rfl
theorem sl_21_33 : pm_21.2.2.2.2.2 33 = some (.putfield 21, 3, 2, 0, 0) := rfl
theorem sl_21_36 : pm_21.2.2.2.2.2 36 = some (.aload_n 0, 1, 0, 0, 0) := rfl
theorem sl_21_37 : pm_21.2.2.2.2.2 37 = some (.aload_n 2, 1, 0, 0, 0) := rfl
theorem sl_21_38 : pm_21.2.2.2.2.2 38 = some (.putfield 25, 3, 2, 1, 0) := rfl
theorem sl_21_41 : pm_21.2.2.2.2.2 41 = some (.aload_n 0, 1, 0, 0, 0) := rfl
theorem sl_21_42 : pm_21.2.2.2.2.2 42 = some (.aload_n 2, 1, 0, 0, 0) := rfl
theorem sl_21_43 : pm_21.2.2.2.2.2 43 = some (.getfield 29, 3, 6, 9, 0) := rfl
theorem sl_21_46 : pm_21.2.2.2.2.2 46 = some (.putfield 35, 3, 2, 2, 0) := rfl
theorem sl_21_49 : pm_21.2.2.2.2.2 49 = some (.return_, 1, 0, 0, 0) := rfl
theorem sl_22_0 : pm_22.2.2.2.2.2 0 = some (.aload_n 0, 1, 0, 0, 0) := rfl
theorem sl_22_1 : pm_22.2.2.2.2.2 1 = some (.invokespecial 3, 3, 0, 0, 6) := rfl
theorem sl_22_4 : pm_22.2.2.2.2.2 4 = some (.aload_n 0, 1, 0, 0, 0) := rfl
theorem sl_22_5 : pm_22.2.2.2.2.2 5 = some (.sipush 128, 3, 0, 0, 0) := rfl
theorem sl_22_8 : pm_22.2.2.2.2.2 8 = some (.anewarray 9, 3, 5, 0, 0) := rfl
theorem sl_22_11 : pm_22.2.2.2.2.2 11 = some (.putfield 11, 3, 5, 1, 0) := rfl
theorem sl_22_14 : pm_22.2.2.2.2.2 14 = some (.aload_n 0, 1, 0, 0, 0) := rfl
theorem sl_22_15 : pm_22.2.2.2.2.2 15 = some (.bipush 12, 2, 0, 0, 0) := rfl
theorem sl_22_17 : pm_22.2.2.2.2.2 17 = some (.anewarray 9, 3, 5, 0, 0) := rfl
theorem sl_22_20 : pm_22.2.2.2.2.2 20 = some (.putfield 17, 3, 5, 2, 0) := rfl
theorem sl_22_23 : pm_22.2.2.2.2.2 23 = some (.aload_n 0, 1, 0, 0, 0) := rfl
theorem sl_22_24 : pm_22.2.2.2.2.2 24 = some (.sipush 512, 3, 0, 0, 0) := rfl
theorem sl_22_27 : pm_22.2.2.2.2.2 27 = some (.newarray .long, 2, 1, 0, 0) := rfl
theorem sl_22_29 : pm_22.2.2.2.2.2 29 = some (.putfield 20, 3, 5, 3, 0) := rfl
theorem sl_22_32 : pm_22.2.2.2.2.2 32 = some (.aload_n 0, 1, 0, 0, 0) := rfl
theorem sl_22_33 : pm_22.2.2.2.2.2 33 = some (.aload_n 1, 1, 0, 0, 0) := rfl
theorem sl_22_34 : pm_22.2.2.2.2.2 34 = some (.putfield 24, 3, 5, 0, 0) := rfl
theorem sl_22_37 : pm_22.2.2.2.2.2 37 = some (.return_, 1, 0, 0, 0) := rfl
theorem sl_23_0 : pm_23.2.2.2.2.2 0 = some (.aload_n 0, 1, 0, 0, 0) := rfl
theorem sl_23_1 : pm_23.2.2.2.2.2 1 = some (.getfield 9, 3, 0, 0, 0) := rfl
theorem sl_23_4 : pm_23.2.2.2.2.2 4 = some (.iconst 0, 1, 0, 0, 0) := rfl
theorem sl_23_5 : pm_23.2.2.2.2.2 5 = some (.iload_n 1, 1, 0, 0, 0) := rfl
theorem sl_23_6 : pm_23.2.2.2.2.2 6 = some (.iastore, 1, 0, 0, 0) := rfl
theorem sl_23_7 : pm_23.2.2.2.2.2 7 = some (.aload_n 0, 1, 0, 0, 0) := rfl
theorem sl_23_8 : pm_23.2.2.2.2.2 8 = some (.getfield 9, 3, 0, 0, 0) := rfl
theorem sl_23_11 : pm_23.2.2.2.2.2 11 = some (.iconst 1, 1, 0, 0, 0) := rfl
theorem sl_23_12 : pm_23.2.2.2.2.2 12 = some (.iload_n 2, 1, 0, 0, 0) := rfl
theorem sl_23_13 : pm_23.2.2.2.2.2 13 = some (.iastore, 1, 0, 0, 0) := rfl
theorem sl_23_14 : pm_23.2.2.2.2.2 14 = some (.aload_n 0, 1, 0, 0, 0) := rfl
theorem sl_23_15 : pm_23.2.2.2.2.2 15 = some (.getfield 9, 3, 0, 0, 0) := rfl
theorem sl_23_18 : pm_23.2.2.2.2.2 18 = some (.iconst 2, 1, 0, 0, 0) := rfl
theorem sl_23_19 : pm_23.2.2.2.2.2 19 = some (.iload_n 3, 1, 0, 0, 0) := rfl
theorem sl_23_20 : pm_23.2.2.2.2.2 20 = some (.iastore, 1, 0, 0, 0) := rfl
theorem sl_23_21 : pm_23.2.2.2.2.2 21 = some (.aload_n 0, 1, 0, 0, 0) := rfl
theorem sl_23_22 : pm_23.2.2.2.2.2 22 = some (.getfield 9, 3, 0, 0, 0) := rfl
theorem sl_23_25 : pm_23.2.2.2.2.2 25 = some (.iconst 3, 1, 0, 0, 0) := rfl
theorem sl_23_26 : pm_23.2.2.2.2.2 26 = some (.iload 4, 2, 0, 0, 0) := rfl
theorem sl_23_28 : pm_23.2.2.2.2.2 28 = some (.iastore, 1, 0, 0, 0) := rfl
theorem sl_23_29 : pm_23.2.2.2.2.2 29 = some (.aload_n 0, 1, 0, 0, 0) := rfl
theorem sl_23_30 : pm_23.2.2.2.2.2 30 = some (.getfield 9, 3, 0, 0, 0) := rfl
theorem sl_23_33 : pm_23.2.2.2.2.2 33 = some (.iconst 4, 1, 0, 0, 0) := rfl
theorem sl_23_34 : pm_23.2.2.2.2.2 34 = some (.iload 5, 2, 0, 0, 0) := rfl
theorem sl_23_36 : pm_23.2.2.2.2.2 36 = some (.iastore, 1, 0, 0, 0) := rfl
theorem sl_23_37 : pm_23.2.2.2.2.2 37 = some (.return_, 1, 0, 0, 0) := rfl
theorem sl_24_0 : pm_24.2.2.2.2.2 0 = some (.iload_n 1, 1, 0, 0, 0) := rfl
theorem sl_24_1 : pm_24.2.2.2.2.2 1 = some (.ifCond .lt 21, 3, 0, 0, 0) := rfl
theorem sl_24_4 : pm_24.2.2.2.2.2 4 = some (.iload_n 1, 1, 0, 0, 0) := rfl
theorem sl_24_5 : pm_24.2.2.2.2.2 5 = some (.bipush 20, 2, 0, 0, 0) := rfl
theorem sl_24_7 : pm_24.2.2.2.2.2 7 = some (.if_icmp .gt 15, 3, 0, 0, 0) := rfl
theorem sl_24_10 : pm_24.2.2.2.2.2 10 = some (.aload_n 0, 1, 0, 0, 0) := rfl
theorem sl_24_11 : pm_24.2.2.2.2.2 11 = some (.getfield 65, 3, 0, 2, 0) := rfl
theorem sl_24_14 : pm_24.2.2.2.2.2 14 = some (.iload_n 1, 1, 0, 0, 0) := rfl
theorem sl_24_15 : pm_24.2.2.2.2.2 15 = some (.iadd, 1, 0, 0, 0) := rfl
theorem sl_24_16 : pm_24.2.2.2.2.2 16 = some (.sipush 4000, 3, 0, 0, 0) := rfl
theorem sl_24_19 : pm_24.2.2.2.2.2 19 = some (.if_icmp .le 5, 3, 0, 0, 0) := rfl
theorem sl_24_22 : pm_24.2.2.2.2.2 22 = some (.iconst (-1), 1, 0, 0, 0) := rfl
theorem sl_24_23 : pm_24.2.2.2.2.2 23 = some (.ireturn, 1, 0, 0, 0) := rfl
theorem sl_24_24 : pm_24.2.2.2.2.2 24 = some (.iconst 0, 1, 0, 0, 0) := rfl
theorem sl_24_25 : pm_24.2.2.2.2.2 25 = some (.istore_n 2, 1, 0, 0, 0) := rfl
theorem sl_24_26 : pm_24.2.2.2.2.2 26 = some (.iload_n 2, 1, 0, 0, 0) := rfl
theorem sl_24_27 : pm_24.2.2.2.2.2 27 = some (.iload_n 1, 1, 0, 0, 0) := rfl
theorem sl_24_28 : pm_24.2.2.2.2.2 28 = some (.if_icmp .ge 39, 3, 0, 0, 0) := rfl
theorem sl_24_31 : pm_24.2.2.2.2.2 31 = some (.aload_n 0, 1, 0, 0, 0) := rfl
theorem sl_24_32 : pm_24.2.2.2.2.2 32 = some (.getfield 13, 3, 0, 1, 0) := rfl
theorem sl_24_35 : pm_24.2.2.2.2.2 35 = some (.aload_n 0, 1, 0, 0, 0) := rfl
theorem sl_24_36 : pm_24.2.2.2.2.2 36 = some (.getfield 65, 3, 0, 2, 0) := rfl
theorem sl_24_39 : pm_24.2.2.2.2.2 39 = some (.iload_n 2, 1, 0, 0, 0) := rfl
theorem sl_24_40 : pm_24.2.2.2.2.2 40 = some (.iadd, 1, 0, 0, 0) := rfl
theorem sl_24_41 : pm_24.2.2.2.2.2 41 = some (.aload_n 0, 1, 0, 0, 0) := rfl
theorem sl_24_42 : pm_24.2.2.2.2.2 42 = some (.getfield 9, 3, 0, 0, 0) := rfl
theorem sl_24_45 : pm_24.2.2.2.2.2 45 = some (.iload_n 2, 1, 0, 0, 0) := rfl
theorem sl_24_46 : pm_24.2.2.2.2.2 46 = some (.iconst 4, 1, 0, 0, 0) := rfl
theorem sl_24_47 : pm_24.2.2.2.2.2 47 = some (.idiv, 1, 0, 0, 0) := rfl
theorem sl_24_48 : pm_24.2.2.2.2.2 48 = some (.iaload, 1, 0, 0, 0) := rfl
theorem sl_24_49 : pm_24.2.2.2.2.2 49 = some (.bipush 24, 2, 0, 0, 0) := rfl
theorem sl_24_51 : pm_24.2.2.2.2.2 51 = some (.bipush 8, 2, 0, 0, 0) := rfl
theorem sl_24_53 : pm_24.2.2.2.2.2 53 = some (.iload_n 2, 1, 0, 0, 0) := rfl
theorem sl_24_54 : pm_24.2.2.2.2.2 54 = some (.iconst 4, 1, 0, 0, 0) := rfl
theorem sl_24_55 : pm_24.2.2.2.2.2 55 = some (.irem, 1, 0, 0, 0) := rfl
theorem sl_24_56 : pm_24.2.2.2.2.2 56 = some (.imul, 1, 0, 0, 0) := rfl
theorem sl_24_57 : pm_24.2.2.2.2.2 57 = some (.isub, 1, 0, 0, 0) := rfl
theorem sl_24_58 : pm_24.2.2.2.2.2 58 = some (.iushr, 1, 0, 0, 0) := rfl
theorem sl_24_59 : pm_24.2.2.2.2.2 59 = some (.i2b, 1, 0, 0, 0) := rfl
theorem sl_24_60 : pm_24.2.2.2.2.2 60 = some (.bastore, 1, 0, 0, 0) := rfl
theorem sl_24_61 : pm_24.2.2.2.2.2 61 = some (.iinc 2 1, 3, 0, 0, 0) := rfl
theorem sl_24_64 : pm_24.2.2.2.2.2 64 = some (.goto (-38), 3, 0, 0, 0) := rfl
theorem sl_24_67 : pm_24.2.2.2.2.2 67 = some (.aload_n 0, 1, 0, 0, 0) := rfl
theorem sl_24_68 : pm_24.2.2.2.2.2 68 = some (.dup, 1, 0, 0, 0) := rfl
theorem sl_24_69 : pm_24.2.2.2.2.2 69 = some (.getfield 65, 3, 0, 2, 0) := rfl
theorem sl_24_72 : pm_24.2.2.2.2.2 72 = some (.iload_n 1, 1, 0, 0, 0) := rfl
theorem sl_24_73 : pm_24.2.2.2.2.2 73 = some (.iadd, 1, 0, 0, 0) := rfl
theorem sl_24_74 : pm_24.2.2.2.2.2 74 = some (.putfield 65, 3, 0, 2, 0) := rfl
theorem sl_24_77 : pm_24.2.2.2.2.2 77 = some (.aload_n 0, 1, 0, 0, 0) := rfl
theorem sl_24_78 : pm_24.2.2.2.2.2 78 = some (.getfield 9, 3, 0, 0, 0) := rfl
theorem sl_24_81 : pm_24.2.2.2.2.2 81 = some (.iconst 0, 1, 0, 0, 0) := rfl
theorem sl_24_82 : pm_24.2.2.2.2.2 82 = some (.invokestatic 68, 3, 25, 2, 1) := rfl
theorem sl_24_85 : pm_24.2.2.2.2.2 85 = some (.aload_n 0, 1, 0, 0, 0) := rfl
theorem sl_24_86 : pm_24.2.2.2.2.2 86 = some (.getfield 65, 3, 0, 2, 0) := rfl
theorem sl_24_89 : pm_24.2.2.2.2.2 89 = some (.ireturn, 1, 0, 0, 0) := rfl
theorem sl_25_0 : pm_25.2.2.2.2.2 0 = some (.iconst 0, 1, 0, 0, 0) := rfl
theorem sl_25_1 : pm_25.2.2.2.2.2 1 = some (.istore_n 2, 1, 0, 0, 0) := rfl
theorem sl_25_2 : pm_25.2.2.2.2.2 2 = some (.aload_n 0, 1, 0, 0, 0) := rfl
theorem sl_25_3 : pm_25.2.2.2.2.2 3 = some (.arraylength, 1, 0, 0, 0) := rfl
theorem sl_25_4 : pm_25.2.2.2.2.2 4 = some (.istore_n 3, 1, 0, 0, 0) := rfl
theorem sl_25_5 : pm_25.2.2.2.2.2 5 = some (.iload_n 2, 1, 0, 0, 0) := rfl
theorem sl_25_6 : pm_25.2.2.2.2.2 6 = some (.iload_n 3, 1, 0, 0, 0) := rfl
theorem sl_25_7 : pm_25.2.2.2.2.2 7 = some (.if_icmp .ge 13, 3, 0, 0, 0) := rfl
theorem sl_25_10 : pm_25.2.2.2.2.2 10 = some (.aload_n 0, 1, 0, 0, 0) := rfl
theorem sl_25_11 : pm_25.2.2.2.2.2 11 = some (.iload_n 2, 1, 0, 0, 0) := rfl
theorem sl_25_12 : pm_25.2.2.2.2.2 12 = some (.iload_n 1, 1, 0, 0, 0) := rfl
theorem sl_25_13 : pm_25.2.2.2.2.2 13 = some (.iastore, 1, 0, 0, 0) := rfl
theorem sl_25_14 : pm_25.2.2.2.2.2 14 = some (.iinc 2 1, 3, 0, 0, 0) := rfl
theorem sl_25_17 : pm_25.2.2.2.2.2 17 = some (.goto (-12), 3, 0, 0, 0) := rfl
theorem sl_25_20 : pm_25.2.2.2.2.2 20 = some (.return_, 1, 0, 0, 0) := rfl
theorem sl_26_0 : pm_26.2.2.2.2.2 0 = some (.iload_n 1, 1, 0, 0, 0) := rfl
theorem sl_26_1 : pm_26.2.2.2.2.2 1 = some (.ifCond .ne 13, 3, 0, 0, 0) := rfl
theorem sl_26_4 : pm_26.2.2.2.2.2 4 = some (.aload_n 0, 1, 0, 0, 0) := rfl
theorem sl_26_5 : pm_26.2.2.2.2.2 5 = some (.getfield 32, 3, 0, 6, 0) := rfl
theorem sl_26_8 : pm_26.2.2.2.2.2 8 = some (.getfield 134, 3, 11, 14, 0) := rfl
theorem sl_26_11 : pm_26.2.2.2.2.2 11 = some (.goto 19, 3, 0, 0, 0) := rfl
theorem sl_26_14 : pm_26.2.2.2.2.2 14 = some (.iload_n 1, 1, 0, 0, 0) := rfl
theorem sl_26_15 : pm_26.2.2.2.2.2 15 = some (.iconst 1, 1, 0, 0, 0) := rfl
theorem sl_26_16 : pm_26.2.2.2.2.2 16 = some (.if_icmp .ne 13, 3, 0, 0, 0) := rfl
theorem sl_26_19 : pm_26.2.2.2.2.2 19 = some (.aload_n 0, 1, 0, 0, 0) := rfl
theorem sl_26_20 : pm_26.2.2.2.2.2 20 = some (.getfield 32, 3, 0, 6, 0) := rfl
theorem sl_26_23 : pm_26.2.2.2.2.2 23 = some (.getfield 137, 3, 11, 15, 0) := rfl
theorem sl_26_26 : pm_26.2.2.2.2.2 26 = some (.goto 4, 3, 0, 0, 0) := rfl
theorem sl_26_29 : pm_26.2.2.2.2.2 29 = some (.iconst (-1), 1, 0, 0, 0) := rfl
theorem sl_26_30 : pm_26.2.2.2.2.2 30 = some (.ireturn, 1, 0, 0, 0) := rfl
theorem sl_27_0 : pm_27.2.2.2.2.2 0 = some (.aload_n 0, 1, 0, 0, 0) := rfl
theorem sl_27_1 : pm_27.2.2.2.2.2 1 = some (.getfield 74, 3, 0, 10, 0) := rfl
theorem sl_27_4 : pm_27.2.2.2.2.2 4 = some (.ifCond .ne 5, 3, 0, 0, 0) := rfl
theorem sl_27_7 : pm_27.2.2.2.2.2 7 = some (.iconst (-1), 1, 0, 0, 0) := rfl
theorem sl_27_8 : pm_27.2.2.2.2.2 8 = some (.ireturn, 1, 0, 0, 0) := rfl
theorem sl_30_0 : pm_30.2.2.2.2.2 0 = some (.aload_n 0, 1, 0, 0, 0) := rfl
theorem sl_30_1 : pm_30.2.2.2.2.2 1 = some (.getfield 61, 3, 0, 11, 0) := rfl
theorem sl_30_4 : pm_30.2.2.2.2.2 4 = some (.ireturn, 1, 0, 0, 0) := rfl
theorem sl_31_0 : pm_31.2.2.2.2.2 0 = some (.aload_n 0, 1, 0, 0, 0) := rfl
theorem sl_31_1 : pm_31.2.2.2.2.2 1 = some (.getfield 39, 3, 0, 7, 0) := rfl
theorem sl_31_4 : pm_31.2.2.2.2.2 4 = some (.getfield 170, 3, 6, 12, 0) := rfl
theorem sl_31_7 : pm_31.2.2.2.2.2 7 = some (.astore_n 3, 1, 0, 0, 0) := rfl
theorem sl_31_8 : pm_31.2.2.2.2.2 8 = some (.aload_n 0, 1, 0, 0, 0) := rfl
theorem sl_31_9 : pm_31.2.2.2.2.2 9 = some (.getfield 74, 3, 0, 10, 0) := rfl
theorem sl_31_12 : pm_31.2.2.2.2.2 12 = some (.ifCond .eq 15, 3, 0, 0, 0) := rfl
theorem sl_31_27 : pm_31.2.2.2.2.2 27 = some (.iconst (-1), 1, 0, 0, 0) := rfl
theorem sl_31_28 : pm_31.2.2.2.2.2 28 = some (.ireturn, 1, 0, 0, 0) := rfl
theorem sl_32_0 : pm_32.2.2.2.2.2 0 = some (.aload_n 0, 1, 0, 0, 0) := rfl
theorem sl_32_1 : pm_32.2.2.2.2.2 1 = some (.getfield 39, 3, 0, 7, 0) := rfl
theorem sl_32_4 : pm_32.2.2.2.2.2 4 = some (.getfield 170, 3, 6, 12, 0) := rfl
theorem sl_32_7 : pm_32.2.2.2.2.2 7 = some (.astore_n 3, 1, 0, 0, 0) := rfl
theorem sl_32_8 : pm_32.2.2.2.2.2 8 = some (.aload_n 0, 1, 0, 0, 0) := rfl
theorem sl_32_9 : pm_32.2.2.2.2.2 9 = some (.invokevirtual 213, 3, 33, 0, 0) := rfl
theorem sl_32_12 : pm_32.2.2.2.2.2 12 = some (.ifCond .eq 15, 3, 0, 0, 0) := rfl
theorem sl_32_27 : pm_32.2.2.2.2.2 27 = some (.iconst (-1), 1, 0, 0, 0) := rfl
theorem sl_32_28 : pm_32.2.2.2.2.2 28 = some (.ireturn, 1, 0, 0, 0) := rfl
theorem sl_33_0 : pm_33.2.2.2.2.2 0 = some (.aload_n 0, 1, 0, 0, 0) := rfl
theorem sl_33_1 : pm_33.2.2.2.2.2 1 = some (.getfield 74, 3, 0, 10, 0) := rfl
theorem sl_33_4 : pm_33.2.2.2.2.2 4 = some (.ifCond .eq 20, 3, 0, 0, 0) := rfl
theorem sl_33_24 : pm_33.2.2.2.2.2 24 = some (.iconst 0, 1, 0, 0, 0) := rfl
theorem sl_33_25 : pm_33.2.2.2.2.2 25 = some (.ireturn, 1, 0, 0, 0) := rfl
theorem sl_34_0 : pm_34.2.2.2.2.2 0 = some (.aload_n 0, 1, 0, 0, 0) := rfl
theorem sl_34_1 : pm_34.2.2.2.2.2 1 = some (.getfield 57, 3, 0, 9, 0) := rfl
theorem sl_34_4 : pm_34.2.2.2.2.2 4 = some (.iload_n 1, 1, 0, 0, 0) := rfl
theorem sl_34_5 : pm_34.2.2.2.2.2 5 = some (.invokevirtual 274, 3, 35, 1, 0) := rfl
theorem sl_34_8 : pm_34.2.2.2.2.2 8 = some (.astore_n 3, 1, 0, 0, 0) := rfl
theorem sl_34_9 : pm_34.2.2.2.2.2 9 = some (.aload_n 3, 1, 0, 0, 0) := rfl
theorem sl_34_10 : pm_34.2.2.2.2.2 10 = some (.ifnonnull 5, 3, 0, 0, 0) := rfl
theorem sl_34_13 : pm_34.2.2.2.2.2 13 = some (.iconst (-1), 1, 0, 0, 0) := rfl
theorem sl_34_14 : pm_34.2.2.2.2.2 14 = some (.ireturn, 1, 0, 0, 0) := rfl
theorem sl_35_0 : pm_35.2.2.2.2.2 0 = some (.iload_n 1, 1, 0, 0, 0) := rfl
theorem sl_35_1 : pm_35.2.2.2.2.2 1 = some (.ifCond .lt 26, 3, 0, 0, 0) := rfl
theorem sl_35_4 : pm_35.2.2.2.2.2 4 = some (.iload_n 1, 1, 0, 0, 0) := rfl
theorem sl_35_5 : pm_35.2.2.2.2.2 5 = some (.aload_n 0, 1, 0, 0, 0) := rfl
theorem sl_35_6 : pm_35.2.2.2.2.2 6 = some (.getfield 35, 3, 5, 6, 0) := rfl
theorem sl_35_9 : pm_35.2.2.2.2.2 9 = some (.if_icmp .ge 18, 3, 0, 0, 0) := rfl
theorem sl_35_27 : pm_35.2.2.2.2.2 27 = some (.iconst 0, 1, 0, 0, 0) := rfl
theorem sl_35_28 : pm_35.2.2.2.2.2 28 = some (.istore_n 2, 1, 0, 0, 0) := rfl
theorem sl_35_29 : pm_35.2.2.2.2.2 29 = some (.iload_n 2, 1, 0, 0, 0) := rfl
theorem sl_35_30 : pm_35.2.2.2.2.2 30 = some (.ifCond .eq 16, 3, 0, 0, 0) := rfl
theorem sl_35_46 : pm_35.2.2.2.2.2 46 = some (.aconst_null, 1, 0, 0, 0) := rfl
theorem sl_35_47 : pm_35.2.2.2.2.2 47 = some (.areturn, 1, 0, 0, 0) := rfl
theorem sl_37_0 : pm_37.2.2.2.2.2 0 = some (.aload_n 0, 1, 0, 0, 0) := rfl
theorem sl_37_1 : pm_37.2.2.2.2.2 1 = some (.getfield 57, 3, 0, 9, 0) := rfl
theorem sl_37_4 : pm_37.2.2.2.2.2 4 = some (.iload_n 1, 1, 0, 0, 0) := rfl
theorem sl_37_5 : pm_37.2.2.2.2.2 5 = some (.invokevirtual 274, 3, 35, 1, 0) := rfl
theorem sl_37_8 : pm_37.2.2.2.2.2 8 = some (.astore_n 3, 1, 0, 0, 0) := rfl
theorem sl_37_9 : pm_37.2.2.2.2.2 9 = some (.aload_n 3, 1, 0, 0, 0) := rfl
theorem sl_37_10 : pm_37.2.2.2.2.2 10 = some (.ifnull 22, 3, 0, 0, 0) := rfl
theorem sl_37_32 : pm_37.2.2.2.2.2 32 = some (.iconst (-1), 1, 0, 0, 0) := rfl
theorem sl_37_33 : pm_37.2.2.2.2.2 33 = some (.ireturn, 1, 0, 0, 0) := rfl
theorem sl_38_0 : pm_38.2.2.2.2.2 0 = some (.aload_n 0, 1, 0, 0, 0) := rfl
theorem sl_38_1 : pm_38.2.2.2.2.2 1 = some (.getfield 57, 3, 0, 9, 0) := rfl
theorem sl_38_4 : pm_38.2.2.2.2.2 4 = some (.iload_n 1, 1, 0, 0, 0) := rfl
theorem sl_38_5 : pm_38.2.2.2.2.2 5 = some (.invokevirtual 274, 3, 35, 1, 0) := rfl
theorem sl_38_8 : pm_38.2.2.2.2.2 8 = some (.astore_n 3, 1, 0, 0, 0) := rfl
theorem sl_38_9 : pm_38.2.2.2.2.2 9 = some (.aload_n 3, 1, 0, 0, 0) := rfl
theorem sl_38_10 : pm_38.2.2.2.2.2 10 = some (.ifnull 28, 3, 0, 0, 0) := rfl
theorem sl_38_38 : pm_38.2.2.2.2.2 38 = some (.iconst (-1), 1, 0, 0, 0) := rfl
theorem sl_38_39 : pm_38.2.2.2.2.2 39 = some (.ireturn, 1, 0, 0, 0) := rfl
theorem sl_39_0 : pm_39.2.2.2.2.2 0 = some (.iload_n 1, 1, 0, 0, 0) := rfl
theorem sl_39_1 : pm_39.2.2.2.2.2 1 = some (.tableswitch 101 0 5 #[39, 47, 55, 63, 71, 79], 39, 0, 0, 0) := rfl
theorem sl_39_40 : pm_39.2.2.2.2.2 40 = some (.aload_n 0, 1, 0, 0, 0) := rfl
theorem sl_39_41 : pm_39.2.2.2.2.2 41 = some (.getfield 57, 3, 0, 9, 0) := rfl
theorem sl_39_44 : pm_39.2.2.2.2.2 44 = some (.getfield 243, 3, 5, 4, 0) := rfl
theorem sl_39_47 : pm_39.2.2.2.2.2 47 = some (.ireturn, 1, 0, 0, 0) := rfl
theorem sl_39_48 : pm_39.2.2.2.2.2 48 = some (.aload_n 0, 1, 0, 0, 0) := rfl
theorem sl_39_49 : pm_39.2.2.2.2.2 49 = some (.getfield 57, 3, 0, 9, 0) := rfl
theorem sl_39_52 : pm_39.2.2.2.2.2 52 = some (.invokevirtual 226, 3, 40, 0, 0) := rfl
theorem sl_39_55 : pm_39.2.2.2.2.2 55 = some (.ireturn, 1, 0, 0, 0) := rfl
theorem sl_39_56 : pm_39.2.2.2.2.2 56 = some (.aload_n 0, 1, 0, 0, 0) := rfl
theorem sl_39_57 : pm_39.2.2.2.2.2 57 = some (.getfield 57, 3, 0, 9, 0) := rfl
theorem sl_39_60 : pm_39.2.2.2.2.2 60 = some (.invokevirtual 300, 3, 41, 0, 0) := rfl
theorem sl_39_63 : pm_39.2.2.2.2.2 63 = some (.ireturn, 1, 0, 0, 0) := rfl
theorem sl_39_64 : pm_39.2.2.2.2.2 64 = some (.aload_n 0, 1, 0, 0, 0) := rfl
theorem sl_39_65 : pm_39.2.2.2.2.2 65 = some (.getfield 57, 3, 0, 9, 0) := rfl
theorem sl_39_68 : pm_39.2.2.2.2.2 68 = some (.getfield 268, 3, 5, 6, 0) := rfl
theorem sl_39_71 : pm_39.2.2.2.2.2 71 = some (.ireturn, 1, 0, 0, 0) := rfl
theorem sl_39_72 : pm_39.2.2.2.2.2 72 = some (.aload_n 0, 1, 0, 0, 0) := rfl
theorem sl_39_73 : pm_39.2.2.2.2.2 73 = some (.getfield 57, 3, 0, 9, 0) := rfl
theorem sl_39_76 : pm_39.2.2.2.2.2 76 = some (.getfield 324, 3, 5, 7, 0) := rfl
theorem sl_39_79 : pm_39.2.2.2.2.2 79 = some (.ireturn, 1, 0, 0, 0) := rfl
theorem sl_39_80 : pm_39.2.2.2.2.2 80 = some (.aload_n 0, 1, 0, 0, 0) := rfl
theorem sl_39_81 : pm_39.2.2.2.2.2 81 = some (.getfield 74, 3, 0, 10, 0) := rfl
theorem sl_39_84 : pm_39.2.2.2.2.2 84 = some (.ifCond .eq 16, 3, 0, 0, 0) := rfl
theorem sl_39_100 : pm_39.2.2.2.2.2 100 = some (.iconst 0, 1, 0, 0, 0) := rfl
theorem sl_39_101 : pm_39.2.2.2.2.2 101 = some (.ireturn, 1, 0, 0, 0) := rfl
theorem sl_39_102 : pm_39.2.2.2.2.2 102 = some (.iconst (-1), 1, 0, 0, 0) := rfl
theorem sl_39_103 : pm_39.2.2.2.2.2 103 = some (.ireturn, 1, 0, 0, 0) := rfl
theorem sl_40_0 : pm_40.2.2.2.2.2 0 = some (.aload_n 0, 1, 0, 0, 0) := rfl
theorem sl_40_1 : pm_40.2.2.2.2.2 1 = some (.getfield 28, 3, 5, 4, 0) := rfl
theorem sl_40_4 : pm_40.2.2.2.2.2 4 = some (.aload_n 0, 1, 0, 0, 0) := rfl
theorem sl_40_5 : pm_40.2.2.2.2.2 5 = some (.getfield 32, 3, 5, 5, 0) := rfl
theorem sl_40_8 : pm_40.2.2.2.2.2 8 = some (.isub, 1, 0, 0, 0) := rfl
theorem sl_40_9 : pm_40.2.2.2.2.2 9 = some (.ireturn, 1, 0, 0, 0) := rfl
theorem sl_41_0 : pm_41.2.2.2.2.2 0 = some (.aload_n 0, 1, 0, 0, 0) := rfl
theorem sl_41_1 : pm_41.2.2.2.2.2 1 = some (.getfield 32, 3, 5, 5, 0) := rfl
theorem sl_41_4 : pm_41.2.2.2.2.2 4 = some (.aload_n 0, 1, 0, 0, 0) := rfl
theorem sl_41_5 : pm_41.2.2.2.2.2 5 = some (.getfield 35, 3, 5, 6, 0) := rfl
theorem sl_41_8 : pm_41.2.2.2.2.2 8 = some (.isub, 1, 0, 0, 0) := rfl
theorem sl_41_9 : pm_41.2.2.2.2.2 9 = some (.ireturn, 1, 0, 0, 0) := rfl
theorem sl_42_0 : pm_42.2.2.2.2.2 0 = some (.aload_n 1, 1, 0, 0, 0) := rfl
theorem sl_42_1 : pm_42.2.2.2.2.2 1 = some (.iconst 0, 1, 0, 0, 0) := rfl
theorem sl_42_2 : pm_42.2.2.2.2.2 2 = some (.aload_n 0, 1, 0, 0, 0) := rfl
theorem sl_42_3 : pm_42.2.2.2.2.2 3 = some (.invokevirtual 7, 3, 43, 0, 0) := rfl
theorem sl_42_11 : pm_42.2.2.2.2.2 11 = some (.astore_n 2, 1, 0, 0, 0) := rfl
theorem sl_42_12 : pm_42.2.2.2.2.2 12 = some (.iconst 1, 1, 0, 0, 0) := rfl
theorem sl_42_13 : pm_42.2.2.2.2.2 13 = some (.ireturn, 1, 0, 0, 0) := rfl
theorem sl_43_0 : pm_43.2.2.2.2.2 0 = some (.aload_n 0, 1, 0, 0, 0) := rfl
theorem sl_43_1 : pm_43.2.2.2.2.2 1 = some (.getfield 65, 3, 0, 2, 0) := rfl
theorem sl_43_4 : pm_43.2.2.2.2.2 4 = some (.istore_n 1, 1, 0, 0, 0) := rfl
theorem sl_43_5 : pm_43.2.2.2.2.2 5 = some (.aload_n 0, 1, 0, 0, 0) := rfl
theorem sl_43_6 : pm_43.2.2.2.2.2 6 = some (.iconst 0, 1, 0, 0, 0) := rfl
theorem sl_43_7 : pm_43.2.2.2.2.2 7 = some (.putfield 65, 3, 0, 2, 0) := rfl
theorem sl_43_10 : pm_43.2.2.2.2.2 10 = some (.aload_n 0, 1, 0, 0, 0) := rfl
theorem sl_43_11 : pm_43.2.2.2.2.2 11 = some (.iconst 0, 1, 0, 0, 0) := rfl
theorem sl_43_12 : pm_43.2.2.2.2.2 12 = some (.putfield 74, 3, 0, 10, 0) := rfl
theorem sl_43_15 : pm_43.2.2.2.2.2 15 = some (.aload_n 0, 1, 0, 0, 0) := rfl
theorem sl_43_16 : pm_43.2.2.2.2.2 16 = some (.iconst (-1), 1, 0, 0, 0) := rfl
theorem sl_43_17 : pm_43.2.2.2.2.2 17 = some (.putfield 61, 3, 0, 11, 0) := rfl
theorem sl_43_20 : pm_43.2.2.2.2.2 20 = some (.aload_n 0, 1, 0, 0, 0) := rfl
theorem sl_43_21 : pm_43.2.2.2.2.2 21 = some (.getfield 39, 3, 0, 7, 0) := rfl
theorem sl_43_24 : pm_43.2.2.2.2.2 24 = some (.invokevirtual 78, 3, 44, 0, 0) := rfl
theorem sl_43_27 : pm_43.2.2.2.2.2 27 = some (.aload_n 0, 1, 0, 0, 0) := rfl
theorem sl_43_28 : pm_43.2.2.2.2.2 28 = some (.getfield 57, 3, 0, 9, 0) := rfl
theorem sl_43_31 : pm_43.2.2.2.2.2 31 = some (.invokevirtual 81, 3, 45, 0, 0) := rfl
theorem sl_43_34 : pm_43.2.2.2.2.2 34 = some (.aload_n 0, 1, 0, 0, 0) := rfl
theorem sl_43_35 : pm_43.2.2.2.2.2 35 = some (.getfield 32, 3, 0, 6, 0) := rfl
theorem sl_43_38 : pm_43.2.2.2.2.2 38 = some (.iload_n 1, 1, 0, 0, 0) := rfl
theorem sl_43_39 : pm_43.2.2.2.2.2 39 = some (.invokevirtual 82, 3, 47, 1, 0) := rfl
theorem sl_43_42 : pm_43.2.2.2.2.2 42 = some (.iconst 1, 1, 0, 0, 0) := rfl
theorem sl_43_43 : pm_43.2.2.2.2.2 43 = some (.istore_n 2, 1, 0, 0, 0) := rfl
theorem sl_43_44 : pm_43.2.2.2.2.2 44 = some (.iconst 0, 1, 0, 0, 0) := rfl
theorem sl_43_45 : pm_43.2.2.2.2.2 45 = some (.istore_n 3, 1, 0, 0, 0) := rfl
theorem sl_43_46 : pm_43.2.2.2.2.2 46 = some (.iload_n 3, 1, 0, 0, 0) := rfl
theorem sl_43_47 : pm_43.2.2.2.2.2 47 = some (.sipush 4000, 3, 0, 0, 0) := rfl
theorem sl_43_50 : pm_43.2.2.2.2.2 50 = some (.if_icmp .gt 152, 3, 0, 0, 0) := rfl
theorem sl_43_53 : pm_43.2.2.2.2.2 53 = some (.iload_n 2, 1, 0, 0, 0) := rfl
theorem sl_43_54 : pm_43.2.2.2.2.2 54 = some (.ifCond .eq 148, 3, 0, 0, 0) := rfl
theorem sl_43_57 : pm_43.2.2.2.2.2 57 = some (.aload_n 0, 1, 0, 0, 0) := rfl
theorem sl_43_58 : pm_43.2.2.2.2.2 58 = some (.getfield 32, 3, 0, 6, 0) := rfl
theorem sl_43_61 : pm_43.2.2.2.2.2 61 = some (.getfield 86, 3, 11, 9, 0) := rfl
theorem sl_43_64 : pm_43.2.2.2.2.2 64 = some (.tableswitch 130 300 310 #[60, 70, 80, 90, 100, 130, 130, 130, 130, 110, 120], 60, 0, 0, 0) := rfl
theorem sl_43_194 : pm_43.2.2.2.2.2 194 = some (.iconst 0, 1, 0, 0, 0) := rfl
theorem sl_43_195 : pm_43.2.2.2.2.2 195 = some (.istore_n 2, 1, 0, 0, 0) := rfl
theorem sl_43_196 : pm_43.2.2.2.2.2 196 = some (.iinc 3 1, 3, 0, 0, 0) := rfl
theorem sl_43_199 : pm_43.2.2.2.2.2 199 = some (.goto (-153), 3, 0, 0, 0) := rfl
theorem sl_43_202 : pm_43.2.2.2.2.2 202 = some (.aload_n 0, 1, 0, 0, 0) := rfl
theorem sl_43_203 : pm_43.2.2.2.2.2 203 = some (.getfield 48, 3, 0, 8, 0) := rfl
theorem sl_43_206 : pm_43.2.2.2.2.2 206 = some (.invokevirtual 110, 3, 136, 0, 0) := rfl
theorem sl_44_0 : pm_44.2.2.2.2.2 0 = some (.aload_n 0, 1, 0, 0, 0) := rfl
theorem sl_44_1 : pm_44.2.2.2.2.2 1 = some (.getfield 9, 3, 6, 0, 0) := rfl
theorem sl_44_4 : pm_44.2.2.2.2.2 4 = some (.iconst 0, 1, 0, 0, 0) := rfl
theorem sl_44_5 : pm_44.2.2.2.2.2 5 = some (.invokestatic 72, 3, 25, 2, 1) := rfl
theorem sl_44_8 : pm_44.2.2.2.2.2 8 = some (.aload_n 0, 1, 0, 0, 0) := rfl
theorem sl_44_9 : pm_44.2.2.2.2.2 9 = some (.iconst 0, 1, 0, 0, 0) := rfl
theorem sl_44_10 : pm_44.2.2.2.2.2 10 = some (.putfield 78, 3, 6, 13, 0) := rfl
theorem sl_44_13 : pm_44.2.2.2.2.2 13 = some (.aload_n 0, 1, 0, 0, 0) := rfl
theorem sl_44_14 : pm_44.2.2.2.2.2 14 = some (.iconst 0, 1, 0, 0, 0) := rfl
theorem sl_44_15 : pm_44.2.2.2.2.2 15 = some (.putfield 82, 3, 6, 14, 0) := rfl
theorem sl_44_18 : pm_44.2.2.2.2.2 18 = some (.aload_n 0, 1, 0, 0, 0) := rfl
theorem sl_44_19 : pm_44.2.2.2.2.2 19 = some (.iconst 3, 1, 0, 0, 0) := rfl
theorem sl_44_20 : pm_44.2.2.2.2.2 20 = some (.putfield 85, 3, 6, 15, 0) := rfl
theorem sl_44_23 : pm_44.2.2.2.2.2 23 = some (.aload_n 0, 1, 0, 0, 0) := rfl
theorem sl_44_24 : pm_44.2.2.2.2.2 24 = some (.getfield 25, 3, 6, 4, 0) := rfl
theorem sl_44_27 : pm_44.2.2.2.2.2 27 = some (.bipush 16, 2, 0, 0, 0) := rfl
theorem sl_44_29 : pm_44.2.2.2.2.2 29 = some (.invokestatic 72, 3, 25, 2, 1) := rfl
theorem sl_44_32 : pm_44.2.2.2.2.2 32 = some (.aload_n 0, 1, 0, 0, 0) := rfl
theorem sl_44_33 : pm_44.2.2.2.2.2 33 = some (.iconst 0, 1, 0, 0, 0) := rfl
theorem sl_44_34 : pm_44.2.2.2.2.2 34 = some (.putfield 88, 3, 6, 16, 0) := rfl
theorem sl_44_37 : pm_44.2.2.2.2.2 37 = some (.aload_n 0, 1, 0, 0, 0) := rfl
theorem sl_44_38 : pm_44.2.2.2.2.2 38 = some (.iconst 0, 1, 0, 0, 0) := rfl
theorem sl_44_39 : pm_44.2.2.2.2.2 39 = some (.putfield 91, 3, 6, 17, 0) := rfl
theorem sl_44_42 : pm_44.2.2.2.2.2 42 = some (.aload_n 0, 1, 0, 0, 0) := rfl
theorem sl_44_43 : pm_44.2.2.2.2.2 43 = some (.iconst 0, 1, 0, 0, 0) := rfl
theorem sl_44_44 : pm_44.2.2.2.2.2 44 = some (.putfield 94, 3, 6, 18, 0) := rfl
theorem sl_44_47 : pm_44.2.2.2.2.2 47 = some (.aload_n 0, 1, 0, 0, 0) := rfl
theorem sl_44_48 : pm_44.2.2.2.2.2 48 = some (.getfield 46, 3, 6, 9, 0) := rfl
theorem sl_44_51 : pm_44.2.2.2.2.2 51 = some (.iconst 0, 1, 0, 0, 0) := rfl
theorem sl_44_52 : pm_44.2.2.2.2.2 52 = some (.putfield 97, 3, 3, 8, 0) := rfl
theorem sl_44_55 : pm_44.2.2.2.2.2 55 = some (.aload_n 0, 1, 0, 0, 0) := rfl
theorem sl_44_56 : pm_44.2.2.2.2.2 56 = some (.getfield 53, 3, 6, 10, 0) := rfl
theorem sl_44_59 : pm_44.2.2.2.2.2 59 = some (.iconst 0, 1, 0, 0, 0) := rfl
theorem sl_44_60 : pm_44.2.2.2.2.2 60 = some (.putfield 100, 3, 8, 13, 0) := rfl
theorem sl_44_63 : pm_44.2.2.2.2.2 63 = some (.aload_n 0, 1, 0, 0, 0) := rfl
theorem sl_44_64 : pm_44.2.2.2.2.2 64 = some (.getfield 53, 3, 6, 10, 0) := rfl
theorem sl_44_67 : pm_44.2.2.2.2.2 67 = some (.iconst 0, 1, 0, 0, 0) := rfl
theorem sl_44_68 : pm_44.2.2.2.2.2 68 = some (.putfield 101, 3, 8, 14, 0) := rfl
theorem sl_44_71 : pm_44.2.2.2.2.2 71 = some (.aload_n 0, 1, 0, 0, 0) := rfl
theorem sl_44_72 : pm_44.2.2.2.2.2 72 = some (.getfield 60, 3, 6, 11, 0) := rfl
theorem sl_44_75 : pm_44.2.2.2.2.2 75 = some (.iconst 0, 1, 0, 0, 0) := rfl
theorem sl_44_76 : pm_44.2.2.2.2.2 76 = some (.putfield 104, 3, 1, 13, 0) := rfl
theorem sl_44_79 : pm_44.2.2.2.2.2 79 = some (.aload_n 0, 1, 0, 0, 0) := rfl
theorem sl_44_80 : pm_44.2.2.2.2.2 80 = some (.getfield 60, 3, 6, 11, 0) := rfl
theorem sl_44_83 : pm_44.2.2.2.2.2 83 = some (.iconst 0, 1, 0, 0, 0) := rfl
theorem sl_44_84 : pm_44.2.2.2.2.2 84 = some (.putfield 105, 3, 1, 14, 0) := rfl
theorem sl_44_87 : pm_44.2.2.2.2.2 87 = some (.aload_n 0, 1, 0, 0, 0) := rfl
theorem sl_44_88 : pm_44.2.2.2.2.2 88 = some (.getfield 67, 3, 6, 12, 0) := rfl
theorem sl_44_91 : pm_44.2.2.2.2.2 91 = some (.iconst 0, 1, 0, 0, 0) := rfl
theorem sl_44_92 : pm_44.2.2.2.2.2 92 = some (.putfield 108, 3, 9, 14, 0) := rfl
theorem sl_44_95 : pm_44.2.2.2.2.2 95 = some (.aload_n 0, 1, 0, 0, 0) := rfl
theorem sl_44_96 : pm_44.2.2.2.2.2 96 = some (.getfield 67, 3, 6, 12, 0) := rfl
theorem sl_44_99 : pm_44.2.2.2.2.2 99 = some (.iconst 0, 1, 0, 0, 0) := rfl
theorem sl_44_100 : pm_44.2.2.2.2.2 100 = some (.putfield 109, 3, 9, 15, 0) := rfl
theorem sl_44_103 : pm_44.2.2.2.2.2 103 = some (.return_, 1, 0, 0, 0) := rfl
theorem sl_45_0 : pm_45.2.2.2.2.2 0 = some (.aload_n 0, 1, 0, 0, 0) := rfl
theorem sl_45_1 : pm_45.2.2.2.2.2 1 = some (.iconst 0, 1, 0, 0, 0) := rfl
theorem sl_45_2 : pm_45.2.2.2.2.2 2 = some (.putfield 28, 3, 5, 4, 0) := rfl
theorem sl_45_5 : pm_45.2.2.2.2.2 5 = some (.aload_n 0, 1, 0, 0, 0) := rfl
theorem sl_45_6 : pm_45.2.2.2.2.2 6 = some (.iconst 0, 1, 0, 0, 0) := rfl
theorem sl_45_7 : pm_45.2.2.2.2.2 7 = some (.putfield 32, 3, 5, 5, 0) := rfl
theorem sl_45_10 : pm_45.2.2.2.2.2 10 = some (.aload_n 0, 1, 0, 0, 0) := rfl
theorem sl_45_11 : pm_45.2.2.2.2.2 11 = some (.iconst 0, 1, 0, 0, 0) := rfl
theorem sl_45_12 : pm_45.2.2.2.2.2 12 = some (.putfield 35, 3, 5, 6, 0) := rfl
theorem sl_45_15 : pm_45.2.2.2.2.2 15 = some (.aload_n 0, 1, 0, 0, 0) := rfl
theorem sl_45_16 : pm_45.2.2.2.2.2 16 = some (.iconst 0, 1, 0, 0, 0) := rfl
theorem sl_45_17 : pm_45.2.2.2.2.2 17 = some (.putfield 38, 3, 5, 7, 0) := rfl
theorem sl_45_20 : pm_45.2.2.2.2.2 20 = some (.aload_n 0, 1, 0, 0, 0) := rfl
theorem sl_45_21 : pm_45.2.2.2.2.2 21 = some (.getfield 20, 3, 5, 3, 0) := rfl
theorem sl_45_24 : pm_45.2.2.2.2.2 24 = some (.lconst 0, 1, 0, 0, 0) := rfl
theorem sl_45_25 : pm_45.2.2.2.2.2 25 = some (.invokestatic 41, 3, 46, 2, 1) := rfl
theorem sl_45_28 : pm_45.2.2.2.2.2 28 = some (.iconst 0, 1, 0, 0, 0) := rfl
theorem sl_45_29 : pm_45.2.2.2.2.2 29 = some (.istore_n 1, 1, 0, 0, 0) := rfl
theorem sl_45_30 : pm_45.2.2.2.2.2 30 = some (.iload_n 1, 1, 0, 0, 0) := rfl
theorem sl_45_31 : pm_45.2.2.2.2.2 31 = some (.bipush 12, 2, 0, 0, 0) := rfl
theorem sl_45_33 : pm_45.2.2.2.2.2 33 = some (.if_icmp .ge 16, 3, 0, 0, 0) := rfl
theorem sl_45_36 : pm_45.2.2.2.2.2 36 = some (.aload_n 0, 1, 0, 0, 0) := rfl
theorem sl_45_37 : pm_45.2.2.2.2.2 37 = some (.getfield 17, 3, 5, 2, 0) := rfl
theorem sl_45_40 : pm_45.2.2.2.2.2 40 = some (.iload_n 1, 1, 0, 0, 0) := rfl
theorem sl_45_41 : pm_45.2.2.2.2.2 41 = some (.aconst_null, 1, 0, 0, 0) := rfl
theorem sl_45_42 : pm_45.2.2.2.2.2 42 = some (.aastore, 1, 0, 0, 0) := rfl
theorem sl_45_43 : pm_45.2.2.2.2.2 43 = some (.iinc 1 1, 3, 0, 0, 0) := rfl
theorem sl_45_46 : pm_45.2.2.2.2.2 46 = some (.goto (-16), 3, 0, 0, 0) := rfl
theorem sl_45_49 : pm_45.2.2.2.2.2 49 = some (.return_, 1, 0, 0, 0) := rfl
theorem sl_46_0 : pm_46.2.2.2.2.2 0 = some (.iconst 0, 1, 0, 0, 0) := rfl
theorem sl_46_1 : pm_46.2.2.2.2.2 1 = some (.istore_n 3, 1, 0, 0, 0) := rfl
theorem sl_46_2 : pm_46.2.2.2.2.2 2 = some (.aload_n 0, 1, 0, 0, 0) := rfl
theorem sl_46_3 : pm_46.2.2.2.2.2 3 = some (.arraylength, 1, 0, 0, 0) := rfl
theorem sl_46_4 : pm_46.2.2.2.2.2 4 = some (.istore 4, 2, 0, 0, 0) := rfl
theorem sl_46_6 : pm_46.2.2.2.2.2 6 = some (.iload_n 3, 1, 0, 0, 0) := rfl
theorem sl_46_7 : pm_46.2.2.2.2.2 7 = some (.iload 4, 2, 0, 0, 0) := rfl
theorem sl_46_9 : pm_46.2.2.2.2.2 9 = some (.if_icmp .ge 13, 3, 0, 0, 0) := rfl
theorem sl_46_12 : pm_46.2.2.2.2.2 12 = some (.aload_n 0, 1, 0, 0, 0) := rfl
theorem sl_46_13 : pm_46.2.2.2.2.2 13 = some (.iload_n 3, 1, 0, 0, 0) := rfl
theorem sl_46_14 : pm_46.2.2.2.2.2 14 = some (.lload_n 1, 1, 0, 0, 0) := rfl
theorem sl_46_15 : pm_46.2.2.2.2.2 15 = some (.lastore, 1, 0, 0, 0) := rfl
theorem sl_46_16 : pm_46.2.2.2.2.2 16 = some (.iinc 3 1, 3, 0, 0, 0) := rfl
theorem sl_46_19 : pm_46.2.2.2.2.2 19 = some (.goto (-13), 3, 0, 0, 0) := rfl
theorem sl_46_22 : pm_46.2.2.2.2.2 22 = some (.return_, 1, 0, 0, 0) := rfl
theorem sl_47_0 : pm_47.2.2.2.2.2 0 = some (.aload_n 0, 1, 0, 0, 0) := rfl
theorem sl_47_1 : pm_47.2.2.2.2.2 1 = some (.iload_n 1, 1, 0, 0, 0) := rfl
theorem sl_47_2 : pm_47.2.2.2.2.2 2 = some (.putfield 48, 3, 11, 7, 0) := rfl
theorem sl_47_5 : pm_47.2.2.2.2.2 5 = some (.aload_n 0, 1, 0, 0, 0) := rfl
theorem sl_47_6 : pm_47.2.2.2.2.2 6 = some (.iconst 0, 1, 0, 0, 0) := rfl
theorem sl_47_7 : pm_47.2.2.2.2.2 7 = some (.putfield 50, 3, 11, 8, 0) := rfl
theorem sl_47_10 : pm_47.2.2.2.2.2 10 = some (.aload_n 0, 1, 0, 0, 0) := rfl
theorem sl_47_11 : pm_47.2.2.2.2.2 11 = some (.iconst 0, 1, 0, 0, 0) := rfl
theorem sl_47_12 : pm_47.2.2.2.2.2 12 = some (.putfield 53, 3, 11, 6, 0) := rfl
theorem sl_47_15 : pm_47.2.2.2.2.2 15 = some (.aload_n 0, 1, 0, 0, 0) := rfl
theorem sl_47_16 : pm_47.2.2.2.2.2 16 = some (.iconst 0, 1, 0, 0, 0) := rfl
theorem sl_47_17 : pm_47.2.2.2.2.2 17 = some (.putfield 56, 3, 11, 14, 0) := rfl
theorem sl_47_20 : pm_47.2.2.2.2.2 20 = some (.aload_n 0, 1, 0, 0, 0) := rfl
theorem sl_47_21 : pm_47.2.2.2.2.2 21 = some (.iconst (-1), 1, 0, 0, 0) := rfl
theorem sl_47_22 : pm_47.2.2.2.2.2 22 = some (.putfield 28, 3, 11, 15, 0) := rfl
theorem sl_47_25 : pm_47.2.2.2.2.2 25 = some (.aload_n 0, 1, 0, 0, 0) := rfl
theorem sl_47_26 : pm_47.2.2.2.2.2 26 = some (.iconst 0, 1, 0, 0, 0) := rfl
theorem sl_47_27 : pm_47.2.2.2.2.2 27 = some (.putfield 59, 3, 11, 16, 0) := rfl
theorem sl_47_30 : pm_47.2.2.2.2.2 30 = some (.aload_n 0, 1, 0, 0, 0) := rfl
theorem sl_47_31 : pm_47.2.2.2.2.2 31 = some (.ldc 63, 2, 1, 0, 1) := rfl
theorem sl_47_33 : pm_47.2.2.2.2.2 33 = some (.sipush 302, 3, 0, 0, 0) := rfl
theorem sl_47_36 : pm_47.2.2.2.2.2 36 = some (.iconst 0, 1, 0, 0, 0) := rfl
theorem sl_47_37 : pm_47.2.2.2.2.2 37 = some (.invokevirtual 65, 3, 48, 3, 0) := rfl
theorem sl_47_40 : pm_47.2.2.2.2.2 40 = some (.aload_n 0, 1, 0, 0, 0) := rfl
theorem sl_47_41 : pm_47.2.2.2.2.2 41 = some (.ldc 69, 2, 2, 0, 1) := rfl
theorem sl_47_43 : pm_47.2.2.2.2.2 43 = some (.sipush 302, 3, 0, 0, 0) := rfl
theorem sl_47_46 : pm_47.2.2.2.2.2 46 = some (.iconst 1, 1, 0, 0, 0) := rfl
theorem sl_47_47 : pm_47.2.2.2.2.2 47 = some (.invokevirtual 65, 3, 48, 3, 0) := rfl
theorem sl_47_50 : pm_47.2.2.2.2.2 50 = some (.aload_n 0, 1, 0, 0, 0) := rfl
theorem sl_47_51 : pm_47.2.2.2.2.2 51 = some (.ldc 70, 2, 3, 0, 1) := rfl
theorem sl_47_53 : pm_47.2.2.2.2.2 53 = some (.sipush 302, 3, 0, 0, 0) := rfl
theorem sl_47_56 : pm_47.2.2.2.2.2 56 = some (.iconst 2, 1, 0, 0, 0) := rfl
theorem sl_47_57 : pm_47.2.2.2.2.2 57 = some (.invokevirtual 65, 3, 48, 3, 0) := rfl
theorem sl_47_60 : pm_47.2.2.2.2.2 60 = some (.aload_n 0, 1, 0, 0, 0) := rfl
theorem sl_47_61 : pm_47.2.2.2.2.2 61 = some (.ldc 72, 2, 4, 0, 1) := rfl
theorem sl_47_63 : pm_47.2.2.2.2.2 63 = some (.sipush 304, 3, 0, 0, 0) := rfl
theorem sl_47_66 : pm_47.2.2.2.2.2 66 = some (.bipush 16, 2, 0, 0, 0) := rfl
theorem sl_47_68 : pm_47.2.2.2.2.2 68 = some (.invokevirtual 65, 3, 48, 3, 0) := rfl
theorem sl_47_71 : pm_47.2.2.2.2.2 71 = some (.aload_n 0, 1, 0, 0, 0) := rfl
theorem sl_47_72 : pm_47.2.2.2.2.2 72 = some (.ldc 74, 2, 5, 0, 1) := rfl
theorem sl_47_74 : pm_47.2.2.2.2.2 74 = some (.sipush 304, 3, 0, 0, 0) := rfl
theorem sl_47_77 : pm_47.2.2.2.2.2 77 = some (.bipush 17, 2, 0, 0, 0) := rfl
theorem sl_47_79 : pm_47.2.2.2.2.2 79 = some (.invokevirtual 65, 3, 48, 3, 0) := rfl
theorem sl_47_82 : pm_47.2.2.2.2.2 82 = some (.aload_n 0, 1, 0, 0, 0) := rfl
theorem sl_47_83 : pm_47.2.2.2.2.2 83 = some (.invokevirtual 76, 3, 50, 0, 0) := rfl
theorem sl_47_86 : pm_47.2.2.2.2.2 86 = some (.return_, 1, 0, 0, 0) := rfl
theorem sl_48_0 : pm_48.2.2.2.2.2 0 = some (.aload_n 0, 1, 0, 0, 0) := rfl
theorem sl_48_1 : pm_48.2.2.2.2.2 1 = some (.lconst 0, 1, 0, 0, 0) := rfl
theorem sl_48_2 : pm_48.2.2.2.2.2 2 = some (.putfield 79, 3, 11, 12, 0) := rfl
theorem sl_48_5 : pm_48.2.2.2.2.2 5 = some (.aload_n 0, 1, 0, 0, 0) := rfl
theorem sl_48_6 : pm_48.2.2.2.2.2 6 = some (.lconst 0, 1, 0, 0, 0) := rfl
theorem sl_48_7 : pm_48.2.2.2.2.2 7 = some (.putfield 83, 3, 11, 13, 0) := rfl
theorem sl_48_10 : pm_48.2.2.2.2.2 10 = some (.iconst 0, 1, 0, 0, 0) := rfl
theorem sl_48_11 : pm_48.2.2.2.2.2 11 = some (.istore 4, 2, 0, 0, 0) := rfl
theorem sl_48_13 : pm_48.2.2.2.2.2 13 = some (.iload 4, 2, 0, 0, 0) := rfl
theorem sl_48_15 : pm_48.2.2.2.2.2 15 = some (.aload_n 1, 1, 0, 0, 0) := rfl
theorem sl_48_16 : pm_48.2.2.2.2.2 16 = some (.invokevirtual 38, 3, 3, 0, 7) := rfl
theorem sl_48_19 : pm_48.2.2.2.2.2 19 = some (.if_icmp .ge 41, 3, 0, 0, 0) := rfl
theorem sl_48_22 : pm_48.2.2.2.2.2 22 = some (.iload 4, 2, 0, 0, 0) := rfl
theorem sl_48_24 : pm_48.2.2.2.2.2 24 = some (.bipush 8, 2, 0, 0, 0) := rfl
theorem sl_48_26 : pm_48.2.2.2.2.2 26 = some (.if_icmp .ge 34, 3, 0, 0, 0) := rfl
theorem sl_48_29 : pm_48.2.2.2.2.2 29 = some (.aload_n 0, 1, 0, 0, 0) := rfl
theorem sl_48_30 : pm_48.2.2.2.2.2 30 = some (.dup, 1, 0, 0, 0) := rfl
theorem sl_48_31 : pm_48.2.2.2.2.2 31 = some (.getfield 79, 3, 11, 12, 0) := rfl
theorem sl_48_34 : pm_48.2.2.2.2.2 34 = some (.aload_n 1, 1, 0, 0, 0) := rfl
theorem sl_48_35 : pm_48.2.2.2.2.2 35 = some (.iload 4, 2, 0, 0, 0) := rfl
theorem sl_48_37 : pm_48.2.2.2.2.2 37 = some (.invokevirtual 44, 3, 5, 1, 7) := rfl
theorem sl_48_40 : pm_48.2.2.2.2.2 40 = some (.i2l, 1, 0, 0, 0) := rfl
theorem sl_48_41 : pm_48.2.2.2.2.2 41 = some (.bipush 56, 2, 0, 0, 0) := rfl
theorem sl_48_43 : pm_48.2.2.2.2.2 43 = some (.bipush 8, 2, 0, 0, 0) := rfl
theorem sl_48_45 : pm_48.2.2.2.2.2 45 = some (.iload 4, 2, 0, 0, 0) := rfl
theorem sl_48_47 : pm_48.2.2.2.2.2 47 = some (.imul, 1, 0, 0, 0) := rfl
theorem sl_48_48 : pm_48.2.2.2.2.2 48 = some (.isub, 1, 0, 0, 0) := rfl
theorem sl_48_49 : pm_48.2.2.2.2.2 49 = some (.lshl, 1, 0, 0, 0) := rfl
theorem sl_48_50 : pm_48.2.2.2.2.2 50 = some (.lor, 1, 0, 0, 0) := rfl
theorem sl_48_51 : pm_48.2.2.2.2.2 51 = some (.putfield 79, 3, 11, 12, 0) := rfl
theorem sl_48_54 : pm_48.2.2.2.2.2 54 = some (.iinc 4 1, 3, 0, 0, 0) := rfl
theorem sl_48_57 : pm_48.2.2.2.2.2 57 = some (.goto (-44), 3, 0, 0, 0) := rfl
theorem sl_48_60 : pm_48.2.2.2.2.2 60 = some (.aload_n 0, 1, 0, 0, 0) := rfl
theorem sl_48_61 : pm_48.2.2.2.2.2 61 = some (.iload_n 2, 1, 0, 0, 0) := rfl
theorem sl_48_62 : pm_48.2.2.2.2.2 62 = some (.iload_n 3, 1, 0, 0, 0) := rfl
theorem sl_48_63 : pm_48.2.2.2.2.2 63 = some (.invokevirtual 86, 3, 49, 2, 0) := rfl
theorem sl_48_66 : pm_48.2.2.2.2.2 66 = some (.return_, 1, 0, 0, 0) := rfl
theorem sl_49_0 : pm_49.2.2.2.2.2 0 = some (.aload_n 0, 1, 0, 0, 0) := rfl
theorem sl_49_1 : pm_49.2.2.2.2.2 1 = some (.getfield 53, 3, 11, 6, 0) := rfl
theorem sl_49_4 : pm_49.2.2.2.2.2 4 = some (.bipush 90, 2, 0, 0, 0) := rfl
theorem sl_49_6 : pm_49.2.2.2.2.2 6 = some (.if_icmp .ge 59, 3, 0, 0, 0) := rfl
theorem sl_49_9 : pm_49.2.2.2.2.2 9 = some (.aload_n 0, 1, 0, 0, 0) := rfl
theorem sl_49_10 : pm_49.2.2.2.2.2 10 = some (.getfield 15, 3, 11, 2, 0) := rfl
theorem sl_49_13 : pm_49.2.2.2.2.2 13 = some (.aload_n 0, 1, 0, 0, 0) := rfl
theorem sl_49_14 : pm_49.2.2.2.2.2 14 = some (.getfield 53, 3, 11, 6, 0) := rfl
theorem sl_49_17 : pm_49.2.2.2.2.2 17 = some (.aload_n 0, 1, 0, 0, 0) := rfl
theorem sl_49_18 : pm_49.2.2.2.2.2 18 = some (.getfield 79, 3, 11, 12, 0) := rfl
theorem sl_49_21 : pm_49.2.2.2.2.2 21 = some (.lastore, 1, 0, 0, 0) := rfl
theorem sl_49_22 : pm_49.2.2.2.2.2 22 = some (.aload_n 0, 1, 0, 0, 0) := rfl
theorem sl_49_23 : pm_49.2.2.2.2.2 23 = some (.getfield 18, 3, 11, 3, 0) := rfl
theorem sl_49_26 : pm_49.2.2.2.2.2 26 = some (.aload_n 0, 1, 0, 0, 0) := rfl
theorem sl_49_27 : pm_49.2.2.2.2.2 27 = some (.getfield 53, 3, 11, 6, 0) := rfl
theorem sl_49_30 : pm_49.2.2.2.2.2 30 = some (.aload_n 0, 1, 0, 0, 0) := rfl
theorem sl_49_31 : pm_49.2.2.2.2.2 31 = some (.getfield 83, 3, 11, 13, 0) := rfl
theorem sl_49_34 : pm_49.2.2.2.2.2 34 = some (.lastore, 1, 0, 0, 0) := rfl
theorem sl_49_35 : pm_49.2.2.2.2.2 35 = some (.aload_n 0, 1, 0, 0, 0) := rfl
theorem sl_49_36 : pm_49.2.2.2.2.2 36 = some (.getfield 21, 3, 11, 4, 0) := rfl
theorem sl_49_39 : pm_49.2.2.2.2.2 39 = some (.aload_n 0, 1, 0, 0, 0) := rfl
theorem sl_49_40 : pm_49.2.2.2.2.2 40 = some (.getfield 53, 3, 11, 6, 0) := rfl
theorem sl_49_43 : pm_49.2.2.2.2.2 43 = some (.iload_n 1, 1, 0, 0, 0) := rfl
theorem sl_49_44 : pm_49.2.2.2.2.2 44 = some (.iastore, 1, 0, 0, 0) := rfl
theorem sl_49_45 : pm_49.2.2.2.2.2 45 = some (.aload_n 0, 1, 0, 0, 0) := rfl
theorem sl_49_46 : pm_49.2.2.2.2.2 46 = some (.getfield 25, 3, 11, 5, 0) := rfl
theorem sl_49_49 : pm_49.2.2.2.2.2 49 = some (.aload_n 0, 1, 0, 0, 0) := rfl
theorem sl_49_50 : pm_49.2.2.2.2.2 50 = some (.getfield 53, 3, 11, 6, 0) := rfl
theorem sl_49_53 : pm_49.2.2.2.2.2 53 = some (.iload_n 2, 1, 0, 0, 0) := rfl
theorem sl_49_54 : pm_49.2.2.2.2.2 54 = some (.iastore, 1, 0, 0, 0) := rfl
theorem sl_49_55 : pm_49.2.2.2.2.2 55 = some (.aload_n 0, 1, 0, 0, 0) := rfl
theorem sl_49_56 : pm_49.2.2.2.2.2 56 = some (.dup, 1, 0, 0, 0) := rfl
theorem sl_49_57 : pm_49.2.2.2.2.2 57 = some (.getfield 53, 3, 11, 6, 0) := rfl
theorem sl_49_60 : pm_49.2.2.2.2.2 60 = some (.iconst 1, 1, 0, 0, 0) := rfl
theorem sl_49_61 : pm_49.2.2.2.2.2 61 = some (.iadd, 1, 0, 0, 0) := rfl
theorem sl_49_62 : pm_49.2.2.2.2.2 62 = some (.putfield 53, 3, 11, 6, 0) := rfl
theorem sl_49_65 : pm_49.2.2.2.2.2 65 = some (.return_, 1, 0, 0, 0) := rfl
theorem sl_50_0 : pm_50.2.2.2.2.2 0 = some (.aload_n 0, 1, 0, 0, 0) := rfl
theorem sl_50_1 : pm_50.2.2.2.2.2 1 = some (.getfield 59, 3, 11, 16, 0) := rfl
theorem sl_50_4 : pm_50.2.2.2.2.2 4 = some (.ifCond .eq 12, 3, 0, 0, 0) := rfl
theorem sl_50_16 : pm_50.2.2.2.2.2 16 = some (.aload_n 0, 1, 0, 0, 0) := rfl
theorem sl_50_17 : pm_50.2.2.2.2.2 17 = some (.getfield 50, 3, 11, 8, 0) := rfl
theorem sl_50_20 : pm_50.2.2.2.2.2 20 = some (.aload_n 0, 1, 0, 0, 0) := rfl
theorem sl_50_21 : pm_50.2.2.2.2.2 21 = some (.getfield 48, 3, 11, 7, 0) := rfl
theorem sl_50_24 : pm_50.2.2.2.2.2 24 = some (.if_icmp .ge 44, 3, 0, 0, 0) := rfl
theorem sl_50_68 : pm_50.2.2.2.2.2 68 = some (.aload_n 0, 1, 0, 0, 0) := rfl
theorem sl_50_69 : pm_50.2.2.2.2.2 69 = some (.aload_n 0, 1, 0, 0, 0) := rfl
theorem sl_50_70 : pm_50.2.2.2.2.2 70 = some (.getfield 50, 3, 11, 8, 0) := rfl
theorem sl_50_73 : pm_50.2.2.2.2.2 73 = some (.putfield 90, 3, 11, 10, 0) := rfl
theorem sl_50_76 : pm_50.2.2.2.2.2 76 = some (.aload_n 0, 1, 0, 0, 0) := rfl
theorem sl_50_77 : pm_50.2.2.2.2.2 77 = some (.getfield 50, 3, 11, 8, 0) := rfl
theorem sl_50_80 : pm_50.2.2.2.2.2 80 = some (.aload_n 0, 1, 0, 0, 0) := rfl
theorem sl_50_81 : pm_50.2.2.2.2.2 81 = some (.getfield 48, 3, 11, 7, 0) := rfl
theorem sl_50_84 : pm_50.2.2.2.2.2 84 = some (.if_icmp .ge 19, 3, 0, 0, 0) := rfl
theorem sl_50_103 : pm_50.2.2.2.2.2 103 = some (.iconst 0, 1, 0, 0, 0) := rfl
theorem sl_50_104 : pm_50.2.2.2.2.2 104 = some (.istore_n 1, 1, 0, 0, 0) := rfl
theorem sl_50_105 : pm_50.2.2.2.2.2 105 = some (.aload_n 0, 1, 0, 0, 0) := rfl
theorem sl_50_106 : pm_50.2.2.2.2.2 106 = some (.getfield 50, 3, 11, 8, 0) := rfl
theorem sl_50_109 : pm_50.2.2.2.2.2 109 = some (.aload_n 0, 1, 0, 0, 0) := rfl
theorem sl_50_110 : pm_50.2.2.2.2.2 110 = some (.getfield 48, 3, 11, 7, 0) := rfl
theorem sl_50_113 : pm_50.2.2.2.2.2 113 = some (.if_icmp .lt 13, 3, 0, 0, 0) := rfl
theorem sl_50_116 : pm_50.2.2.2.2.2 116 = some (.aload_n 0, 1, 0, 0, 0) := rfl
theorem sl_50_117 : pm_50.2.2.2.2.2 117 = some (.sipush 258, 3, 0, 0, 0) := rfl
theorem sl_50_120 : pm_50.2.2.2.2.2 120 = some (.putfield 105, 3, 11, 9, 0) := rfl
theorem sl_50_123 : pm_50.2.2.2.2.2 123 = some (.goto 132, 3, 0, 0, 0) := rfl
theorem sl_50_255 : pm_50.2.2.2.2.2 255 = some (.aload_n 0, 1, 0, 0, 0) := rfl
theorem sl_50_256 : pm_50.2.2.2.2.2 256 = some (.getfield 105, 3, 11, 9, 0) := rfl
theorem sl_50_259 : pm_50.2.2.2.2.2 259 = some (.iconst (-1), 1, 0, 0, 0) := rfl
theorem sl_50_260 : pm_50.2.2.2.2.2 260 = some (.if_icmp .ne 12, 3, 0, 0, 0) := rfl
theorem sl_50_272 : pm_50.2.2.2.2.2 272 = some (.return_, 1, 0, 0, 0) := rfl
theorem sl_76_0 : pm_76.2.2.2.2.2 0 = some (.aload_n 0, 1, 0, 0, 0) := rfl
theorem sl_76_1 : pm_76.2.2.2.2.2 1 = some (.aload_n 0, 1, 0, 0, 0) := rfl
theorem sl_76_2 : pm_76.2.2.2.2.2 2 = some (.getfield 59, 3, 11, 16, 0) := rfl
theorem sl_76_5 : pm_76.2.2.2.2.2 5 = some (.ifCond .eq 7, 3, 0, 0, 0) := rfl
theorem sl_76_12 : pm_76.2.2.2.2.2 12 = some (.iconst 1, 1, 0, 0, 0) := rfl
theorem sl_76_13 : pm_76.2.2.2.2.2 13 = some (.putfield 56, 3, 11, 14, 0) := rfl
theorem sl_76_16 : pm_76.2.2.2.2.2 16 = some (.aload_n 0, 1, 0, 0, 0) := rfl
theorem sl_76_17 : pm_76.2.2.2.2.2 17 = some (.aload_n 0, 1, 0, 0, 0) := rfl
theorem sl_76_18 : pm_76.2.2.2.2.2 18 = some (.getfield 90, 3, 11, 10, 0) := rfl
theorem sl_76_21 : pm_76.2.2.2.2.2 21 = some (.putfield 28, 3, 11, 15, 0) := rfl
theorem sl_76_24 : pm_76.2.2.2.2.2 24 = some (.new 93, 3, 0, 2, 1) := rfl
theorem sl_78_0 : pm_78.2.2.2.2.2 0 = some (.aload_n 0, 1, 0, 0, 0) := rfl
theorem sl_78_1 : pm_78.2.2.2.2.2 1 = some (.getfield 105, 3, 11, 9, 0) := rfl
theorem sl_78_4 : pm_78.2.2.2.2.2 4 = some (.iload_n 1, 1, 0, 0, 0) := rfl
theorem sl_78_5 : pm_78.2.2.2.2.2 5 = some (.if_icmp .eq 7, 3, 0, 0, 0) := rfl
theorem sl_78_8 : pm_78.2.2.2.2.2 8 = some (.aload_n 0, 1, 0, 0, 0) := rfl
theorem sl_78_9 : pm_78.2.2.2.2.2 9 = some (.invokevirtual 138, 3, 76, 0, 0) := rfl
theorem sl_136_0 : pm_136.2.2.2.2.2 0 = some (.aload_n 0, 1, 0, 0, 0) := rfl
theorem sl_136_1 : pm_136.2.2.2.2.2 1 = some (.getfield 18, 3, 7, 0, 0) := rfl
theorem sl_136_4 : pm_136.2.2.2.2.2 4 = some (.sipush 319, 3, 0, 0, 0) := rfl
theorem sl_136_7 : pm_136.2.2.2.2.2 7 = some (.invokevirtual 68, 3, 78, 1, 0) := rfl
theorem sl_148_0 : pm_148.2.2.2.2.2 0 = some (.aload 4, 2, 0, 0, 0) := rfl
theorem sl_148_2 : pm_148.2.2.2.2.2 2 = some (.iconst 0, 1, 0, 0, 0) := rfl
theorem sl_148_3 : pm_148.2.2.2.2.2 3 = some (.aload_n 0, 1, 0, 0, 0) := rfl
theorem sl_148_4 : pm_148.2.2.2.2.2 4 = some (.iload_n 1, 1, 0, 0, 0) := rfl
theorem sl_148_5 : pm_148.2.2.2.2.2 5 = some (.iload_n 2, 1, 0, 0, 0) := rfl
theorem sl_148_6 : pm_148.2.2.2.2.2 6 = some (.iload_n 3, 1, 0, 0, 0) := rfl
theorem sl_148_7 : pm_148.2.2.2.2.2 7 = some (.invokevirtual 15, 3, 149, 3, 0) := rfl
theorem sl_148_15 : pm_148.2.2.2.2.2 15 = some (.astore 5, 2, 0, 0, 0) := rfl
theorem sl_148_17 : pm_148.2.2.2.2.2 17 = some (.iconst 1, 1, 0, 0, 0) := rfl
theorem sl_148_18 : pm_148.2.2.2.2.2 18 = some (.ireturn, 1, 0, 0, 0) := rfl
theorem sl_149_0 : pm_149.2.2.2.2.2 0 = some (.aload_n 0, 1, 0, 0, 0) := rfl
theorem sl_149_1 : pm_149.2.2.2.2.2 1 = some (.getfield 74, 3, 0, 10, 0) := rfl
theorem sl_149_4 : pm_149.2.2.2.2.2 4 = some (.ifCond .eq 16, 3, 0, 0, 0) := rfl
theorem sl_149_20 : pm_149.2.2.2.2.2 20 = some (.new 184, 3, 1, 2, 1) := rfl
theorem sl_161_0 : pm_161.2.2.2.2.2 0 = some (.aload_n 2, 1, 0, 0, 0) := rfl
theorem sl_161_1 : pm_161.2.2.2.2.2 1 = some (.iconst 0, 1, 0, 0, 0) := rfl
theorem sl_161_2 : pm_161.2.2.2.2.2 2 = some (.aload_n 0, 1, 0, 0, 0) := rfl
theorem sl_161_3 : pm_161.2.2.2.2.2 3 = some (.iload_n 1, 1, 0, 0, 0) := rfl
theorem sl_161_4 : pm_161.2.2.2.2.2 4 = some (.invokevirtual 23, 3, 162, 1, 0) := rfl
theorem sl_161_12 : pm_161.2.2.2.2.2 12 = some (.astore_n 3, 1, 0, 0, 0) := rfl
theorem sl_161_13 : pm_161.2.2.2.2.2 13 = some (.iconst 1, 1, 0, 0, 0) := rfl
theorem sl_161_14 : pm_161.2.2.2.2.2 14 = some (.ireturn, 1, 0, 0, 0) := rfl
theorem sl_162_0 : pm_162.2.2.2.2.2 0 = some (.aload_n 0, 1, 0, 0, 0) := rfl
theorem sl_162_1 : pm_162.2.2.2.2.2 1 = some (.invokevirtual 213, 3, 33, 0, 0) := rfl
theorem sl_162_4 : pm_162.2.2.2.2.2 4 = some (.ifCond .eq 15, 3, 0, 0, 0) := rfl
theorem sl_162_19 : pm_162.2.2.2.2.2 19 = some (.new 184, 3, 1, 2, 1) := rfl
theorem sl_166_0 : pm_166.2.2.2.2.2 0 = some (.aload_n 0, 1, 0, 0, 0) := rfl
theorem sl_166_1 : pm_166.2.2.2.2.2 1 = some (.iload_n 1, 1, 0, 0, 0) := rfl
theorem sl_166_2 : pm_166.2.2.2.2.2 2 = some (.lload_n 2, 1, 0, 0, 0) := rfl
theorem sl_166_3 : pm_166.2.2.2.2.2 3 = some (.lload 4, 2, 0, 0, 0) := rfl
theorem sl_166_5 : pm_166.2.2.2.2.2 5 = some (.invokevirtual 27, 3, 167, 3, 0) := rfl
theorem sl_166_8 : pm_166.2.2.2.2.2 8 = some (.goto 7, 3, 0, 0, 0) := rfl
theorem sl_166_11 : pm_166.2.2.2.2.2 11 = some (.astore 6, 2, 0, 0, 0) := rfl
theorem sl_166_13 : pm_166.2.2.2.2.2 13 = some (.iconst 1, 1, 0, 0, 0) := rfl
theorem sl_166_14 : pm_166.2.2.2.2.2 14 = some (.ireturn, 1, 0, 0, 0) := rfl
theorem sl_166_15 : pm_166.2.2.2.2.2 15 = some (.iconst 0, 1, 0, 0, 0) := rfl
theorem sl_166_16 : pm_166.2.2.2.2.2 16 = some (.ireturn, 1, 0, 0, 0) := rfl
theorem sl_167_0 : pm_167.2.2.2.2.2 0 = some (.iload_n 1, 1, 0, 0, 0) := rfl
theorem sl_167_1 : pm_167.2.2.2.2.2 1 = some (.ifCond .lt 8, 3, 0, 0, 0) := rfl
theorem sl_167_4 : pm_167.2.2.2.2.2 4 = some (.iload_n 1, 1, 0, 0, 0) := rfl
theorem sl_167_5 : pm_167.2.2.2.2.2 5 = some (.iconst 4, 1, 0, 0, 0) := rfl
theorem sl_167_6 : pm_167.2.2.2.2.2 6 = some (.if_icmp .lt 13, 3, 0, 0, 0) := rfl
theorem sl_167_9 : pm_167.2.2.2.2.2 9 = some (.new 200, 3, 2, 2, 1) := rfl
theorem sl_167_19 : pm_167.2.2.2.2.2 19 = some (.aload_n 0, 1, 0, 0, 0) := rfl
theorem sl_167_20 : pm_167.2.2.2.2.2 20 = some (.getfield 17, 3, 0, 3, 0) := rfl
theorem sl_167_23 : pm_167.2.2.2.2.2 23 = some (.iload_n 1, 1, 0, 0, 0) := rfl
theorem sl_167_24 : pm_167.2.2.2.2.2 24 = some (.lload_n 2, 1, 0, 0, 0) := rfl
theorem sl_167_25 : pm_167.2.2.2.2.2 25 = some (.lastore, 1, 0, 0, 0) := rfl
theorem sl_167_26 : pm_167.2.2.2.2.2 26 = some (.aload_n 0, 1, 0, 0, 0) := rfl
theorem sl_167_27 : pm_167.2.2.2.2.2 27 = some (.getfield 21, 3, 0, 4, 0) := rfl
theorem sl_167_30 : pm_167.2.2.2.2.2 30 = some (.iload_n 1, 1, 0, 0, 0) := rfl
theorem sl_167_31 : pm_167.2.2.2.2.2 31 = some (.lload 4, 2, 0, 0, 0) := rfl
theorem sl_167_33 : pm_167.2.2.2.2.2 33 = some (.lastore, 1, 0, 0, 0) := rfl
theorem sl_167_34 : pm_167.2.2.2.2.2 34 = some (.return_, 1, 0, 0, 0) := rfl
theorem sl_168_0 : pm_168.2.2.2.2.2 0 = some (.aload_n 0, 1, 0, 0, 0) := rfl
theorem sl_168_1 : pm_168.2.2.2.2.2 1 = some (.iload_n 1, 1, 0, 0, 0) := rfl
theorem sl_168_2 : pm_168.2.2.2.2.2 2 = some (.lload_n 2, 1, 0, 0, 0) := rfl
theorem sl_168_3 : pm_168.2.2.2.2.2 3 = some (.invokevirtual 31, 3, 169, 2, 0) := rfl
theorem sl_168_6 : pm_168.2.2.2.2.2 6 = some (.goto 7, 3, 0, 0, 0) := rfl
theorem sl_168_9 : pm_168.2.2.2.2.2 9 = some (.astore 4, 2, 0, 0, 0) := rfl
theorem sl_168_11 : pm_168.2.2.2.2.2 11 = some (.iconst 1, 1, 0, 0, 0) := rfl
theorem sl_168_12 : pm_168.2.2.2.2.2 12 = some (.ireturn, 1, 0, 0, 0) := rfl
theorem sl_168_13 : pm_168.2.2.2.2.2 13 = some (.iconst 0, 1, 0, 0, 0) := rfl
theorem sl_168_14 : pm_168.2.2.2.2.2 14 = some (.ireturn, 1, 0, 0, 0) := rfl
theorem sl_169_0 : pm_169.2.2.2.2.2 0 = some (.iload_n 1, 1, 0, 0, 0) := rfl
theorem sl_169_1 : pm_169.2.2.2.2.2 1 = some (.ifCond .lt 8, 3, 0, 0, 0) := rfl
theorem sl_169_4 : pm_169.2.2.2.2.2 4 = some (.iload_n 1, 1, 0, 0, 0) := rfl
theorem sl_169_5 : pm_169.2.2.2.2.2 5 = some (.iconst 4, 1, 0, 0, 0) := rfl
theorem sl_169_6 : pm_169.2.2.2.2.2 6 = some (.if_icmp .lt 13, 3, 0, 0, 0) := rfl
theorem sl_169_9 : pm_169.2.2.2.2.2 9 = some (.new 200, 3, 2, 2, 1) := rfl
theorem sl_169_19 : pm_169.2.2.2.2.2 19 = some (.aload_n 0, 1, 0, 0, 0) := rfl
theorem sl_169_20 : pm_169.2.2.2.2.2 20 = some (.getfield 24, 3, 0, 5, 0) := rfl
theorem sl_169_23 : pm_169.2.2.2.2.2 23 = some (.iload_n 1, 1, 0, 0, 0) := rfl
theorem sl_169_24 : pm_169.2.2.2.2.2 24 = some (.lload_n 2, 1, 0, 0, 0) := rfl
theorem sl_169_25 : pm_169.2.2.2.2.2 25 = some (.lastore, 1, 0, 0, 0) := rfl
theorem sl_169_26 : pm_169.2.2.2.2.2 26 = some (.return_, 1, 0, 0, 0) := rfl
theorem sl_170_0 : pm_170.2.2.2.2.2 0 = some (.aload 5, 2, 0, 0, 0) := rfl
theorem sl_170_2 : pm_170.2.2.2.2.2 2 = some (.iconst 0, 1, 0, 0, 0) := rfl
theorem sl_170_3 : pm_170.2.2.2.2.2 3 = some (.aload_n 0, 1, 0, 0, 0) := rfl
theorem sl_170_4 : pm_170.2.2.2.2.2 4 = some (.iload_n 1, 1, 0, 0, 0) := rfl
theorem sl_170_5 : pm_170.2.2.2.2.2 5 = some (.iload_n 2, 1, 0, 0, 0) := rfl
theorem sl_170_6 : pm_170.2.2.2.2.2 6 = some (.iload_n 3, 1, 0, 0, 0) := rfl
theorem sl_170_7 : pm_170.2.2.2.2.2 7 = some (.iload 4, 2, 0, 0, 0) := rfl
theorem sl_170_9 : pm_170.2.2.2.2.2 9 = some (.invokevirtual 35, 3, 171, 4, 0) := rfl
theorem sl_170_17 : pm_170.2.2.2.2.2 17 = some (.astore 6, 2, 0, 0, 0) := rfl
theorem sl_170_19 : pm_170.2.2.2.2.2 19 = some (.iconst 1, 1, 0, 0, 0) := rfl
theorem sl_170_20 : pm_170.2.2.2.2.2 20 = some (.ireturn, 1, 0, 0, 0) := rfl
theorem sl_171_0 : pm_171.2.2.2.2.2 0 = some (.iload_n 1, 1, 0, 0, 0) := rfl
theorem sl_171_1 : pm_171.2.2.2.2.2 1 = some (.ifCond .lt 16, 3, 0, 0, 0) := rfl
theorem sl_171_4 : pm_171.2.2.2.2.2 4 = some (.iload_n 1, 1, 0, 0, 0) := rfl
theorem sl_171_5 : pm_171.2.2.2.2.2 5 = some (.iconst 2, 1, 0, 0, 0) := rfl
theorem sl_171_6 : pm_171.2.2.2.2.2 6 = some (.if_icmp .gt 11, 3, 0, 0, 0) := rfl
theorem sl_171_9 : pm_171.2.2.2.2.2 9 = some (.aload_n 0, 1, 0, 0, 0) := rfl
theorem sl_171_10 : pm_171.2.2.2.2.2 10 = some (.iload_n 2, 1, 0, 0, 0) := rfl
theorem sl_171_11 : pm_171.2.2.2.2.2 11 = some (.invokevirtual 250, 3, 172, 1, 0) := rfl
theorem sl_171_14 : pm_171.2.2.2.2.2 14 = some (.ifCond .ne 13, 3, 0, 0, 0) := rfl
theorem sl_171_17 : pm_171.2.2.2.2.2 17 = some (.new 200, 3, 2, 2, 1) := rfl
theorem sl_172_0 : pm_172.2.2.2.2.2 0 = some (.aload_n 0, 1, 0, 0, 0) := rfl
theorem sl_172_1 : pm_172.2.2.2.2.2 1 = some (.getfield 74, 3, 0, 10, 0) := rfl
theorem sl_172_4 : pm_172.2.2.2.2.2 4 = some (.ifCond .eq 22, 3, 0, 0, 0) := rfl
theorem sl_172_26 : pm_172.2.2.2.2.2 26 = some (.iconst 0, 1, 0, 0, 0) := rfl
theorem sl_172_27 : pm_172.2.2.2.2.2 27 = some (.ireturn, 1, 0, 0, 0) := rfl
theorem sl_175_0 : pm_175.2.2.2.2.2 0 = some (.aload_n 2, 1, 0, 0, 0) := rfl
theorem sl_175_1 : pm_175.2.2.2.2.2 1 = some (.iconst 0, 1, 0, 0, 0) := rfl
theorem sl_175_2 : pm_175.2.2.2.2.2 2 = some (.aload_n 0, 1, 0, 0, 0) := rfl
theorem sl_175_3 : pm_175.2.2.2.2.2 3 = some (.iload_n 1, 1, 0, 0, 0) := rfl
theorem sl_175_4 : pm_175.2.2.2.2.2 4 = some (.invokevirtual 39, 3, 176, 1, 0) := rfl
theorem sl_175_12 : pm_175.2.2.2.2.2 12 = some (.astore_n 3, 1, 0, 0, 0) := rfl
theorem sl_175_13 : pm_175.2.2.2.2.2 13 = some (.iconst 1, 1, 0, 0, 0) := rfl
theorem sl_175_14 : pm_175.2.2.2.2.2 14 = some (.ireturn, 1, 0, 0, 0) := rfl
theorem sl_176_0 : pm_176.2.2.2.2.2 0 = some (.aload_n 0, 1, 0, 0, 0) := rfl
theorem sl_176_1 : pm_176.2.2.2.2.2 1 = some (.invokevirtual 213, 3, 33, 0, 0) := rfl
theorem sl_176_4 : pm_176.2.2.2.2.2 4 = some (.ifCond .ne 14, 3, 0, 0, 0) := rfl
theorem sl_176_7 : pm_176.2.2.2.2.2 7 = some (.new 184, 3, 1, 3, 1) := rfl
theorem sl_202_0 : pm_202.2.2.2.2.2 0 = some (.aload_n 3, 1, 0, 0, 0) := rfl
theorem sl_202_1 : pm_202.2.2.2.2.2 1 = some (.iconst 0, 1, 0, 0, 0) := rfl
theorem sl_202_2 : pm_202.2.2.2.2.2 2 = some (.aload_n 0, 1, 0, 0, 0) := rfl
theorem sl_202_3 : pm_202.2.2.2.2.2 3 = some (.iload_n 1, 1, 0, 0, 0) := rfl
theorem sl_202_4 : pm_202.2.2.2.2.2 4 = some (.iload_n 2, 1, 0, 0, 0) := rfl
theorem sl_202_5 : pm_202.2.2.2.2.2 5 = some (.invokevirtual 42, 3, 203, 2, 0) := rfl
theorem sl_202_8 : pm_202.2.2.2.2.2 8 = some (.lastore, 1, 0, 0, 0) := rfl
theorem sl_202_9 : pm_202.2.2.2.2.2 9 = some (.goto 7, 3, 0, 0, 0) := rfl
theorem sl_202_16 : pm_202.2.2.2.2.2 16 = some (.iconst 0, 1, 0, 0, 0) := rfl
theorem sl_202_17 : pm_202.2.2.2.2.2 17 = some (.ireturn, 1, 0, 0, 0) := rfl
theorem sl_203_0 : pm_203.2.2.2.2.2 0 = some (.aload_n 0, 1, 0, 0, 0) := rfl
theorem sl_203_1 : pm_203.2.2.2.2.2 1 = some (.getfield 57, 3, 0, 9, 0) := rfl
theorem sl_203_4 : pm_203.2.2.2.2.2 4 = some (.invokevirtual 300, 3, 41, 0, 0) := rfl
theorem sl_203_7 : pm_203.2.2.2.2.2 7 = some (.ifCond .le 14, 3, 0, 0, 0) := rfl
theorem sl_203_21 : pm_203.2.2.2.2.2 21 = some (.aload_n 0, 1, 0, 0, 0) := rfl
theorem sl_203_22 : pm_203.2.2.2.2.2 22 = some (.invokevirtual 213, 3, 33, 0, 0) := rfl
theorem sl_203_25 : pm_203.2.2.2.2.2 25 = some (.ifCond .eq 35, 3, 0, 0, 0) := rfl
theorem sl_203_60 : pm_203.2.2.2.2.2 60 = some (.lconst 0, 1, 0, 0, 0) := rfl
theorem sl_203_61 : pm_203.2.2.2.2.2 61 = some (.lreturn, 1, 0, 0, 0) := rfl
theorem sl_204_0 : pm_204.2.2.2.2.2 0 = some (.aload_n 3, 1, 0, 0, 0) := rfl
theorem sl_204_1 : pm_204.2.2.2.2.2 1 = some (.iconst 0, 1, 0, 0, 0) := rfl
theorem sl_204_2 : pm_204.2.2.2.2.2 2 = some (.aload_n 0, 1, 0, 0, 0) := rfl
theorem sl_204_3 : pm_204.2.2.2.2.2 3 = some (.iload_n 1, 1, 0, 0, 0) := rfl
theorem sl_204_4 : pm_204.2.2.2.2.2 4 = some (.iload_n 2, 1, 0, 0, 0) := rfl
theorem sl_204_5 : pm_204.2.2.2.2.2 5 = some (.invokevirtual 46, 3, 205, 2, 0) := rfl
theorem sl_204_8 : pm_204.2.2.2.2.2 8 = some (.i2l, 1, 0, 0, 0) := rfl
theorem sl_204_9 : pm_204.2.2.2.2.2 9 = some (.lastore, 1, 0, 0, 0) := rfl
theorem sl_204_10 : pm_204.2.2.2.2.2 10 = some (.goto 7, 3, 0, 0, 0) := rfl
theorem sl_204_17 : pm_204.2.2.2.2.2 17 = some (.iconst 0, 1, 0, 0, 0) := rfl
theorem sl_204_18 : pm_204.2.2.2.2.2 18 = some (.ireturn, 1, 0, 0, 0) := rfl
theorem sl_205_0 : pm_205.2.2.2.2.2 0 = some (.aload_n 0, 1, 0, 0, 0) := rfl
theorem sl_205_1 : pm_205.2.2.2.2.2 1 = some (.getfield 57, 3, 0, 9, 0) := rfl
theorem sl_205_4 : pm_205.2.2.2.2.2 4 = some (.invokevirtual 300, 3, 41, 0, 0) := rfl
theorem sl_205_7 : pm_205.2.2.2.2.2 7 = some (.ifCond .le 14, 3, 0, 0, 0) := rfl
theorem sl_205_21 : pm_205.2.2.2.2.2 21 = some (.aload_n 0, 1, 0, 0, 0) := rfl
theorem sl_205_22 : pm_205.2.2.2.2.2 22 = some (.iload_n 1, 1, 0, 0, 0) := rfl
theorem sl_205_23 : pm_205.2.2.2.2.2 23 = some (.invokevirtual 250, 3, 172, 1, 0) := rfl
theorem sl_205_26 : pm_205.2.2.2.2.2 26 = some (.ifCond .ne 5, 3, 0, 0, 0) := rfl
theorem sl_205_29 : pm_205.2.2.2.2.2 29 = some (.iconst (-1), 1, 0, 0, 0) := rfl
theorem sl_205_30 : pm_205.2.2.2.2.2 30 = some (.ireturn, 1, 0, 0, 0) := rfl
theorem sl_206_0 : pm_206.2.2.2.2.2 0 = some (.aload_n 0, 1, 0, 0, 0) := rfl
theorem sl_206_1 : pm_206.2.2.2.2.2 1 = some (.invokespecial 1, 3, 0, 0, 6) := rfl
theorem sl_206_4 : pm_206.2.2.2.2.2 4 = some (.aload_n 0, 1, 0, 0, 0) := rfl
theorem sl_206_5 : pm_206.2.2.2.2.2 5 = some (.sipush 178, 3, 0, 0, 0) := rfl
theorem sl_206_8 : pm_206.2.2.2.2.2 8 = some (.newarray .int, 2, 0, 0, 0) := rfl
theorem sl_206_10 : pm_206.2.2.2.2.2 10 = some (.dup, 1, 0, 0, 0) := rfl
theorem sl_206_11 : pm_206.2.2.2.2.2 11 = some (.iconst 0, 1, 0, 0, 0) := rfl
theorem sl_206_12 : pm_206.2.2.2.2.2 12 = some (.bipush 104, 2, 0, 0, 0) := rfl
theorem sl_206_14 : pm_206.2.2.2.2.2 14 = some (.iastore, 1, 0, 0, 0) := rfl
theorem sl_206_15 : pm_206.2.2.2.2.2 15 = some (.dup, 1, 0, 0, 0) := rfl
theorem sl_206_16 : pm_206.2.2.2.2.2 16 = some (.iconst 1, 1, 0, 0, 0) := rfl
theorem sl_206_17 : pm_206.2.2.2.2.2 17 = some (.bipush 101, 2, 0, 0, 0) := rfl
theorem sl_206_19 : pm_206.2.2.2.2.2 19 = some (.iastore, 1, 0, 0, 0) := rfl
theorem sl_206_20 : pm_206.2.2.2.2.2 20 = some (.dup, 1, 0, 0, 0) := rfl
theorem sl_206_21 : pm_206.2.2.2.2.2 21 = some (.iconst 2, 1, 0, 0, 0) := rfl
theorem sl_206_22 : pm_206.2.2.2.2.2 22 = some (.bipush 97, 2, 0, 0, 0) := rfl
theorem sl_206_24 : pm_206.2.2.2.2.2 24 = some (.iastore, 1, 0, 0, 0) := rfl
theorem sl_206_25 : pm_206.2.2.2.2.2 25 = some (.dup, 1, 0, 0, 0) := rfl
theorem sl_206_26 : pm_206.2.2.2.2.2 26 = some (.iconst 3, 1, 0, 0, 0) := rfl
theorem sl_206_27 : pm_206.2.2.2.2.2 27 = some (.bipush 100, 2, 0, 0, 0) := rfl
theorem sl_206_29 : pm_206.2.2.2.2.2 29 = some (.iastore, 1, 0, 0, 0) := rfl
theorem sl_206_30 : pm_206.2.2.2.2.2 30 = some (.dup, 1, 0, 0, 0) := rfl
theorem sl_206_31 : pm_206.2.2.2.2.2 31 = some (.iconst 4, 1, 0, 0, 0) := rfl
theorem sl_206_32 : pm_206.2.2.2.2.2 32 = some (.bipush 101, 2, 0, 0, 0) := rfl
theorem sl_206_34 : pm_206.2.2.2.2.2 34 = some (.iastore, 1, 0, 0, 0) := rfl
theorem sl_206_35 : pm_206.2.2.2.2.2 35 = some (.dup, 1, 0, 0, 0) := rfl
theorem sl_206_36 : pm_206.2.2.2.2.2 36 = some (.iconst 5, 1, 0, 0, 0) := rfl
theorem sl_206_37 : pm_206.2.2.2.2.2 37 = some (.bipush 114, 2, 0, 0, 0) := rfl
theorem sl_206_39 : pm_206.2.2.2.2.2 39 = some (.iastore, 1, 0, 0, 0) := rfl
theorem sl_206_40 : pm_206.2.2.2.2.2 40 = some (.dup, 1, 0, 0, 0) := rfl
theorem sl_206_41 : pm_206.2.2.2.2.2 41 = some (.bipush 6, 2, 0, 0, 0) := rfl
theorem sl_206_43 : pm_206.2.2.2.2.2 43 = some (.iconst 0, 1, 0, 0, 0) := rfl
theorem sl_206_44 : pm_206.2.2.2.2.2 44 = some (.iastore, 1, 0, 0, 0) := rfl
theorem sl_206_45 : pm_206.2.2.2.2.2 45 = some (.dup, 1, 0, 0, 0) := rfl
theorem sl_206_46 : pm_206.2.2.2.2.2 46 = some (.bipush 7, 2, 0, 0, 0) := rfl
theorem sl_206_48 : pm_206.2.2.2.2.2 48 = some (.bipush 117, 2, 0, 0, 0) := rfl
theorem sl_206_50 : pm_206.2.2.2.2.2 50 = some (.iastore, 1, 0, 0, 0) := rfl
theorem sl_206_51 : pm_206.2.2.2.2.2 51 = some (.dup, 1, 0, 0, 0) := rfl
theorem sl_206_52 : pm_206.2.2.2.2.2 52 = some (.bipush 8, 2, 0, 0, 0) := rfl
theorem sl_206_54 : pm_206.2.2.2.2.2 54 = some (.bipush 115, 2, 0, 0, 0) := rfl
theorem sl_206_56 : pm_206.2.2.2.2.2 56 = some (.iastore, 1, 0, 0, 0) := rfl
theorem sl_206_57 : pm_206.2.2.2.2.2 57 = some (.dup, 1, 0, 0, 0) := rfl
theorem sl_206_58 : pm_206.2.2.2.2.2 58 = some (.bipush 9, 2, 0, 0, 0) := rfl
theorem sl_206_60 : pm_206.2.2.2.2.2 60 = some (.bipush 101, 2, 0, 0, 0) := rfl
theorem sl_206_62 : pm_206.2.2.2.2.2 62 = some (.iastore, 1, 0, 0, 0) := rfl
theorem sl_206_63 : pm_206.2.2.2.2.2 63 = some (.dup, 1, 0, 0, 0) := rfl
theorem sl_206_64 : pm_206.2.2.2.2.2 64 = some (.bipush 10, 2, 0, 0, 0) := rfl
theorem sl_206_66 : pm_206.2.2.2.2.2 66 = some (.iconst 0, 1, 0, 0, 0) := rfl
theorem sl_206_67 : pm_206.2.2.2.2.2 67 = some (.iastore, 1, 0, 0, 0) := rfl
theorem sl_206_68 : pm_206.2.2.2.2.2 68 = some (.dup, 1, 0, 0, 0) := rfl
theorem sl_206_69 : pm_206.2.2.2.2.2 69 = some (.bipush 11, 2, 0, 0, 0) := rfl
theorem sl_206_71 : pm_206.2.2.2.2.2 71 = some (.bipush 109, 2, 0, 0, 0) := rfl
theorem sl_206_73 : pm_206.2.2.2.2.2 73 = some (.iastore, 1, 0, 0, 0) := rfl
theorem sl_206_74 : pm_206.2.2.2.2.2 74 = some (.dup, 1, 0, 0, 0) := rfl
theorem sl_206_75 : pm_206.2.2.2.2.2 75 = some (.bipush 12, 2, 0, 0, 0) := rfl
theorem sl_206_77 : pm_206.2.2.2.2.2 77 = some (.bipush 101, 2, 0, 0, 0) := rfl
theorem sl_206_79 : pm_206.2.2.2.2.2 79 = some (.iastore, 1, 0, 0, 0) := rfl
theorem sl_206_80 : pm_206.2.2.2.2.2 80 = some (.dup, 1, 0, 0, 0) := rfl
theorem sl_206_81 : pm_206.2.2.2.2.2 81 = some (.bipush 13, 2, 0, 0, 0) := rfl
theorem sl_206_83 : pm_206.2.2.2.2.2 83 = some (.bipush 116, 2, 0, 0, 0) := rfl
theorem sl_206_85 : pm_206.2.2.2.2.2 85 = some (.iastore, 1, 0, 0, 0) := rfl
theorem sl_206_86 : pm_206.2.2.2.2.2 86 = some (.dup, 1, 0, 0, 0) := rfl
theorem sl_206_87 : pm_206.2.2.2.2.2 87 = some (.bipush 14, 2, 0, 0, 0) := rfl
theorem sl_206_89 : pm_206.2.2.2.2.2 89 = some (.bipush 97, 2, 0, 0, 0) := rfl
theorem sl_206_91 : pm_206.2.2.2.2.2 91 = some (.iastore, 1, 0, 0, 0) := rfl
theorem sl_206_92 : pm_206.2.2.2.2.2 92 = some (.dup, 1, 0, 0, 0) := rfl
theorem sl_206_93 : pm_206.2.2.2.2.2 93 = some (.bipush 15, 2, 0, 0, 0) := rfl
theorem sl_206_95 : pm_206.2.2.2.2.2 95 = some (.iconst 0, 1, 0, 0, 0) := rfl
theorem sl_206_96 : pm_206.2.2.2.2.2 96 = some (.iastore, 1, 0, 0, 0) := rfl
theorem sl_206_97 : pm_206.2.2.2.2.2 97 = some (.dup, 1, 0, 0, 0) := rfl
theorem sl_206_98 : pm_206.2.2.2.2.2 98 = some (.bipush 16, 2, 0, 0, 0) := rfl
theorem sl_206_100 : pm_206.2.2.2.2.2 100 = some (.bipush 97, 2, 0, 0, 0) := rfl
theorem sl_206_102 : pm_206.2.2.2.2.2 102 = some (.iastore, 1, 0, 0, 0) := rfl
theorem sl_206_103 : pm_206.2.2.2.2.2 103 = some (.dup, 1, 0, 0, 0) := rfl
theorem sl_206_104 : pm_206.2.2.2.2.2 104 = some (.bipush 17, 2, 0, 0, 0) := rfl
theorem sl_206_106 : pm_206.2.2.2.2.2 106 = some (.bipush 114, 2, 0, 0, 0) := rfl
theorem sl_206_108 : pm_206.2.2.2.2.2 108 = some (.iastore, 1, 0, 0, 0) := rfl
theorem sl_206_109 : pm_206.2.2.2.2.2 109 = some (.dup, 1, 0, 0, 0) := rfl
theorem sl_206_110 : pm_206.2.2.2.2.2 110 = some (.bipush 18, 2, 0, 0, 0) := rfl
theorem sl_206_112 : pm_206.2.2.2.2.2 112 = some (.bipush 114, 2, 0, 0, 0) := rfl
theorem sl_206_114 : pm_206.2.2.2.2.2 114 = some (.iastore, 1, 0, 0, 0) := rfl
theorem sl_206_115 : pm_206.2.2.2.2.2 115 = some (.dup, 1, 0, 0, 0) := rfl
theorem sl_206_116 : pm_206.2.2.2.2.2 116 = some (.bipush 19, 2, 0, 0, 0) := rfl
theorem sl_206_118 : pm_206.2.2.2.2.2 118 = some (.bipush 97, 2, 0, 0, 0) := rfl
theorem sl_206_120 : pm_206.2.2.2.2.2 120 = some (.iastore, 1, 0, 0, 0) := rfl
theorem sl_206_121 : pm_206.2.2.2.2.2 121 = some (.dup, 1, 0, 0, 0) := rfl
theorem sl_206_122 : pm_206.2.2.2.2.2 122 = some (.bipush 20, 2, 0, 0, 0) := rfl
theorem sl_206_124 : pm_206.2.2.2.2.2 124 = some (.bipush 121, 2, 0, 0, 0) := rfl
theorem sl_206_126 : pm_206.2.2.2.2.2 126 = some (.iastore, 1, 0, 0, 0) := rfl
theorem sl_206_127 : pm_206.2.2.2.2.2 127 = some (.dup, 1, 0, 0, 0) := rfl
theorem sl_206_128 : pm_206.2.2.2.2.2 128 = some (.bipush 21, 2, 0, 0, 0) := rfl
theorem sl_206_130 : pm_206.2.2.2.2.2 130 = some (.iconst 0, 1, 0, 0, 0) := rfl
theorem sl_206_131 : pm_206.2.2.2.2.2 131 = some (.iastore, 1, 0, 0, 0) := rfl
theorem sl_206_132 : pm_206.2.2.2.2.2 132 = some (.dup, 1, 0, 0, 0) := rfl
theorem sl_206_133 : pm_206.2.2.2.2.2 133 = some (.bipush 22, 2, 0, 0, 0) := rfl
theorem sl_206_135 : pm_206.2.2.2.2.2 135 = some (.bipush 115, 2, 0, 0, 0) := rfl
theorem sl_206_137 : pm_206.2.2.2.2.2 137 = some (.iastore, 1, 0, 0, 0) := rfl
theorem sl_206_138 : pm_206.2.2.2.2.2 138 = some (.dup, 1, 0, 0, 0) := rfl
theorem sl_206_139 : pm_206.2.2.2.2.2 139 = some (.bipush 23, 2, 0, 0, 0) := rfl
theorem sl_206_141 : pm_206.2.2.2.2.2 141 = some (.bipush 116, 2, 0, 0, 0) := rfl
theorem sl_206_143 : pm_206.2.2.2.2.2 143 = some (.iastore, 1, 0, 0, 0) := rfl
theorem sl_206_144 : pm_206.2.2.2.2.2 144 = some (.dup, 1, 0, 0, 0) := rfl
theorem sl_206_145 : pm_206.2.2.2.2.2 145 = some (.bipush 24, 2, 0, 0, 0) := rfl
theorem sl_206_147 : pm_206.2.2.2.2.2 147 = some (.bipush 97, 2, 0, 0, 0) := rfl
theorem sl_206_149 : pm_206.2.2.2.2.2 149 = some (.iastore, 1, 0, 0, 0) := rfl
theorem sl_206_150 : pm_206.2.2.2.2.2 150 = some (.dup, 1, 0, 0, 0) := rfl
theorem sl_206_151 : pm_206.2.2.2.2.2 151 = some (.bipush 25, 2, 0, 0, 0) := rfl
theorem sl_206_153 : pm_206.2.2.2.2.2 153 = some (.bipush 116, 2, 0, 0, 0) := rfl
theorem sl_206_155 : pm_206.2.2.2.2.2 155 = some (.iastore, 1, 0, 0, 0) := rfl
theorem sl_206_156 : pm_206.2.2.2.2.2 156 = some (.dup, 1, 0, 0, 0) := rfl
theorem sl_206_157 : pm_206.2.2.2.2.2 157 = some (.bipush 26, 2, 0, 0, 0) := rfl
theorem sl_206_159 : pm_206.2.2.2.2.2 159 = some (.bipush 101, 2, 0, 0, 0) := rfl
theorem sl_206_161 : pm_206.2.2.2.2.2 161 = some (.iastore, 1, 0, 0, 0) := rfl
theorem sl_206_162 : pm_206.2.2.2.2.2 162 = some (.dup, 1, 0, 0, 0) := rfl
theorem sl_206_163 : pm_206.2.2.2.2.2 163 = some (.bipush 27, 2, 0, 0, 0) := rfl
theorem sl_206_165 : pm_206.2.2.2.2.2 165 = some (.iconst 0, 1, 0, 0, 0) := rfl
theorem sl_206_166 : pm_206.2.2.2.2.2 166 = some (.iastore, 1, 0, 0, 0) := rfl
theorem sl_206_167 : pm_206.2.2.2.2.2 167 = some (.dup, 1, 0, 0, 0) := rfl
theorem sl_206_168 : pm_206.2.2.2.2.2 168 = some (.bipush 28, 2, 0, 0, 0) := rfl
theorem sl_206_170 : pm_206.2.2.2.2.2 170 = some (.bipush 101, 2, 0, 0, 0) := rfl
theorem sl_206_172 : pm_206.2.2.2.2.2 172 = some (.iastore, 1, 0, 0, 0) := rfl
theorem sl_206_173 : pm_206.2.2.2.2.2 173 = some (.dup, 1, 0, 0, 0) := rfl
theorem sl_206_174 : pm_206.2.2.2.2.2 174 = some (.bipush 29, 2, 0, 0, 0) := rfl
theorem sl_206_176 : pm_206.2.2.2.2.2 176 = some (.bipush 120, 2, 0, 0, 0) := rfl
theorem sl_206_178 : pm_206.2.2.2.2.2 178 = some (.iastore, 1, 0, 0, 0) := rfl
theorem sl_206_179 : pm_206.2.2.2.2.2 179 = some (.dup, 1, 0, 0, 0) := rfl
theorem sl_206_180 : pm_206.2.2.2.2.2 180 = some (.bipush 30, 2, 0, 0, 0) := rfl
theorem sl_206_182 : pm_206.2.2.2.2.2 182 = some (.bipush 116, 2, 0, 0, 0) := rfl
theorem sl_206_184 : pm_206.2.2.2.2.2 184 = some (.iastore, 1, 0, 0, 0) := rfl
theorem sl_206_185 : pm_206.2.2.2.2.2 185 = some (.dup, 1, 0, 0, 0) := rfl
theorem sl_206_186 : pm_206.2.2.2.2.2 186 = some (.bipush 31, 2, 0, 0, 0) := rfl
theorem sl_206_188 : pm_206.2.2.2.2.2 188 = some (.bipush 114, 2, 0, 0, 0) := rfl
theorem sl_206_190 : pm_206.2.2.2.2.2 190 = some (.iastore, 1, 0, 0, 0) := rfl
theorem sl_206_191 : pm_206.2.2.2.2.2 191 = some (.dup, 1, 0, 0, 0) := rfl
theorem sl_206_192 : pm_206.2.2.2.2.2 192 = some (.bipush 32, 2, 0, 0, 0) := rfl
theorem sl_206_194 : pm_206.2.2.2.2.2 194 = some (.bipush 97, 2, 0, 0, 0) := rfl
theorem sl_206_196 : pm_206.2.2.2.2.2 196 = some (.iastore, 1, 0, 0, 0) := rfl
theorem sl_206_197 : pm_206.2.2.2.2.2 197 = some (.dup, 1, 0, 0, 0) := rfl
theorem sl_206_198 : pm_206.2.2.2.2.2 198 = some (.bipush 33, 2, 0, 0, 0) := rfl
theorem sl_206_200 : pm_206.2.2.2.2.2 200 = some (.bipush 99, 2, 0, 0, 0) := rfl
theorem sl_206_202 : pm_206.2.2.2.2.2 202 = some (.iastore, 1, 0, 0, 0) := rfl
theorem sl_206_203 : pm_206.2.2.2.2.2 203 = some (.dup, 1, 0, 0, 0) := rfl
theorem sl_206_204 : pm_206.2.2.2.2.2 204 = some (.bipush 34, 2, 0, 0, 0) := rfl
theorem sl_206_206 : pm_206.2.2.2.2.2 206 = some (.bipush 116, 2, 0, 0, 0) := rfl
theorem sl_206_208 : pm_206.2.2.2.2.2 208 = some (.iastore, 1, 0, 0, 0) := rfl
theorem sl_206_209 : pm_206.2.2.2.2.2 209 = some (.dup, 1, 0, 0, 0) := rfl
theorem sl_206_210 : pm_206.2.2.2.2.2 210 = some (.bipush 35, 2, 0, 0, 0) := rfl
theorem sl_206_212 : pm_206.2.2.2.2.2 212 = some (.iconst 0, 1, 0, 0, 0) := rfl
theorem sl_206_213 : pm_206.2.2.2.2.2 213 = some (.iastore, 1, 0, 0, 0) := rfl
theorem sl_206_214 : pm_206.2.2.2.2.2 214 = some (.dup, 1, 0, 0, 0) := rfl
theorem sl_206_215 : pm_206.2.2.2.2.2 215 = some (.bipush 36, 2, 0, 0, 0) := rfl
theorem sl_206_217 : pm_206.2.2.2.2.2 217 = some (.bipush 103, 2, 0, 0, 0) := rfl
theorem sl_206_219 : pm_206.2.2.2.2.2 219 = some (.iastore, 1, 0, 0, 0) := rfl
theorem sl_206_220 : pm_206.2.2.2.2.2 220 = some (.dup, 1, 0, 0, 0) := rfl
theorem sl_206_221 : pm_206.2.2.2.2.2 221 = some (.bipush 37, 2, 0, 0, 0) := rfl
theorem sl_206_223 : pm_206.2.2.2.2.2 223 = some (.bipush 111, 2, 0, 0, 0) := rfl
theorem sl_206_225 : pm_206.2.2.2.2.2 225 = some (.iastore, 1, 0, 0, 0) := rfl
theorem sl_206_226 : pm_206.2.2.2.2.2 226 = some (.dup, 1, 0, 0, 0) := rfl
theorem sl_206_227 : pm_206.2.2.2.2.2 227 = some (.bipush 38, 2, 0, 0, 0) := rfl
theorem sl_206_229 : pm_206.2.2.2.2.2 229 = some (.bipush 116, 2, 0, 0, 0) := rfl
theorem sl_206_231 : pm_206.2.2.2.2.2 231 = some (.iastore, 1, 0, 0, 0) := rfl
theorem sl_206_232 : pm_206.2.2.2.2.2 232 = some (.dup, 1, 0, 0, 0) := rfl
theorem sl_206_233 : pm_206.2.2.2.2.2 233 = some (.bipush 39, 2, 0, 0, 0) := rfl
theorem sl_206_235 : pm_206.2.2.2.2.2 235 = some (.bipush 111, 2, 0, 0, 0) := rfl
theorem sl_206_237 : pm_206.2.2.2.2.2 237 = some (.iastore, 1, 0, 0, 0) := rfl
theorem sl_206_238 : pm_206.2.2.2.2.2 238 = some (.dup, 1, 0, 0, 0) := rfl
theorem sl_206_239 : pm_206.2.2.2.2.2 239 = some (.bipush 40, 2, 0, 0, 0) := rfl
theorem sl_206_241 : pm_206.2.2.2.2.2 241 = some (.iconst 0, 1, 0, 0, 0) := rfl
theorem sl_206_242 : pm_206.2.2.2.2.2 242 = some (.iastore, 1, 0, 0, 0) := rfl
theorem sl_206_243 : pm_206.2.2.2.2.2 243 = some (.dup, 1, 0, 0, 0) := rfl
theorem sl_206_244 : pm_206.2.2.2.2.2 244 = some (.bipush 41, 2, 0, 0, 0) := rfl
theorem sl_206_246 : pm_206.2.2.2.2.2 246 = some (.bipush 115, 2, 0, 0, 0) := rfl
theorem sl_206_248 : pm_206.2.2.2.2.2 248 = some (.iastore, 1, 0, 0, 0) := rfl
theorem sl_206_249 : pm_206.2.2.2.2.2 249 = some (.dup, 1, 0, 0, 0) := rfl
theorem sl_206_250 : pm_206.2.2.2.2.2 250 = some (.bipush 42, 2, 0, 0, 0) := rfl
theorem sl_206_252 : pm_206.2.2.2.2.2 252 = some (.bipush 101, 2, 0, 0, 0) := rfl
theorem sl_206_254 : pm_206.2.2.2.2.2 254 = some (.iastore, 1, 0, 0, 0) := rfl
theorem sl_206_255 : pm_206.2.2.2.2.2 255 = some (.dup, 1, 0, 0, 0) := rfl
theorem sl_206_256 : pm_206.2.2.2.2.2 256 = some (.bipush 43, 2, 0, 0, 0) := rfl
theorem sl_206_258 : pm_206.2.2.2.2.2 258 = some (.bipush 108, 2, 0, 0, 0) := rfl
theorem sl_206_260 : pm_206.2.2.2.2.2 260 = some (.iastore, 1, 0, 0, 0) := rfl
theorem sl_206_261 : pm_206.2.2.2.2.2 261 = some (.dup, 1, 0, 0, 0) := rfl
theorem sl_206_262 : pm_206.2.2.2.2.2 262 = some (.bipush 44, 2, 0, 0, 0) := rfl
theorem sl_206_264 : pm_206.2.2.2.2.2 264 = some (.bipush 101, 2, 0, 0, 0) := rfl
theorem sl_206_266 : pm_206.2.2.2.2.2 266 = some (.iastore, 1, 0, 0, 0) := rfl
theorem sl_206_267 : pm_206.2.2.2.2.2 267 = some (.dup, 1, 0, 0, 0) := rfl
theorem sl_206_268 : pm_206.2.2.2.2.2 268 = some (.bipush 45, 2, 0, 0, 0) := rfl
theorem sl_206_270 : pm_206.2.2.2.2.2 270 = some (.bipush 99, 2, 0, 0, 0) := rfl
theorem sl_206_272 : pm_206.2.2.2.2.2 272 = some (.iastore, 1, 0, 0, 0) := rfl
theorem sl_206_273 : pm_206.2.2.2.2.2 273 = some (.dup, 1, 0, 0, 0) := rfl
theorem sl_206_274 : pm_206.2.2.2.2.2 274 = some (.bipush 46, 2, 0, 0, 0) := rfl
theorem sl_206_276 : pm_206.2.2.2.2.2 276 = some (.bipush 116, 2, 0, 0, 0) := rfl
theorem sl_206_278 : pm_206.2.2.2.2.2 278 = some (.iastore, 1, 0, 0, 0) := rfl
theorem sl_206_279 : pm_206.2.2.2.2.2 279 = some (.dup, 1, 0, 0, 0) := rfl
theorem sl_206_280 : pm_206.2.2.2.2.2 280 = some (.bipush 47, 2, 0, 0, 0) := rfl
theorem sl_206_282 : pm_206.2.2.2.2.2 282 = some (.iconst 0, 1, 0, 0, 0) := rfl
theorem sl_206_283 : pm_206.2.2.2.2.2 283 = some (.iastore, 1, 0, 0, 0) := rfl
theorem sl_206_284 : pm_206.2.2.2.2.2 284 = some (.dup, 1, 0, 0, 0) := rfl
theorem sl_206_285 : pm_206.2.2.2.2.2 285 = some (.bipush 48, 2, 0, 0, 0) := rfl
theorem sl_206_287 : pm_206.2.2.2.2.2 287 = some (.bipush 100, 2, 0, 0, 0) := rfl
theorem sl_206_289 : pm_206.2.2.2.2.2 289 = some (.iastore, 1, 0, 0, 0) := rfl
theorem sl_206_290 : pm_206.2.2.2.2.2 290 = some (.dup, 1, 0, 0, 0) := rfl
theorem sl_206_291 : pm_206.2.2.2.2.2 291 = some (.bipush 49, 2, 0, 0, 0) := rfl
theorem sl_206_293 : pm_206.2.2.2.2.2 293 = some (.bipush 101, 2, 0, 0, 0) := rfl
theorem sl_206_295 : pm_206.2.2.2.2.2 295 = some (.iastore, 1, 0, 0, 0) := rfl
theorem sl_206_296 : pm_206.2.2.2.2.2 296 = some (.dup, 1, 0, 0, 0) := rfl
theorem sl_206_297 : pm_206.2.2.2.2.2 297 = some (.bipush 50, 2, 0, 0, 0) := rfl
theorem sl_206_299 : pm_206.2.2.2.2.2 299 = some (.bipush 102, 2, 0, 0, 0) := rfl
theorem sl_206_301 : pm_206.2.2.2.2.2 301 = some (.iastore, 1, 0, 0, 0) := rfl
theorem sl_206_302 : pm_206.2.2.2.2.2 302 = some (.dup, 1, 0, 0, 0) := rfl
theorem sl_206_303 : pm_206.2.2.2.2.2 303 = some (.bipush 51, 2, 0, 0, 0) := rfl
theorem sl_206_305 : pm_206.2.2.2.2.2 305 = some (.bipush 97, 2, 0, 0, 0) := rfl
theorem sl_206_307 : pm_206.2.2.2.2.2 307 = some (.iastore, 1, 0, 0, 0) := rfl
theorem sl_206_308 : pm_206.2.2.2.2.2 308 = some (.dup, 1, 0, 0, 0) := rfl
theorem sl_206_309 : pm_206.2.2.2.2.2 309 = some (.bipush 52, 2, 0, 0, 0) := rfl
theorem sl_206_311 : pm_206.2.2.2.2.2 311 = some (.bipush 117, 2, 0, 0, 0) := rfl
theorem sl_206_313 : pm_206.2.2.2.2.2 313 = some (.iastore, 1, 0, 0, 0) := rfl
theorem sl_206_314 : pm_206.2.2.2.2.2 314 = some (.dup, 1, 0, 0, 0) := rfl
theorem sl_206_315 : pm_206.2.2.2.2.2 315 = some (.bipush 53, 2, 0, 0, 0) := rfl
theorem sl_206_317 : pm_206.2.2.2.2.2 317 = some (.bipush 108, 2, 0, 0, 0) := rfl
theorem sl_206_319 : pm_206.2.2.2.2.2 319 = some (.iastore, 1, 0, 0, 0) := rfl
theorem sl_206_320 : pm_206.2.2.2.2.2 320 = some (.dup, 1, 0, 0, 0) := rfl
theorem sl_206_321 : pm_206.2.2.2.2.2 321 = some (.bipush 54, 2, 0, 0, 0) := rfl
theorem sl_206_323 : pm_206.2.2.2.2.2 323 = some (.bipush 116, 2, 0, 0, 0) := rfl
theorem sl_206_325 : pm_206.2.2.2.2.2 325 = some (.iastore, 1, 0, 0, 0) := rfl
theorem sl_206_326 : pm_206.2.2.2.2.2 326 = some (.dup, 1, 0, 0, 0) := rfl
theorem sl_206_327 : pm_206.2.2.2.2.2 327 = some (.bipush 55, 2, 0, 0, 0) := rfl
theorem sl_206_329 : pm_206.2.2.2.2.2 329 = some (.iconst 0, 1, 0, 0, 0) := rfl
theorem sl_206_330 : pm_206.2.2.2.2.2 330 = some (.iastore, 1, 0, 0, 0) := rfl
theorem sl_206_331 : pm_206.2.2.2.2.2 331 = some (.dup, 1, 0, 0, 0) := rfl
theorem sl_206_332 : pm_206.2.2.2.2.2 332 = some (.bipush 56, 2, 0, 0, 0) := rfl
theorem sl_206_334 : pm_206.2.2.2.2.2 334 = some (.bipush 97, 2, 0, 0, 0) := rfl
theorem sl_206_336 : pm_206.2.2.2.2.2 336 = some (.iastore, 1, 0, 0, 0) := rfl
theorem sl_206_337 : pm_206.2.2.2.2.2 337 = some (.dup, 1, 0, 0, 0) := rfl
theorem sl_206_338 : pm_206.2.2.2.2.2 338 = some (.bipush 57, 2, 0, 0, 0) := rfl
theorem sl_206_340 : pm_206.2.2.2.2.2 340 = some (.bipush 99, 2, 0, 0, 0) := rfl
theorem sl_206_342 : pm_206.2.2.2.2.2 342 = some (.iastore, 1, 0, 0, 0) := rfl
theorem sl_206_343 : pm_206.2.2.2.2.2 343 = some (.dup, 1, 0, 0, 0) := rfl
theorem sl_206_344 : pm_206.2.2.2.2.2 344 = some (.bipush 58, 2, 0, 0, 0) := rfl
theorem sl_206_346 : pm_206.2.2.2.2.2 346 = some (.bipush 116, 2, 0, 0, 0) := rfl
theorem sl_206_348 : pm_206.2.2.2.2.2 348 = some (.iastore, 1, 0, 0, 0) := rfl
theorem sl_206_349 : pm_206.2.2.2.2.2 349 = some (.dup, 1, 0, 0, 0) := rfl
theorem sl_206_350 : pm_206.2.2.2.2.2 350 = some (.bipush 59, 2, 0, 0, 0) := rfl
theorem sl_206_352 : pm_206.2.2.2.2.2 352 = some (.bipush 105, 2, 0, 0, 0) := rfl
theorem sl_206_354 : pm_206.2.2.2.2.2 354 = some (.iastore, 1, 0, 0, 0) := rfl
theorem sl_206_355 : pm_206.2.2.2.2.2 355 = some (.dup, 1, 0, 0, 0) := rfl
theorem sl_206_356 : pm_206.2.2.2.2.2 356 = some (.bipush 60, 2, 0, 0, 0) := rfl
theorem sl_206_358 : pm_206.2.2.2.2.2 358 = some (.bipush 111, 2, 0, 0, 0) := rfl
theorem sl_206_360 : pm_206.2.2.2.2.2 360 = some (.iastore, 1, 0, 0, 0) := rfl
theorem sl_206_361 : pm_206.2.2.2.2.2 361 = some (.dup, 1, 0, 0, 0) := rfl
theorem sl_206_362 : pm_206.2.2.2.2.2 362 = some (.bipush 61, 2, 0, 0, 0) := rfl
theorem sl_206_364 : pm_206.2.2.2.2.2 364 = some (.bipush 110, 2, 0, 0, 0) := rfl
theorem sl_206_366 : pm_206.2.2.2.2.2 366 = some (.iastore, 1, 0, 0, 0) := rfl
theorem sl_206_367 : pm_206.2.2.2.2.2 367 = some (.dup, 1, 0, 0, 0) := rfl
theorem sl_206_368 : pm_206.2.2.2.2.2 368 = some (.bipush 62, 2, 0, 0, 0) := rfl
theorem sl_206_370 : pm_206.2.2.2.2.2 370 = some (.iconst 0, 1, 0, 0, 0) := rfl
theorem sl_206_371 : pm_206.2.2.2.2.2 371 = some (.iastore, 1, 0, 0, 0) := rfl
theorem sl_206_372 : pm_206.2.2.2.2.2 372 = some (.dup, 1, 0, 0, 0) := rfl
theorem sl_206_373 : pm_206.2.2.2.2.2 373 = some (.bipush 63, 2, 0, 0, 0) := rfl
theorem sl_206_375 : pm_206.2.2.2.2.2 375 = some (.bipush 116, 2, 0, 0, 0) := rfl
theorem sl_206_377 : pm_206.2.2.2.2.2 377 = some (.iastore, 1, 0, 0, 0) := rfl
theorem sl_206_378 : pm_206.2.2.2.2.2 378 = some (.dup, 1, 0, 0, 0) := rfl
theorem sl_206_379 : pm_206.2.2.2.2.2 379 = some (.bipush 64, 2, 0, 0, 0) := rfl
theorem sl_206_381 : pm_206.2.2.2.2.2 381 = some (.bipush 97, 2, 0, 0, 0) := rfl
theorem sl_206_383 : pm_206.2.2.2.2.2 383 = some (.iastore, 1, 0, 0, 0) := rfl
theorem sl_206_384 : pm_206.2.2.2.2.2 384 = some (.dup, 1, 0, 0, 0) := rfl
theorem sl_206_385 : pm_206.2.2.2.2.2 385 = some (.bipush 65, 2, 0, 0, 0) := rfl
theorem sl_206_387 : pm_206.2.2.2.2.2 387 = some (.bipush 98, 2, 0, 0, 0) := rfl
theorem sl_206_389 : pm_206.2.2.2.2.2 389 = some (.iastore, 1, 0, 0, 0) := rfl
theorem sl_206_390 : pm_206.2.2.2.2.2 390 = some (.dup, 1, 0, 0, 0) := rfl
theorem sl_206_391 : pm_206.2.2.2.2.2 391 = some (.bipush 66, 2, 0, 0, 0) := rfl
theorem sl_206_393 : pm_206.2.2.2.2.2 393 = some (.bipush 108, 2, 0, 0, 0) := rfl
theorem sl_206_395 : pm_206.2.2.2.2.2 395 = some (.iastore, 1, 0, 0, 0) := rfl
theorem sl_206_396 : pm_206.2.2.2.2.2 396 = some (.dup, 1, 0, 0, 0) := rfl
theorem sl_206_397 : pm_206.2.2.2.2.2 397 = some (.bipush 67, 2, 0, 0, 0) := rfl
theorem sl_206_399 : pm_206.2.2.2.2.2 399 = some (.bipush 101, 2, 0, 0, 0) := rfl
theorem sl_206_401 : pm_206.2.2.2.2.2 401 = some (.iastore, 1, 0, 0, 0) := rfl
theorem sl_206_402 : pm_206.2.2.2.2.2 402 = some (.dup, 1, 0, 0, 0) := rfl
theorem sl_206_403 : pm_206.2.2.2.2.2 403 = some (.bipush 68, 2, 0, 0, 0) := rfl
theorem sl_206_405 : pm_206.2.2.2.2.2 405 = some (.iconst 0, 1, 0, 0, 0) := rfl
theorem sl_206_406 : pm_206.2.2.2.2.2 406 = some (.iastore, 1, 0, 0, 0) := rfl
theorem sl_206_407 : pm_206.2.2.2.2.2 407 = some (.dup, 1, 0, 0, 0) := rfl
theorem sl_206_408 : pm_206.2.2.2.2.2 408 = some (.bipush 69, 2, 0, 0, 0) := rfl
theorem sl_206_410 : pm_206.2.2.2.2.2 410 = some (.bipush 107, 2, 0, 0, 0) := rfl
theorem sl_206_412 : pm_206.2.2.2.2.2 412 = some (.iastore, 1, 0, 0, 0) := rfl
theorem sl_206_413 : pm_206.2.2.2.2.2 413 = some (.dup, 1, 0, 0, 0) := rfl
theorem sl_206_414 : pm_206.2.2.2.2.2 414 = some (.bipush 70, 2, 0, 0, 0) := rfl
theorem sl_206_416 : pm_206.2.2.2.2.2 416 = some (.bipush 101, 2, 0, 0, 0) := rfl
theorem sl_206_418 : pm_206.2.2.2.2.2 418 = some (.iastore, 1, 0, 0, 0) := rfl
theorem sl_206_419 : pm_206.2.2.2.2.2 419 = some (.dup, 1, 0, 0, 0) := rfl
theorem sl_206_420 : pm_206.2.2.2.2.2 420 = some (.bipush 71, 2, 0, 0, 0) := rfl
theorem sl_206_422 : pm_206.2.2.2.2.2 422 = some (.bipush 121, 2, 0, 0, 0) := rfl
theorem sl_206_424 : pm_206.2.2.2.2.2 424 = some (.iastore, 1, 0, 0, 0) := rfl
theorem sl_206_425 : pm_206.2.2.2.2.2 425 = some (.dup, 1, 0, 0, 0) := rfl
theorem sl_206_426 : pm_206.2.2.2.2.2 426 = some (.bipush 72, 2, 0, 0, 0) := rfl
theorem sl_206_428 : pm_206.2.2.2.2.2 428 = some (.iconst 0, 1, 0, 0, 0) := rfl
theorem sl_206_429 : pm_206.2.2.2.2.2 429 = some (.iastore, 1, 0, 0, 0) := rfl
theorem sl_206_430 : pm_206.2.2.2.2.2 430 = some (.dup, 1, 0, 0, 0) := rfl
theorem sl_206_431 : pm_206.2.2.2.2.2 431 = some (.bipush 73, 2, 0, 0, 0) := rfl
theorem sl_206_433 : pm_206.2.2.2.2.2 433 = some (.bipush 101, 2, 0, 0, 0) := rfl
theorem sl_206_435 : pm_206.2.2.2.2.2 435 = some (.iastore, 1, 0, 0, 0) := rfl
theorem sl_206_436 : pm_206.2.2.2.2.2 436 = some (.dup, 1, 0, 0, 0) := rfl
theorem sl_206_437 : pm_206.2.2.2.2.2 437 = some (.bipush 74, 2, 0, 0, 0) := rfl
theorem sl_206_439 : pm_206.2.2.2.2.2 439 = some (.bipush 120, 2, 0, 0, 0) := rfl
theorem sl_206_441 : pm_206.2.2.2.2.2 441 = some (.iastore, 1, 0, 0, 0) := rfl
theorem sl_206_442 : pm_206.2.2.2.2.2 442 = some (.dup, 1, 0, 0, 0) := rfl
theorem sl_206_443 : pm_206.2.2.2.2.2 443 = some (.bipush 75, 2, 0, 0, 0) := rfl
theorem sl_206_445 : pm_206.2.2.2.2.2 445 = some (.bipush 97, 2, 0, 0, 0) := rfl
theorem sl_206_447 : pm_206.2.2.2.2.2 447 = some (.iastore, 1, 0, 0, 0) := rfl
theorem sl_206_448 : pm_206.2.2.2.2.2 448 = some (.dup, 1, 0, 0, 0) := rfl
theorem sl_206_449 : pm_206.2.2.2.2.2 449 = some (.bipush 76, 2, 0, 0, 0) := rfl
theorem sl_206_451 : pm_206.2.2.2.2.2 451 = some (.bipush 99, 2, 0, 0, 0) := rfl
theorem sl_206_453 : pm_206.2.2.2.2.2 453 = some (.iastore, 1, 0, 0, 0) := rfl
theorem sl_206_454 : pm_206.2.2.2.2.2 454 = some (.dup, 1, 0, 0, 0) := rfl
theorem sl_206_455 : pm_206.2.2.2.2.2 455 = some (.bipush 77, 2, 0, 0, 0) := rfl
theorem sl_206_457 : pm_206.2.2.2.2.2 457 = some (.bipush 116, 2, 0, 0, 0) := rfl
theorem sl_206_459 : pm_206.2.2.2.2.2 459 = some (.iastore, 1, 0, 0, 0) := rfl
theorem sl_206_460 : pm_206.2.2.2.2.2 460 = some (.dup, 1, 0, 0, 0) := rfl
theorem sl_206_461 : pm_206.2.2.2.2.2 461 = some (.bipush 78, 2, 0, 0, 0) := rfl
theorem sl_206_463 : pm_206.2.2.2.2.2 463 = some (.iconst 0, 1, 0, 0, 0) := rfl
theorem sl_206_464 : pm_206.2.2.2.2.2 464 = some (.iastore, 1, 0, 0, 0) := rfl
theorem sl_206_465 : pm_206.2.2.2.2.2 465 = some (.dup, 1, 0, 0, 0) := rfl
theorem sl_206_466 : pm_206.2.2.2.2.2 466 = some (.bipush 79, 2, 0, 0, 0) := rfl
theorem sl_206_468 : pm_206.2.2.2.2.2 468 = some (.bipush 112, 2, 0, 0, 0) := rfl
theorem sl_206_470 : pm_206.2.2.2.2.2 470 = some (.iastore, 1, 0, 0, 0) := rfl
theorem sl_206_471 : pm_206.2.2.2.2.2 471 = some (.dup, 1, 0, 0, 0) := rfl
theorem sl_206_472 : pm_206.2.2.2.2.2 472 = some (.bipush 80, 2, 0, 0, 0) := rfl
theorem sl_206_474 : pm_206.2.2.2.2.2 474 = some (.bipush 114, 2, 0, 0, 0) := rfl
theorem sl_206_476 : pm_206.2.2.2.2.2 476 = some (.iastore, 1, 0, 0, 0) := rfl
theorem sl_206_477 : pm_206.2.2.2.2.2 477 = some (.dup, 1, 0, 0, 0) := rfl
theorem sl_206_478 : pm_206.2.2.2.2.2 478 = some (.bipush 81, 2, 0, 0, 0) := rfl
theorem sl_206_480 : pm_206.2.2.2.2.2 480 = some (.bipush 101, 2, 0, 0, 0) := rfl
theorem sl_206_482 : pm_206.2.2.2.2.2 482 = some (.iastore, 1, 0, 0, 0) := rfl
theorem sl_206_483 : pm_206.2.2.2.2.2 483 = some (.dup, 1, 0, 0, 0) := rfl
theorem sl_206_484 : pm_206.2.2.2.2.2 484 = some (.bipush 82, 2, 0, 0, 0) := rfl
theorem sl_206_486 : pm_206.2.2.2.2.2 486 = some (.bipush 102, 2, 0, 0, 0) := rfl
theorem sl_206_488 : pm_206.2.2.2.2.2 488 = some (.iastore, 1, 0, 0, 0) := rfl
theorem sl_206_489 : pm_206.2.2.2.2.2 489 = some (.dup, 1, 0, 0, 0) := rfl
theorem sl_206_490 : pm_206.2.2.2.2.2 490 = some (.bipush 83, 2, 0, 0, 0) := rfl
theorem sl_206_492 : pm_206.2.2.2.2.2 492 = some (.bipush 105, 2, 0, 0, 0) := rfl
theorem sl_206_494 : pm_206.2.2.2.2.2 494 = some (.iastore, 1, 0, 0, 0) := rfl
theorem sl_206_495 : pm_206.2.2.2.2.2 495 = some (.dup, 1, 0, 0, 0) := rfl
theorem sl_206_496 : pm_206.2.2.2.2.2 496 = some (.bipush 84, 2, 0, 0, 0) := rfl
theorem sl_206_498 : pm_206.2.2.2.2.2 498 = some (.bipush 120, 2, 0, 0, 0) := rfl
theorem sl_206_500 : pm_206.2.2.2.2.2 500 = some (.iastore, 1, 0, 0, 0) := rfl
theorem sl_206_501 : pm_206.2.2.2.2.2 501 = some (.dup, 1, 0, 0, 0) := rfl
theorem sl_206_502 : pm_206.2.2.2.2.2 502 = some (.bipush 85, 2, 0, 0, 0) := rfl
theorem sl_206_504 : pm_206.2.2.2.2.2 504 = some (.iconst 0, 1, 0, 0, 0) := rfl
theorem sl_206_505 : pm_206.2.2.2.2.2 505 = some (.iastore, 1, 0, 0, 0) := rfl
theorem sl_206_506 : pm_206.2.2.2.2.2 506 = some (.dup, 1, 0, 0, 0) := rfl
theorem sl_206_507 : pm_206.2.2.2.2.2 507 = some (.bipush 86, 2, 0, 0, 0) := rfl
theorem sl_206_509 : pm_206.2.2.2.2.2 509 = some (.bipush 109, 2, 0, 0, 0) := rfl
theorem sl_206_511 : pm_206.2.2.2.2.2 511 = some (.iastore, 1, 0, 0, 0) := rfl
theorem sl_206_512 : pm_206.2.2.2.2.2 512 = some (.dup, 1, 0, 0, 0) := rfl
theorem sl_206_513 : pm_206.2.2.2.2.2 513 = some (.bipush 87, 2, 0, 0, 0) := rfl
theorem sl_206_515 : pm_206.2.2.2.2.2 515 = some (.bipush 97, 2, 0, 0, 0) := rfl
theorem sl_206_517 : pm_206.2.2.2.2.2 517 = some (.iastore, 1, 0, 0, 0) := rfl
theorem sl_206_518 : pm_206.2.2.2.2.2 518 = some (.dup, 1, 0, 0, 0) := rfl
theorem sl_206_519 : pm_206.2.2.2.2.2 519 = some (.bipush 88, 2, 0, 0, 0) := rfl
theorem sl_206_521 : pm_206.2.2.2.2.2 521 = some (.bipush 115, 2, 0, 0, 0) := rfl
theorem sl_206_523 : pm_206.2.2.2.2.2 523 = some (.iastore, 1, 0, 0, 0) := rfl
theorem sl_206_524 : pm_206.2.2.2.2.2 524 = some (.dup, 1, 0, 0, 0) := rfl
theorem sl_206_525 : pm_206.2.2.2.2.2 525 = some (.bipush 89, 2, 0, 0, 0) := rfl
theorem sl_206_527 : pm_206.2.2.2.2.2 527 = some (.bipush 107, 2, 0, 0, 0) := rfl
theorem sl_206_529 : pm_206.2.2.2.2.2 529 = some (.iastore, 1, 0, 0, 0) := rfl
theorem sl_206_530 : pm_206.2.2.2.2.2 530 = some (.dup, 1, 0, 0, 0) := rfl
theorem sl_206_531 : pm_206.2.2.2.2.2 531 = some (.bipush 90, 2, 0, 0, 0) := rfl
theorem sl_206_533 : pm_206.2.2.2.2.2 533 = some (.bipush 101, 2, 0, 0, 0) := rfl
theorem sl_206_535 : pm_206.2.2.2.2.2 535 = some (.iastore, 1, 0, 0, 0) := rfl
theorem sl_206_536 : pm_206.2.2.2.2.2 536 = some (.dup, 1, 0, 0, 0) := rfl
theorem sl_206_537 : pm_206.2.2.2.2.2 537 = some (.bipush 91, 2, 0, 0, 0) := rfl
theorem sl_206_539 : pm_206.2.2.2.2.2 539 = some (.bipush 100, 2, 0, 0, 0) := rfl
theorem sl_206_541 : pm_206.2.2.2.2.2 541 = some (.iastore, 1, 0, 0, 0) := rfl
theorem sl_206_542 : pm_206.2.2.2.2.2 542 = some (.dup, 1, 0, 0, 0) := rfl
theorem sl_206_543 : pm_206.2.2.2.2.2 543 = some (.bipush 92, 2, 0, 0, 0) := rfl
theorem sl_206_545 : pm_206.2.2.2.2.2 545 = some (.iconst 0, 1, 0, 0, 0) := rfl
theorem sl_206_546 : pm_206.2.2.2.2.2 546 = some (.iastore, 1, 0, 0, 0) := rfl
theorem sl_206_547 : pm_206.2.2.2.2.2 547 = some (.dup, 1, 0, 0, 0) := rfl
theorem sl_206_548 : pm_206.2.2.2.2.2 548 = some (.bipush 93, 2, 0, 0, 0) := rfl
theorem sl_206_550 : pm_206.2.2.2.2.2 550 = some (.bipush 97, 2, 0, 0, 0) := rfl
theorem sl_206_552 : pm_206.2.2.2.2.2 552 = some (.iastore, 1, 0, 0, 0) := rfl
theorem sl_206_553 : pm_206.2.2.2.2.2 553 = some (.dup, 1, 0, 0, 0) := rfl
theorem sl_206_554 : pm_206.2.2.2.2.2 554 = some (.bipush 94, 2, 0, 0, 0) := rfl
theorem sl_206_556 : pm_206.2.2.2.2.2 556 = some (.bipush 99, 2, 0, 0, 0) := rfl
theorem sl_206_558 : pm_206.2.2.2.2.2 558 = some (.iastore, 1, 0, 0, 0) := rfl
theorem sl_206_559 : pm_206.2.2.2.2.2 559 = some (.dup, 1, 0, 0, 0) := rfl
theorem sl_206_560 : pm_206.2.2.2.2.2 560 = some (.bipush 95, 2, 0, 0, 0) := rfl
theorem sl_206_562 : pm_206.2.2.2.2.2 562 = some (.bipush 116, 2, 0, 0, 0) := rfl
theorem sl_206_564 : pm_206.2.2.2.2.2 564 = some (.iastore, 1, 0, 0, 0) := rfl
theorem sl_206_565 : pm_206.2.2.2.2.2 565 = some (.dup, 1, 0, 0, 0) := rfl
theorem sl_206_566 : pm_206.2.2.2.2.2 566 = some (.bipush 96, 2, 0, 0, 0) := rfl
theorem sl_206_568 : pm_206.2.2.2.2.2 568 = some (.bipush 105, 2, 0, 0, 0) := rfl
theorem sl_206_570 : pm_206.2.2.2.2.2 570 = some (.iastore, 1, 0, 0, 0) := rfl
theorem sl_206_571 : pm_206.2.2.2.2.2 571 = some (.dup, 1, 0, 0, 0) := rfl
theorem sl_206_572 : pm_206.2.2.2.2.2 572 = some (.bipush 97, 2, 0, 0, 0) := rfl
theorem sl_206_574 : pm_206.2.2.2.2.2 574 = some (.bipush 111, 2, 0, 0, 0) := rfl
theorem sl_206_576 : pm_206.2.2.2.2.2 576 = some (.iastore, 1, 0, 0, 0) := rfl
theorem sl_206_577 : pm_206.2.2.2.2.2 577 = some (.dup, 1, 0, 0, 0) := rfl
theorem sl_206_578 : pm_206.2.2.2.2.2 578 = some (.bipush 98, 2, 0, 0, 0) := rfl
theorem sl_206_580 : pm_206.2.2.2.2.2 580 = some (.bipush 110, 2, 0, 0, 0) := rfl
theorem sl_206_582 : pm_206.2.2.2.2.2 582 = some (.iastore, 1, 0, 0, 0) := rfl
theorem sl_206_583 : pm_206.2.2.2.2.2 583 = some (.dup, 1, 0, 0, 0) := rfl
theorem sl_206_584 : pm_206.2.2.2.2.2 584 = some (.bipush 99, 2, 0, 0, 0) := rfl
theorem sl_206_586 : pm_206.2.2.2.2.2 586 = some (.bipush 115, 2, 0, 0, 0) := rfl
theorem sl_206_588 : pm_206.2.2.2.2.2 588 = some (.iastore, 1, 0, 0, 0) := rfl
theorem sl_206_589 : pm_206.2.2.2.2.2 589 = some (.dup, 1, 0, 0, 0) := rfl
theorem sl_206_590 : pm_206.2.2.2.2.2 590 = some (.bipush 100, 2, 0, 0, 0) := rfl
theorem sl_206_592 : pm_206.2.2.2.2.2 592 = some (.iconst 0, 1, 0, 0, 0) := rfl
theorem sl_206_593 : pm_206.2.2.2.2.2 593 = some (.iastore, 1, 0, 0, 0) := rfl
theorem sl_206_594 : pm_206.2.2.2.2.2 594 = some (.dup, 1, 0, 0, 0) := rfl
theorem sl_206_595 : pm_206.2.2.2.2.2 595 = some (.bipush 101, 2, 0, 0, 0) := rfl
theorem sl_206_597 : pm_206.2.2.2.2.2 597 = some (.bipush 114, 2, 0, 0, 0) := rfl
theorem sl_206_599 : pm_206.2.2.2.2.2 599 = some (.iastore, 1, 0, 0, 0) := rfl
theorem sl_206_600 : pm_206.2.2.2.2.2 600 = some (.dup, 1, 0, 0, 0) := rfl
theorem sl_206_601 : pm_206.2.2.2.2.2 601 = some (.bipush 102, 2, 0, 0, 0) := rfl
theorem sl_206_603 : pm_206.2.2.2.2.2 603 = some (.bipush 111, 2, 0, 0, 0) := rfl
theorem sl_206_605 : pm_206.2.2.2.2.2 605 = some (.iastore, 1, 0, 0, 0) := rfl
theorem sl_206_606 : pm_206.2.2.2.2.2 606 = some (.dup, 1, 0, 0, 0) := rfl
theorem sl_206_607 : pm_206.2.2.2.2.2 607 = some (.bipush 103, 2, 0, 0, 0) := rfl
theorem sl_206_609 : pm_206.2.2.2.2.2 609 = some (.bipush 111, 2, 0, 0, 0) := rfl
theorem sl_206_611 : pm_206.2.2.2.2.2 611 = some (.iastore, 1, 0, 0, 0) := rfl
theorem sl_206_612 : pm_206.2.2.2.2.2 612 = some (.dup, 1, 0, 0, 0) := rfl
theorem sl_206_613 : pm_206.2.2.2.2.2 613 = some (.bipush 104, 2, 0, 0, 0) := rfl
theorem sl_206_615 : pm_206.2.2.2.2.2 615 = some (.bipush 109, 2, 0, 0, 0) := rfl
theorem sl_206_617 : pm_206.2.2.2.2.2 617 = some (.iastore, 1, 0, 0, 0) := rfl
theorem sl_206_618 : pm_206.2.2.2.2.2 618 = some (.dup, 1, 0, 0, 0) := rfl
theorem sl_206_619 : pm_206.2.2.2.2.2 619 = some (.bipush 105, 2, 0, 0, 0) := rfl
theorem sl_206_621 : pm_206.2.2.2.2.2 621 = some (.iconst 0, 1, 0, 0, 0) := rfl
theorem sl_206_622 : pm_206.2.2.2.2.2 622 = some (.iastore, 1, 0, 0, 0) := rfl
theorem sl_206_623 : pm_206.2.2.2.2.2 623 = some (.dup, 1, 0, 0, 0) := rfl
theorem sl_206_624 : pm_206.2.2.2.2.2 624 = some (.bipush 106, 2, 0, 0, 0) := rfl
theorem sl_206_626 : pm_206.2.2.2.2.2 626 = some (.bipush 119, 2, 0, 0, 0) := rfl
theorem sl_206_628 : pm_206.2.2.2.2.2 628 = some (.iastore, 1, 0, 0, 0) := rfl
theorem sl_206_629 : pm_206.2.2.2.2.2 629 = some (.dup, 1, 0, 0, 0) := rfl
theorem sl_206_630 : pm_206.2.2.2.2.2 630 = some (.bipush 107, 2, 0, 0, 0) := rfl
theorem sl_206_632 : pm_206.2.2.2.2.2 632 = some (.bipush 97, 2, 0, 0, 0) := rfl
theorem sl_206_634 : pm_206.2.2.2.2.2 634 = some (.iastore, 1, 0, 0, 0) := rfl
theorem sl_206_635 : pm_206.2.2.2.2.2 635 = some (.dup, 1, 0, 0, 0) := rfl
theorem sl_206_636 : pm_206.2.2.2.2.2 636 = some (.bipush 108, 2, 0, 0, 0) := rfl
theorem sl_206_638 : pm_206.2.2.2.2.2 638 = some (.bipush 121, 2, 0, 0, 0) := rfl
theorem sl_206_640 : pm_206.2.2.2.2.2 640 = some (.iastore, 1, 0, 0, 0) := rfl
theorem sl_206_641 : pm_206.2.2.2.2.2 641 = some (.dup, 1, 0, 0, 0) := rfl
theorem sl_206_642 : pm_206.2.2.2.2.2 642 = some (.bipush 109, 2, 0, 0, 0) := rfl
theorem sl_206_644 : pm_206.2.2.2.2.2 644 = some (.bipush 115, 2, 0, 0, 0) := rfl
theorem sl_206_646 : pm_206.2.2.2.2.2 646 = some (.iastore, 1, 0, 0, 0) := rfl
theorem sl_206_647 : pm_206.2.2.2.2.2 647 = some (.dup, 1, 0, 0, 0) := rfl
theorem sl_206_648 : pm_206.2.2.2.2.2 648 = some (.bipush 110, 2, 0, 0, 0) := rfl
theorem sl_206_650 : pm_206.2.2.2.2.2 650 = some (.iconst 0, 1, 0, 0, 0) := rfl
theorem sl_206_651 : pm_206.2.2.2.2.2 651 = some (.iastore, 1, 0, 0, 0) := rfl
theorem sl_206_652 : pm_206.2.2.2.2.2 652 = some (.dup, 1, 0, 0, 0) := rfl
theorem sl_206_653 : pm_206.2.2.2.2.2 653 = some (.bipush 111, 2, 0, 0, 0) := rfl
theorem sl_206_655 : pm_206.2.2.2.2.2 655 = some (.bipush 115, 2, 0, 0, 0) := rfl
theorem sl_206_657 : pm_206.2.2.2.2.2 657 = some (.iastore, 1, 0, 0, 0) := rfl
theorem sl_206_658 : pm_206.2.2.2.2.2 658 = some (.dup, 1, 0, 0, 0) := rfl
theorem sl_206_659 : pm_206.2.2.2.2.2 659 = some (.bipush 112, 2, 0, 0, 0) := rfl
theorem sl_206_661 : pm_206.2.2.2.2.2 661 = some (.bipush 116, 2, 0, 0, 0) := rfl
theorem sl_206_663 : pm_206.2.2.2.2.2 663 = some (.iastore, 1, 0, 0, 0) := rfl
theorem sl_206_664 : pm_206.2.2.2.2.2 664 = some (.dup, 1, 0, 0, 0) := rfl
theorem sl_206_665 : pm_206.2.2.2.2.2 665 = some (.bipush 113, 2, 0, 0, 0) := rfl
theorem sl_206_667 : pm_206.2.2.2.2.2 667 = some (.bipush 97, 2, 0, 0, 0) := rfl
theorem sl_206_669 : pm_206.2.2.2.2.2 669 = some (.iastore, 1, 0, 0, 0) := rfl
theorem sl_206_670 : pm_206.2.2.2.2.2 670 = some (.dup, 1, 0, 0, 0) := rfl
theorem sl_206_671 : pm_206.2.2.2.2.2 671 = some (.bipush 114, 2, 0, 0, 0) := rfl
theorem sl_206_673 : pm_206.2.2.2.2.2 673 = some (.bipush 115, 2, 0, 0, 0) := rfl
theorem sl_206_675 : pm_206.2.2.2.2.2 675 = some (.iastore, 1, 0, 0, 0) := rfl
theorem sl_206_676 : pm_206.2.2.2.2.2 676 = some (.dup, 1, 0, 0, 0) := rfl
theorem sl_206_677 : pm_206.2.2.2.2.2 677 = some (.bipush 115, 2, 0, 0, 0) := rfl
theorem sl_206_679 : pm_206.2.2.2.2.2 679 = some (.bipush 104, 2, 0, 0, 0) := rfl
theorem sl_206_681 : pm_206.2.2.2.2.2 681 = some (.iastore, 1, 0, 0, 0) := rfl
theorem sl_206_682 : pm_206.2.2.2.2.2 682 = some (.dup, 1, 0, 0, 0) := rfl
theorem sl_206_683 : pm_206.2.2.2.2.2 683 = some (.bipush 116, 2, 0, 0, 0) := rfl
theorem sl_206_685 : pm_206.2.2.2.2.2 685 = some (.iconst 0, 1, 0, 0, 0) := rfl
theorem sl_206_686 : pm_206.2.2.2.2.2 686 = some (.iastore, 1, 0, 0, 0) := rfl
theorem sl_206_687 : pm_206.2.2.2.2.2 687 = some (.dup, 1, 0, 0, 0) := rfl
theorem sl_206_688 : pm_206.2.2.2.2.2 688 = some (.bipush 117, 2, 0, 0, 0) := rfl
theorem sl_206_690 : pm_206.2.2.2.2.2 690 = some (.bipush 99, 2, 0, 0, 0) := rfl
theorem sl_206_692 : pm_206.2.2.2.2.2 692 = some (.iastore, 1, 0, 0, 0) := rfl
theorem sl_206_693 : pm_206.2.2.2.2.2 693 = some (.dup, 1, 0, 0, 0) := rfl
theorem sl_206_694 : pm_206.2.2.2.2.2 694 = some (.bipush 118, 2, 0, 0, 0) := rfl
theorem sl_206_696 : pm_206.2.2.2.2.2 696 = some (.bipush 111, 2, 0, 0, 0) := rfl
theorem sl_206_698 : pm_206.2.2.2.2.2 698 = some (.iastore, 1, 0, 0, 0) := rfl
theorem sl_206_699 : pm_206.2.2.2.2.2 699 = some (.dup, 1, 0, 0, 0) := rfl
theorem sl_206_700 : pm_206.2.2.2.2.2 700 = some (.bipush 119, 2, 0, 0, 0) := rfl
theorem sl_206_702 : pm_206.2.2.2.2.2 702 = some (.bipush 110, 2, 0, 0, 0) := rfl
theorem sl_206_704 : pm_206.2.2.2.2.2 704 = some (.iastore, 1, 0, 0, 0) := rfl
theorem sl_206_705 : pm_206.2.2.2.2.2 705 = some (.dup, 1, 0, 0, 0) := rfl
theorem sl_206_706 : pm_206.2.2.2.2.2 706 = some (.bipush 120, 2, 0, 0, 0) := rfl
theorem sl_206_708 : pm_206.2.2.2.2.2 708 = some (.bipush 116, 2, 0, 0, 0) := rfl
theorem sl_206_710 : pm_206.2.2.2.2.2 710 = some (.iastore, 1, 0, 0, 0) := rfl
theorem sl_206_711 : pm_206.2.2.2.2.2 711 = some (.dup, 1, 0, 0, 0) := rfl
theorem sl_206_712 : pm_206.2.2.2.2.2 712 = some (.bipush 121, 2, 0, 0, 0) := rfl
theorem sl_206_714 : pm_206.2.2.2.2.2 714 = some (.bipush 114, 2, 0, 0, 0) := rfl
theorem sl_206_716 : pm_206.2.2.2.2.2 716 = some (.iastore, 1, 0, 0, 0) := rfl
theorem sl_206_717 : pm_206.2.2.2.2.2 717 = some (.dup, 1, 0, 0, 0) := rfl
theorem sl_206_718 : pm_206.2.2.2.2.2 718 = some (.bipush 122, 2, 0, 0, 0) := rfl
theorem sl_206_720 : pm_206.2.2.2.2.2 720 = some (.bipush 111, 2, 0, 0, 0) := rfl
theorem sl_206_722 : pm_206.2.2.2.2.2 722 = some (.iastore, 1, 0, 0, 0) := rfl
theorem sl_206_723 : pm_206.2.2.2.2.2 723 = some (.dup, 1, 0, 0, 0) := rfl
theorem sl_206_724 : pm_206.2.2.2.2.2 724 = some (.bipush 123, 2, 0, 0, 0) := rfl
theorem sl_206_726 : pm_206.2.2.2.2.2 726 = some (.bipush 108, 2, 0, 0, 0) := rfl
theorem sl_206_728 : pm_206.2.2.2.2.2 728 = some (.iastore, 1, 0, 0, 0) := rfl
theorem sl_206_729 : pm_206.2.2.2.2.2 729 = some (.dup, 1, 0, 0, 0) := rfl
theorem sl_206_730 : pm_206.2.2.2.2.2 730 = some (.bipush 124, 2, 0, 0, 0) := rfl
theorem sl_206_732 : pm_206.2.2.2.2.2 732 = some (.iconst 0, 1, 0, 0, 0) := rfl
theorem sl_206_733 : pm_206.2.2.2.2.2 733 = some (.iastore, 1, 0, 0, 0) := rfl
theorem sl_206_734 : pm_206.2.2.2.2.2 734 = some (.dup, 1, 0, 0, 0) := rfl
theorem sl_206_735 : pm_206.2.2.2.2.2 735 = some (.bipush 125, 2, 0, 0, 0) := rfl
theorem sl_206_737 : pm_206.2.2.2.2.2 737 = some (.bipush 97, 2, 0, 0, 0) := rfl
theorem sl_206_739 : pm_206.2.2.2.2.2 739 = some (.iastore, 1, 0, 0, 0) := rfl
theorem sl_206_740 : pm_206.2.2.2.2.2 740 = some (.dup, 1, 0, 0, 0) := rfl
theorem sl_206_741 : pm_206.2.2.2.2.2 741 = some (.bipush 126, 2, 0, 0, 0) := rfl
theorem sl_206_743 : pm_206.2.2.2.2.2 743 = some (.bipush 112, 2, 0, 0, 0) := rfl
theorem sl_206_745 : pm_206.2.2.2.2.2 745 = some (.iastore, 1, 0, 0, 0) := rfl
theorem sl_206_746 : pm_206.2.2.2.2.2 746 = some (.dup, 1, 0, 0, 0) := rfl
theorem sl_206_747 : pm_206.2.2.2.2.2 747 = some (.bipush 127, 2, 0, 0, 0) := rfl
theorem sl_206_749 : pm_206.2.2.2.2.2 749 = some (.bipush 112, 2, 0, 0, 0) := rfl
theorem sl_206_751 : pm_206.2.2.2.2.2 751 = some (.iastore, 1, 0, 0, 0) := rfl
theorem sl_206_752 : pm_206.2.2.2.2.2 752 = some (.dup, 1, 0, 0, 0) := rfl
theorem sl_206_753 : pm_206.2.2.2.2.2 753 = some (.sipush 128, 3, 0, 0, 0) := rfl
theorem sl_206_756 : pm_206.2.2.2.2.2 756 = some (.bipush 108, 2, 0, 0, 0) := rfl
theorem sl_206_758 : pm_206.2.2.2.2.2 758 = some (.iastore, 1, 0, 0, 0) := rfl
theorem sl_206_759 : pm_206.2.2.2.2.2 759 = some (.dup, 1, 0, 0, 0) := rfl
theorem sl_206_760 : pm_206.2.2.2.2.2 760 = some (.sipush 129, 3, 0, 0, 0) := rfl
theorem sl_206_763 : pm_206.2.2.2.2.2 763 = some (.bipush 121, 2, 0, 0, 0) := rfl
theorem sl_206_765 : pm_206.2.2.2.2.2 765 = some (.iastore, 1, 0, 0, 0) := rfl
theorem sl_206_766 : pm_206.2.2.2.2.2 766 = some (.dup, 1, 0, 0, 0) := rfl
theorem sl_206_767 : pm_206.2.2.2.2.2 767 = some (.sipush 130, 3, 0, 0, 0) := rfl
theorem sl_206_770 : pm_206.2.2.2.2.2 770 = some (.iconst 0, 1, 0, 0, 0) := rfl
theorem sl_206_771 : pm_206.2.2.2.2.2 771 = some (.iastore, 1, 0, 0, 0) := rfl
theorem sl_206_772 : pm_206.2.2.2.2.2 772 = some (.dup, 1, 0, 0, 0) := rfl
theorem sl_206_773 : pm_206.2.2.2.2.2 773 = some (.sipush 131, 3, 0, 0, 0) := rfl
theorem sl_206_776 : pm_206.2.2.2.2.2 776 = some (.bipush 105, 2, 0, 0, 0) := rfl
theorem sl_206_778 : pm_206.2.2.2.2.2 778 = some (.iastore, 1, 0, 0, 0) := rfl
theorem sl_206_779 : pm_206.2.2.2.2.2 779 = some (.dup, 1, 0, 0, 0) := rfl
theorem sl_206_780 : pm_206.2.2.2.2.2 780 = some (.sipush 132, 3, 0, 0, 0) := rfl
theorem sl_206_783 : pm_206.2.2.2.2.2 783 = some (.bipush 102, 2, 0, 0, 0) := rfl
theorem sl_206_785 : pm_206.2.2.2.2.2 785 = some (.iastore, 1, 0, 0, 0) := rfl
theorem sl_206_786 : pm_206.2.2.2.2.2 786 = some (.dup, 1, 0, 0, 0) := rfl
theorem sl_206_787 : pm_206.2.2.2.2.2 787 = some (.sipush 133, 3, 0, 0, 0) := rfl
theorem sl_206_790 : pm_206.2.2.2.2.2 790 = some (.iconst 0, 1, 0, 0, 0) := rfl
theorem sl_206_791 : pm_206.2.2.2.2.2 791 = some (.iastore, 1, 0, 0, 0) := rfl
theorem sl_206_792 : pm_206.2.2.2.2.2 792 = some (.dup, 1, 0, 0, 0) := rfl
theorem sl_206_793 : pm_206.2.2.2.2.2 793 = some (.sipush 134, 3, 0, 0, 0) := rfl
theorem sl_206_796 : pm_206.2.2.2.2.2 796 = some (.bipush 101, 2, 0, 0, 0) := rfl
theorem sl_206_798 : pm_206.2.2.2.2.2 798 = some (.iastore, 1, 0, 0, 0) := rfl
theorem sl_206_799 : pm_206.2.2.2.2.2 799 = some (.dup, 1, 0, 0, 0) := rfl
theorem sl_206_800 : pm_206.2.2.2.2.2 800 = some (.sipush 135, 3, 0, 0, 0) := rfl
theorem sl_206_803 : pm_206.2.2.2.2.2 803 = some (.bipush 108, 2, 0, 0, 0) := rfl
theorem sl_206_805 : pm_206.2.2.2.2.2 805 = some (.iastore, 1, 0, 0, 0) := rfl
theorem sl_206_806 : pm_206.2.2.2.2.2 806 = some (.dup, 1, 0, 0, 0) := rfl
theorem sl_206_807 : pm_206.2.2.2.2.2 807 = some (.sipush 136, 3, 0, 0, 0) := rfl
theorem sl_206_810 : pm_206.2.2.2.2.2 810 = some (.bipush 115, 2, 0, 0, 0) := rfl
theorem sl_206_812 : pm_206.2.2.2.2.2 812 = some (.iastore, 1, 0, 0, 0) := rfl
theorem sl_206_813 : pm_206.2.2.2.2.2 813 = some (.dup, 1, 0, 0, 0) := rfl
theorem sl_206_814 : pm_206.2.2.2.2.2 814 = some (.sipush 137, 3, 0, 0, 0) := rfl
theorem sl_206_817 : pm_206.2.2.2.2.2 817 = some (.bipush 101, 2, 0, 0, 0) := rfl
theorem sl_206_819 : pm_206.2.2.2.2.2 819 = some (.iastore, 1, 0, 0, 0) := rfl
theorem sl_206_820 : pm_206.2.2.2.2.2 820 = some (.dup, 1, 0, 0, 0) := rfl
theorem sl_206_821 : pm_206.2.2.2.2.2 821 = some (.sipush 138, 3, 0, 0, 0) := rfl
theorem sl_206_824 : pm_206.2.2.2.2.2 824 = some (.iconst 0, 1, 0, 0, 0) := rfl
theorem sl_206_825 : pm_206.2.2.2.2.2 825 = some (.iastore, 1, 0, 0, 0) := rfl
theorem sl_206_826 : pm_206.2.2.2.2.2 826 = some (.dup, 1, 0, 0, 0) := rfl
theorem sl_206_827 : pm_206.2.2.2.2.2 827 = some (.sipush 139, 3, 0, 0, 0) := rfl
theorem sl_206_830 : pm_206.2.2.2.2.2 830 = some (.bipush 101, 2, 0, 0, 0) := rfl
theorem sl_206_832 : pm_206.2.2.2.2.2 832 = some (.iastore, 1, 0, 0, 0) := rfl
theorem sl_206_833 : pm_206.2.2.2.2.2 833 = some (.dup, 1, 0, 0, 0) := rfl
theorem sl_206_834 : pm_206.2.2.2.2.2 834 = some (.sipush 140, 3, 0, 0, 0) := rfl
theorem sl_206_837 : pm_206.2.2.2.2.2 837 = some (.bipush 109, 2, 0, 0, 0) := rfl
theorem sl_206_839 : pm_206.2.2.2.2.2 839 = some (.iastore, 1, 0, 0, 0) := rfl
theorem sl_206_840 : pm_206.2.2.2.2.2 840 = some (.dup, 1, 0, 0, 0) := rfl
theorem sl_206_841 : pm_206.2.2.2.2.2 841 = some (.sipush 141, 3, 0, 0, 0) := rfl
theorem sl_206_844 : pm_206.2.2.2.2.2 844 = some (.bipush 105, 2, 0, 0, 0) := rfl
theorem sl_206_846 : pm_206.2.2.2.2.2 846 = some (.iastore, 1, 0, 0, 0) := rfl
theorem sl_206_847 : pm_206.2.2.2.2.2 847 = some (.dup, 1, 0, 0, 0) := rfl
theorem sl_206_848 : pm_206.2.2.2.2.2 848 = some (.sipush 142, 3, 0, 0, 0) := rfl
theorem sl_206_851 : pm_206.2.2.2.2.2 851 = some (.bipush 116, 2, 0, 0, 0) := rfl
theorem sl_206_853 : pm_206.2.2.2.2.2 853 = some (.iastore, 1, 0, 0, 0) := rfl
theorem sl_206_854 : pm_206.2.2.2.2.2 854 = some (.dup, 1, 0, 0, 0) := rfl
theorem sl_206_855 : pm_206.2.2.2.2.2 855 = some (.sipush 143, 3, 0, 0, 0) := rfl
theorem sl_206_858 : pm_206.2.2.2.2.2 858 = some (.iconst 0, 1, 0, 0, 0) := rfl
theorem sl_206_859 : pm_206.2.2.2.2.2 859 = some (.iastore, 1, 0, 0, 0) := rfl
theorem sl_206_860 : pm_206.2.2.2.2.2 860 = some (.dup, 1, 0, 0, 0) := rfl
theorem sl_206_861 : pm_206.2.2.2.2.2 861 = some (.sipush 144, 3, 0, 0, 0) := rfl
theorem sl_206_864 : pm_206.2.2.2.2.2 864 = some (.bipush 97, 2, 0, 0, 0) := rfl
theorem sl_206_866 : pm_206.2.2.2.2.2 866 = some (.iastore, 1, 0, 0, 0) := rfl
theorem sl_206_867 : pm_206.2.2.2.2.2 867 = some (.dup, 1, 0, 0, 0) := rfl
theorem sl_206_868 : pm_206.2.2.2.2.2 868 = some (.sipush 145, 3, 0, 0, 0) := rfl
theorem sl_206_871 : pm_206.2.2.2.2.2 871 = some (.bipush 100, 2, 0, 0, 0) := rfl
theorem sl_206_873 : pm_206.2.2.2.2.2 873 = some (.iastore, 1, 0, 0, 0) := rfl
theorem sl_206_874 : pm_206.2.2.2.2.2 874 = some (.dup, 1, 0, 0, 0) := rfl
theorem sl_206_875 : pm_206.2.2.2.2.2 875 = some (.sipush 146, 3, 0, 0, 0) := rfl
theorem sl_206_878 : pm_206.2.2.2.2.2 878 = some (.bipush 100, 2, 0, 0, 0) := rfl
theorem sl_206_880 : pm_206.2.2.2.2.2 880 = some (.iastore, 1, 0, 0, 0) := rfl
theorem sl_206_881 : pm_206.2.2.2.2.2 881 = some (.dup, 1, 0, 0, 0) := rfl
theorem sl_206_882 : pm_206.2.2.2.2.2 882 = some (.sipush 147, 3, 0, 0, 0) := rfl
theorem sl_206_885 : pm_206.2.2.2.2.2 885 = some (.iconst 0, 1, 0, 0, 0) := rfl
theorem sl_206_886 : pm_206.2.2.2.2.2 886 = some (.iastore, 1, 0, 0, 0) := rfl
theorem sl_206_887 : pm_206.2.2.2.2.2 887 = some (.dup, 1, 0, 0, 0) := rfl
theorem sl_206_888 : pm_206.2.2.2.2.2 888 = some (.sipush 148, 3, 0, 0, 0) := rfl
theorem sl_206_891 : pm_206.2.2.2.2.2 891 = some (.bipush 116, 2, 0, 0, 0) := rfl
theorem sl_206_893 : pm_206.2.2.2.2.2 893 = some (.iastore, 1, 0, 0, 0) := rfl
theorem sl_206_894 : pm_206.2.2.2.2.2 894 = some (.dup, 1, 0, 0, 0) := rfl
theorem sl_206_895 : pm_206.2.2.2.2.2 895 = some (.sipush 149, 3, 0, 0, 0) := rfl
theorem sl_206_898 : pm_206.2.2.2.2.2 898 = some (.bipush 97, 2, 0, 0, 0) := rfl
theorem sl_206_900 : pm_206.2.2.2.2.2 900 = some (.iastore, 1, 0, 0, 0) := rfl
theorem sl_206_901 : pm_206.2.2.2.2.2 901 = some (.dup, 1, 0, 0, 0) := rfl
theorem sl_206_902 : pm_206.2.2.2.2.2 902 = some (.sipush 150, 3, 0, 0, 0) := rfl
theorem sl_206_905 : pm_206.2.2.2.2.2 905 = some (.bipush 107, 2, 0, 0, 0) := rfl
theorem sl_206_907 : pm_206.2.2.2.2.2 907 = some (.iastore, 1, 0, 0, 0) := rfl
theorem sl_206_908 : pm_206.2.2.2.2.2 908 = some (.dup, 1, 0, 0, 0) := rfl
theorem sl_206_909 : pm_206.2.2.2.2.2 909 = some (.sipush 151, 3, 0, 0, 0) := rfl
theorem sl_206_912 : pm_206.2.2.2.2.2 912 = some (.bipush 101, 2, 0, 0, 0) := rfl
theorem sl_206_914 : pm_206.2.2.2.2.2 914 = some (.iastore, 1, 0, 0, 0) := rfl
theorem sl_206_915 : pm_206.2.2.2.2.2 915 = some (.dup, 1, 0, 0, 0) := rfl
theorem sl_206_916 : pm_206.2.2.2.2.2 916 = some (.sipush 152, 3, 0, 0, 0) := rfl
theorem sl_206_919 : pm_206.2.2.2.2.2 919 = some (.iconst 0, 1, 0, 0, 0) := rfl
theorem sl_206_920 : pm_206.2.2.2.2.2 920 = some (.iastore, 1, 0, 0, 0) := rfl
theorem sl_206_921 : pm_206.2.2.2.2.2 921 = some (.dup, 1, 0, 0, 0) := rfl
theorem sl_206_922 : pm_206.2.2.2.2.2 922 = some (.sipush 153, 3, 0, 0, 0) := rfl
theorem sl_206_925 : pm_206.2.2.2.2.2 925 = some (.bipush 100, 2, 0, 0, 0) := rfl
theorem sl_206_927 : pm_206.2.2.2.2.2 927 = some (.iastore, 1, 0, 0, 0) := rfl
theorem sl_206_928 : pm_206.2.2.2.2.2 928 = some (.dup, 1, 0, 0, 0) := rfl
theorem sl_206_929 : pm_206.2.2.2.2.2 929 = some (.sipush 154, 3, 0, 0, 0) := rfl
theorem sl_206_932 : pm_206.2.2.2.2.2 932 = some (.bipush 114, 2, 0, 0, 0) := rfl
theorem sl_206_934 : pm_206.2.2.2.2.2 934 = some (.iastore, 1, 0, 0, 0) := rfl
theorem sl_206_935 : pm_206.2.2.2.2.2 935 = some (.dup, 1, 0, 0, 0) := rfl
theorem sl_206_936 : pm_206.2.2.2.2.2 936 = some (.sipush 155, 3, 0, 0, 0) := rfl
theorem sl_206_939 : pm_206.2.2.2.2.2 939 = some (.bipush 111, 2, 0, 0, 0) := rfl
theorem sl_206_941 : pm_206.2.2.2.2.2 941 = some (.iastore, 1, 0, 0, 0) := rfl
theorem sl_206_942 : pm_206.2.2.2.2.2 942 = some (.dup, 1, 0, 0, 0) := rfl
theorem sl_206_943 : pm_206.2.2.2.2.2 943 = some (.sipush 156, 3, 0, 0, 0) := rfl
theorem sl_206_946 : pm_206.2.2.2.2.2 946 = some (.bipush 112, 2, 0, 0, 0) := rfl
theorem sl_206_948 : pm_206.2.2.2.2.2 948 = some (.iastore, 1, 0, 0, 0) := rfl
theorem sl_206_949 : pm_206.2.2.2.2.2 949 = some (.dup, 1, 0, 0, 0) := rfl
theorem sl_206_950 : pm_206.2.2.2.2.2 950 = some (.sipush 157, 3, 0, 0, 0) := rfl
theorem sl_206_953 : pm_206.2.2.2.2.2 953 = some (.iconst 0, 1, 0, 0, 0) := rfl
theorem sl_206_954 : pm_206.2.2.2.2.2 954 = some (.iastore, 1, 0, 0, 0) := rfl
theorem sl_206_955 : pm_206.2.2.2.2.2 955 = some (.dup, 1, 0, 0, 0) := rfl
theorem sl_206_956 : pm_206.2.2.2.2.2 956 = some (.sipush 158, 3, 0, 0, 0) := rfl
theorem sl_206_959 : pm_206.2.2.2.2.2 959 = some (.bipush 108, 2, 0, 0, 0) := rfl
theorem sl_206_961 : pm_206.2.2.2.2.2 961 = some (.iastore, 1, 0, 0, 0) := rfl
theorem sl_206_962 : pm_206.2.2.2.2.2 962 = some (.dup, 1, 0, 0, 0) := rfl
theorem sl_206_963 : pm_206.2.2.2.2.2 963 = some (.sipush 159, 3, 0, 0, 0) := rfl
theorem sl_206_966 : pm_206.2.2.2.2.2 966 = some (.bipush 111, 2, 0, 0, 0) := rfl
theorem sl_206_968 : pm_206.2.2.2.2.2 968 = some (.iastore, 1, 0, 0, 0) := rfl
theorem sl_206_969 : pm_206.2.2.2.2.2 969 = some (.dup, 1, 0, 0, 0) := rfl
theorem sl_206_970 : pm_206.2.2.2.2.2 970 = some (.sipush 160, 3, 0, 0, 0) := rfl
theorem sl_206_973 : pm_206.2.2.2.2.2 973 = some (.bipush 97, 2, 0, 0, 0) := rfl
theorem sl_206_975 : pm_206.2.2.2.2.2 975 = some (.iastore, 1, 0, 0, 0) := rfl
theorem sl_206_976 : pm_206.2.2.2.2.2 976 = some (.dup, 1, 0, 0, 0) := rfl
theorem sl_206_977 : pm_206.2.2.2.2.2 977 = some (.sipush 161, 3, 0, 0, 0) := rfl
theorem sl_206_980 : pm_206.2.2.2.2.2 980 = some (.bipush 100, 2, 0, 0, 0) := rfl
theorem sl_206_982 : pm_206.2.2.2.2.2 982 = some (.iastore, 1, 0, 0, 0) := rfl
theorem sl_206_983 : pm_206.2.2.2.2.2 983 = some (.dup, 1, 0, 0, 0) := rfl
theorem sl_206_984 : pm_206.2.2.2.2.2 984 = some (.sipush 162, 3, 0, 0, 0) := rfl
theorem sl_206_987 : pm_206.2.2.2.2.2 987 = some (.iconst 0, 1, 0, 0, 0) := rfl
theorem sl_206_988 : pm_206.2.2.2.2.2 988 = some (.iastore, 1, 0, 0, 0) := rfl
theorem sl_206_989 : pm_206.2.2.2.2.2 989 = some (.dup, 1, 0, 0, 0) := rfl
theorem sl_206_990 : pm_206.2.2.2.2.2 990 = some (.sipush 163, 3, 0, 0, 0) := rfl
theorem sl_206_993 : pm_206.2.2.2.2.2 993 = some (.bipush 115, 2, 0, 0, 0) := rfl
theorem sl_206_995 : pm_206.2.2.2.2.2 995 = some (.iastore, 1, 0, 0, 0) := rfl
theorem sl_206_996 : pm_206.2.2.2.2.2 996 = some (.dup, 1, 0, 0, 0) := rfl
theorem sl_206_997 : pm_206.2.2.2.2.2 997 = some (.sipush 164, 3, 0, 0, 0) := rfl
theorem sl_206_1000 : pm_206.2.2.2.2.2 1000 = some (.bipush 116, 2, 0, 0, 0) := rfl
theorem sl_206_1002 : pm_206.2.2.2.2.2 1002 = some (.iastore, 1, 0, 0, 0) := rfl
theorem sl_206_1003 : pm_206.2.2.2.2.2 1003 = some (.dup, 1, 0, 0, 0) := rfl
theorem sl_206_1004 : pm_206.2.2.2.2.2 1004 = some (.sipush 165, 3, 0, 0, 0) := rfl
theorem sl_206_1007 : pm_206.2.2.2.2.2 1007 = some (.bipush 111, 2, 0, 0, 0) := rfl
theorem sl_206_1009 : pm_206.2.2.2.2.2 1009 = some (.iastore, 1, 0, 0, 0) := rfl
theorem sl_206_1010 : pm_206.2.2.2.2.2 1010 = some (.dup, 1, 0, 0, 0) := rfl
theorem sl_206_1011 : pm_206.2.2.2.2.2 1011 = some (.sipush 166, 3, 0, 0, 0) := rfl
theorem sl_206_1014 : pm_206.2.2.2.2.2 1014 = some (.bipush 114, 2, 0, 0, 0) := rfl
theorem sl_206_1016 : pm_206.2.2.2.2.2 1016 = some (.iastore, 1, 0, 0, 0) := rfl
theorem sl_206_1017 : pm_206.2.2.2.2.2 1017 = some (.dup, 1, 0, 0, 0) := rfl
theorem sl_206_1018 : pm_206.2.2.2.2.2 1018 = some (.sipush 167, 3, 0, 0, 0) := rfl
theorem sl_206_1021 : pm_206.2.2.2.2.2 1021 = some (.bipush 101, 2, 0, 0, 0) := rfl
theorem sl_206_1023 : pm_206.2.2.2.2.2 1023 = some (.iastore, 1, 0, 0, 0) := rfl
theorem sl_206_1024 : pm_206.2.2.2.2.2 1024 = some (.dup, 1, 0, 0, 0) := rfl
theorem sl_206_1025 : pm_206.2.2.2.2.2 1025 = some (.sipush 168, 3, 0, 0, 0) := rfl
theorem sl_206_1028 : pm_206.2.2.2.2.2 1028 = some (.iconst 0, 1, 0, 0, 0) := rfl
theorem sl_206_1029 : pm_206.2.2.2.2.2 1029 = some (.iastore, 1, 0, 0, 0) := rfl
theorem sl_206_1030 : pm_206.2.2.2.2.2 1030 = some (.dup, 1, 0, 0, 0) := rfl
theorem sl_206_1031 : pm_206.2.2.2.2.2 1031 = some (.sipush 169, 3, 0, 0, 0) := rfl
theorem sl_206_1034 : pm_206.2.2.2.2.2 1034 = some (.bipush 118, 2, 0, 0, 0) := rfl
theorem sl_206_1036 : pm_206.2.2.2.2.2 1036 = some (.iastore, 1, 0, 0, 0) := rfl
theorem sl_206_1037 : pm_206.2.2.2.2.2 1037 = some (.dup, 1, 0, 0, 0) := rfl
theorem sl_206_1038 : pm_206.2.2.2.2.2 1038 = some (.sipush 170, 3, 0, 0, 0) := rfl
theorem sl_206_1041 : pm_206.2.2.2.2.2 1041 = some (.bipush 97, 2, 0, 0, 0) := rfl
theorem sl_206_1043 : pm_206.2.2.2.2.2 1043 = some (.iastore, 1, 0, 0, 0) := rfl
theorem sl_206_1044 : pm_206.2.2.2.2.2 1044 = some (.dup, 1, 0, 0, 0) := rfl
theorem sl_206_1045 : pm_206.2.2.2.2.2 1045 = some (.sipush 171, 3, 0, 0, 0) := rfl
theorem sl_206_1048 : pm_206.2.2.2.2.2 1048 = some (.bipush 108, 2, 0, 0, 0) := rfl
theorem sl_206_1050 : pm_206.2.2.2.2.2 1050 = some (.iastore, 1, 0, 0, 0) := rfl
theorem sl_206_1051 : pm_206.2.2.2.2.2 1051 = some (.dup, 1, 0, 0, 0) := rfl
theorem sl_206_1052 : pm_206.2.2.2.2.2 1052 = some (.sipush 172, 3, 0, 0, 0) := rfl
theorem sl_206_1055 : pm_206.2.2.2.2.2 1055 = some (.bipush 105, 2, 0, 0, 0) := rfl
theorem sl_206_1057 : pm_206.2.2.2.2.2 1057 = some (.iastore, 1, 0, 0, 0) := rfl
theorem sl_206_1058 : pm_206.2.2.2.2.2 1058 = some (.dup, 1, 0, 0, 0) := rfl
theorem sl_206_1059 : pm_206.2.2.2.2.2 1059 = some (.sipush 173, 3, 0, 0, 0) := rfl
theorem sl_206_1062 : pm_206.2.2.2.2.2 1062 = some (.bipush 100, 2, 0, 0, 0) := rfl
theorem sl_206_1064 : pm_206.2.2.2.2.2 1064 = some (.iastore, 1, 0, 0, 0) := rfl
theorem sl_206_1065 : pm_206.2.2.2.2.2 1065 = some (.dup, 1, 0, 0, 0) := rfl
theorem sl_206_1066 : pm_206.2.2.2.2.2 1066 = some (.sipush 174, 3, 0, 0, 0) := rfl
theorem sl_206_1069 : pm_206.2.2.2.2.2 1069 = some (.iconst 0, 1, 0, 0, 0) := rfl
theorem sl_206_1070 : pm_206.2.2.2.2.2 1070 = some (.iastore, 1, 0, 0, 0) := rfl
theorem sl_206_1071 : pm_206.2.2.2.2.2 1071 = some (.dup, 1, 0, 0, 0) := rfl
theorem sl_206_1072 : pm_206.2.2.2.2.2 1072 = some (.sipush 175, 3, 0, 0, 0) := rfl
theorem sl_206_1075 : pm_206.2.2.2.2.2 1075 = some (.bipush 97, 2, 0, 0, 0) := rfl
theorem sl_206_1077 : pm_206.2.2.2.2.2 1077 = some (.iastore, 1, 0, 0, 0) := rfl
theorem sl_206_1078 : pm_206.2.2.2.2.2 1078 = some (.dup, 1, 0, 0, 0) := rfl
theorem sl_206_1079 : pm_206.2.2.2.2.2 1079 = some (.sipush 176, 3, 0, 0, 0) := rfl
theorem sl_206_1082 : pm_206.2.2.2.2.2 1082 = some (.bipush 115, 2, 0, 0, 0) := rfl
theorem sl_206_1084 : pm_206.2.2.2.2.2 1084 = some (.iastore, 1, 0, 0, 0) := rfl
theorem sl_206_1085 : pm_206.2.2.2.2.2 1085 = some (.dup, 1, 0, 0, 0) := rfl
theorem sl_206_1086 : pm_206.2.2.2.2.2 1086 = some (.sipush 177, 3, 0, 0, 0) := rfl
theorem sl_206_1089 : pm_206.2.2.2.2.2 1089 = some (.iconst 0, 1, 0, 0, 0) := rfl
theorem sl_206_1090 : pm_206.2.2.2.2.2 1090 = some (.iastore, 1, 0, 0, 0) := rfl
theorem sl_206_1091 : pm_206.2.2.2.2.2 1091 = some (.putfield 7, 3, 12, 0, 0) := rfl
theorem sl_206_1094 : pm_206.2.2.2.2.2 1094 = some (.aload_n 0, 1, 0, 0, 0) := rfl
theorem sl_206_1095 : pm_206.2.2.2.2.2 1095 = some (.bipush 20, 2, 0, 0, 0) := rfl
theorem sl_206_1097 : pm_206.2.2.2.2.2 1097 = some (.newarray .int, 2, 0, 0, 0) := rfl
theorem sl_206_1099 : pm_206.2.2.2.2.2 1099 = some (.putfield 13, 3, 12, 2, 0) := rfl
theorem sl_206_1102 : pm_206.2.2.2.2.2 1102 = some (.aload_n 0, 1, 0, 0, 0) := rfl
theorem sl_206_1103 : pm_206.2.2.2.2.2 1103 = some (.sipush 4000, 3, 0, 0, 0) := rfl
theorem sl_206_1106 : pm_206.2.2.2.2.2 1106 = some (.newarray .int, 2, 0, 0, 0) := rfl
theorem sl_206_1108 : pm_206.2.2.2.2.2 1108 = some (.putfield 16, 3, 12, 3, 0) := rfl
theorem sl_206_1111 : pm_206.2.2.2.2.2 1111 = some (.aload_n 0, 1, 0, 0, 0) := rfl
theorem sl_206_1112 : pm_206.2.2.2.2.2 1112 = some (.sipush 4000, 3, 0, 0, 0) := rfl
theorem sl_206_1115 : pm_206.2.2.2.2.2 1115 = some (.newarray .int, 2, 0, 0, 0) := rfl
theorem sl_206_1117 : pm_206.2.2.2.2.2 1117 = some (.putfield 19, 3, 12, 4, 0) := rfl
theorem sl_206_1120 : pm_206.2.2.2.2.2 1120 = some (.aload_n 0, 1, 0, 0, 0) := rfl
theorem sl_206_1121 : pm_206.2.2.2.2.2 1121 = some (.iconst (-1), 1, 0, 0, 0) := rfl
theorem sl_206_1122 : pm_206.2.2.2.2.2 1122 = some (.putfield 22, 3, 12, 11, 0) := rfl
theorem sl_206_1125 : pm_206.2.2.2.2.2 1125 = some (.aload_n 0, 1, 0, 0, 0) := rfl
theorem sl_206_1126 : pm_206.2.2.2.2.2 1126 = some (.bipush 120, 2, 0, 0, 0) := rfl
theorem sl_206_1128 : pm_206.2.2.2.2.2 1128 = some (.newarray .int, 2, 0, 0, 0) := rfl
theorem sl_206_1130 : pm_206.2.2.2.2.2 1130 = some (.putfield 26, 3, 12, 14, 0) := rfl
theorem sl_206_1133 : pm_206.2.2.2.2.2 1133 = some (.aload_n 0, 1, 0, 0, 0) := rfl
theorem sl_206_1134 : pm_206.2.2.2.2.2 1134 = some (.bipush 120, 2, 0, 0, 0) := rfl
theorem sl_206_1136 : pm_206.2.2.2.2.2 1136 = some (.newarray .int, 2, 0, 0, 0) := rfl
theorem sl_206_1138 : pm_206.2.2.2.2.2 1138 = some (.putfield 29, 3, 12, 15, 0) := rfl
theorem sl_206_1141 : pm_206.2.2.2.2.2 1141 = some (.aload_n 0, 1, 0, 0, 0) := rfl
theorem sl_206_1142 : pm_206.2.2.2.2.2 1142 = some (.bipush 120, 2, 0, 0, 0) := rfl
theorem sl_206_1144 : pm_206.2.2.2.2.2 1144 = some (.newarray .int, 2, 0, 0, 0) := rfl
theorem sl_206_1146 : pm_206.2.2.2.2.2 1146 = some (.putfield 32, 3, 12, 16, 0) := rfl
theorem sl_206_1149 : pm_206.2.2.2.2.2 1149 = some (.aload_n 0, 1, 0, 0, 0) := rfl
theorem sl_206_1150 : pm_206.2.2.2.2.2 1150 = some (.bipush 120, 2, 0, 0, 0) := rfl
theorem sl_206_1152 : pm_206.2.2.2.2.2 1152 = some (.newarray .int, 2, 0, 0, 0) := rfl
theorem sl_206_1154 : pm_206.2.2.2.2.2 1154 = some (.putfield 35, 3, 12, 17, 0) := rfl
theorem sl_206_1157 : pm_206.2.2.2.2.2 1157 = some (.aload_n 0, 1, 0, 0, 0) := rfl
theorem sl_206_1158 : pm_206.2.2.2.2.2 1158 = some (.bipush 38, 2, 0, 0, 0) := rfl
theorem sl_206_1160 : pm_206.2.2.2.2.2 1160 = some (.newarray .int, 2, 0, 0, 0) := rfl
theorem sl_206_1162 : pm_206.2.2.2.2.2 1162 = some (.dup, 1, 0, 0, 0) := rfl
theorem sl_206_1163 : pm_206.2.2.2.2.2 1163 = some (.iconst 0, 1, 0, 0, 0) := rfl
theorem sl_206_1164 : pm_206.2.2.2.2.2 1164 = some (.bipush 105, 2, 0, 0, 0) := rfl
theorem sl_206_1166 : pm_206.2.2.2.2.2 1166 = some (.iastore, 1, 0, 0, 0) := rfl
theorem sl_206_1167 : pm_206.2.2.2.2.2 1167 = some (.dup, 1, 0, 0, 0) := rfl
theorem sl_206_1168 : pm_206.2.2.2.2.2 1168 = some (.iconst 1, 1, 0, 0, 0) := rfl
theorem sl_206_1169 : pm_206.2.2.2.2.2 1169 = some (.bipush 110, 2, 0, 0, 0) := rfl
theorem sl_206_1171 : pm_206.2.2.2.2.2 1171 = some (.iastore, 1, 0, 0, 0) := rfl
theorem sl_206_1172 : pm_206.2.2.2.2.2 1172 = some (.dup, 1, 0, 0, 0) := rfl
theorem sl_206_1173 : pm_206.2.2.2.2.2 1173 = some (.iconst 2, 1, 0, 0, 0) := rfl
theorem sl_206_1174 : pm_206.2.2.2.2.2 1174 = some (.bipush 95, 2, 0, 0, 0) := rfl
theorem sl_206_1176 : pm_206.2.2.2.2.2 1176 = some (.iastore, 1, 0, 0, 0) := rfl
theorem sl_206_1177 : pm_206.2.2.2.2.2 1177 = some (.dup, 1, 0, 0, 0) := rfl
theorem sl_206_1178 : pm_206.2.2.2.2.2 1178 = some (.iconst 3, 1, 0, 0, 0) := rfl
theorem sl_206_1179 : pm_206.2.2.2.2.2 1179 = some (.bipush 112, 2, 0, 0, 0) := rfl
theorem sl_206_1181 : pm_206.2.2.2.2.2 1181 = some (.iastore, 1, 0, 0, 0) := rfl
theorem sl_206_1182 : pm_206.2.2.2.2.2 1182 = some (.dup, 1, 0, 0, 0) := rfl
theorem sl_206_1183 : pm_206.2.2.2.2.2 1183 = some (.iconst 4, 1, 0, 0, 0) := rfl
theorem sl_206_1184 : pm_206.2.2.2.2.2 1184 = some (.bipush 111, 2, 0, 0, 0) := rfl
theorem sl_206_1186 : pm_206.2.2.2.2.2 1186 = some (.iastore, 1, 0, 0, 0) := rfl
theorem sl_206_1187 : pm_206.2.2.2.2.2 1187 = some (.dup, 1, 0, 0, 0) := rfl
theorem sl_206_1188 : pm_206.2.2.2.2.2 1188 = some (.iconst 5, 1, 0, 0, 0) := rfl
theorem sl_206_1189 : pm_206.2.2.2.2.2 1189 = some (.bipush 114, 2, 0, 0, 0) := rfl
theorem sl_206_1191 : pm_206.2.2.2.2.2 1191 = some (.iastore, 1, 0, 0, 0) := rfl
theorem sl_206_1192 : pm_206.2.2.2.2.2 1192 = some (.dup, 1, 0, 0, 0) := rfl
theorem sl_206_1193 : pm_206.2.2.2.2.2 1193 = some (.bipush 6, 2, 0, 0, 0) := rfl
theorem sl_206_1195 : pm_206.2.2.2.2.2 1195 = some (.bipush 116, 2, 0, 0, 0) := rfl
theorem sl_206_1197 : pm_206.2.2.2.2.2 1197 = some (.iastore, 1, 0, 0, 0) := rfl
theorem sl_206_1198 : pm_206.2.2.2.2.2 1198 = some (.dup, 1, 0, 0, 0) := rfl
theorem sl_206_1199 : pm_206.2.2.2.2.2 1199 = some (.bipush 7, 2, 0, 0, 0) := rfl
theorem sl_206_1201 : pm_206.2.2.2.2.2 1201 = some (.iconst 0, 1, 0, 0, 0) := rfl
theorem sl_206_1202 : pm_206.2.2.2.2.2 1202 = some (.iastore, 1, 0, 0, 0) := rfl
theorem sl_206_1203 : pm_206.2.2.2.2.2 1203 = some (.dup, 1, 0, 0, 0) := rfl
theorem sl_206_1204 : pm_206.2.2.2.2.2 1204 = some (.bipush 8, 2, 0, 0, 0) := rfl
theorem sl_206_1206 : pm_206.2.2.2.2.2 1206 = some (.bipush 108, 2, 0, 0, 0) := rfl
theorem sl_206_1208 : pm_206.2.2.2.2.2 1208 = some (.iastore, 1, 0, 0, 0) := rfl
theorem sl_206_1209 : pm_206.2.2.2.2.2 1209 = some (.dup, 1, 0, 0, 0) := rfl
theorem sl_206_1210 : pm_206.2.2.2.2.2 1210 = some (.bipush 9, 2, 0, 0, 0) := rfl
theorem sl_206_1212 : pm_206.2.2.2.2.2 1212 = some (.bipush 101, 2, 0, 0, 0) := rfl
theorem sl_206_1214 : pm_206.2.2.2.2.2 1214 = some (.iastore, 1, 0, 0, 0) := rfl
theorem sl_206_1215 : pm_206.2.2.2.2.2 1215 = some (.dup, 1, 0, 0, 0) := rfl
theorem sl_206_1216 : pm_206.2.2.2.2.2 1216 = some (.bipush 10, 2, 0, 0, 0) := rfl
theorem sl_206_1218 : pm_206.2.2.2.2.2 1218 = some (.bipush 110, 2, 0, 0, 0) := rfl
theorem sl_206_1220 : pm_206.2.2.2.2.2 1220 = some (.iastore, 1, 0, 0, 0) := rfl
theorem sl_206_1221 : pm_206.2.2.2.2.2 1221 = some (.dup, 1, 0, 0, 0) := rfl
theorem sl_206_1222 : pm_206.2.2.2.2.2 1222 = some (.bipush 11, 2, 0, 0, 0) := rfl
theorem sl_206_1224 : pm_206.2.2.2.2.2 1224 = some (.bipush 103, 2, 0, 0, 0) := rfl
theorem sl_206_1226 : pm_206.2.2.2.2.2 1226 = some (.iastore, 1, 0, 0, 0) := rfl
theorem sl_206_1227 : pm_206.2.2.2.2.2 1227 = some (.dup, 1, 0, 0, 0) := rfl
theorem sl_206_1228 : pm_206.2.2.2.2.2 1228 = some (.bipush 12, 2, 0, 0, 0) := rfl
theorem sl_206_1230 : pm_206.2.2.2.2.2 1230 = some (.bipush 116, 2, 0, 0, 0) := rfl
theorem sl_206_1232 : pm_206.2.2.2.2.2 1232 = some (.iastore, 1, 0, 0, 0) := rfl
theorem sl_206_1233 : pm_206.2.2.2.2.2 1233 = some (.dup, 1, 0, 0, 0) := rfl
theorem sl_206_1234 : pm_206.2.2.2.2.2 1234 = some (.bipush 13, 2, 0, 0, 0) := rfl
theorem sl_206_1236 : pm_206.2.2.2.2.2 1236 = some (.bipush 104, 2, 0, 0, 0) := rfl
theorem sl_206_1238 : pm_206.2.2.2.2.2 1238 = some (.iastore, 1, 0, 0, 0) := rfl
theorem sl_206_1239 : pm_206.2.2.2.2.2 1239 = some (.dup, 1, 0, 0, 0) := rfl
theorem sl_206_1240 : pm_206.2.2.2.2.2 1240 = some (.bipush 14, 2, 0, 0, 0) := rfl
theorem sl_206_1242 : pm_206.2.2.2.2.2 1242 = some (.iconst 0, 1, 0, 0, 0) := rfl
theorem sl_206_1243 : pm_206.2.2.2.2.2 1243 = some (.iastore, 1, 0, 0, 0) := rfl
theorem sl_206_1244 : pm_206.2.2.2.2.2 1244 = some (.dup, 1, 0, 0, 0) := rfl
theorem sl_206_1245 : pm_206.2.2.2.2.2 1245 = some (.bipush 15, 2, 0, 0, 0) := rfl
theorem sl_206_1247 : pm_206.2.2.2.2.2 1247 = some (.bipush 111, 2, 0, 0, 0) := rfl
theorem sl_206_1249 : pm_206.2.2.2.2.2 1249 = some (.iastore, 1, 0, 0, 0) := rfl
theorem sl_206_1250 : pm_206.2.2.2.2.2 1250 = some (.dup, 1, 0, 0, 0) := rfl
theorem sl_206_1251 : pm_206.2.2.2.2.2 1251 = some (.bipush 16, 2, 0, 0, 0) := rfl
theorem sl_206_1253 : pm_206.2.2.2.2.2 1253 = some (.bipush 117, 2, 0, 0, 0) := rfl
theorem sl_206_1255 : pm_206.2.2.2.2.2 1255 = some (.iastore, 1, 0, 0, 0) := rfl
theorem sl_206_1256 : pm_206.2.2.2.2.2 1256 = some (.dup, 1, 0, 0, 0) := rfl
theorem sl_206_1257 : pm_206.2.2.2.2.2 1257 = some (.bipush 17, 2, 0, 0, 0) := rfl
theorem sl_206_1259 : pm_206.2.2.2.2.2 1259 = some (.bipush 116, 2, 0, 0, 0) := rfl
theorem sl_206_1261 : pm_206.2.2.2.2.2 1261 = some (.iastore, 1, 0, 0, 0) := rfl
theorem sl_206_1262 : pm_206.2.2.2.2.2 1262 = some (.dup, 1, 0, 0, 0) := rfl
theorem sl_206_1263 : pm_206.2.2.2.2.2 1263 = some (.bipush 18, 2, 0, 0, 0) := rfl
theorem sl_206_1265 : pm_206.2.2.2.2.2 1265 = some (.bipush 95, 2, 0, 0, 0) := rfl
theorem sl_206_1267 : pm_206.2.2.2.2.2 1267 = some (.iastore, 1, 0, 0, 0) := rfl
theorem sl_206_1268 : pm_206.2.2.2.2.2 1268 = some (.dup, 1, 0, 0, 0) := rfl
theorem sl_206_1269 : pm_206.2.2.2.2.2 1269 = some (.bipush 19, 2, 0, 0, 0) := rfl
theorem sl_206_1271 : pm_206.2.2.2.2.2 1271 = some (.bipush 112, 2, 0, 0, 0) := rfl
theorem sl_206_1273 : pm_206.2.2.2.2.2 1273 = some (.iastore, 1, 0, 0, 0) := rfl
theorem sl_206_1274 : pm_206.2.2.2.2.2 1274 = some (.dup, 1, 0, 0, 0) := rfl
theorem sl_206_1275 : pm_206.2.2.2.2.2 1275 = some (.bipush 20, 2, 0, 0, 0) := rfl
theorem sl_206_1277 : pm_206.2.2.2.2.2 1277 = some (.bipush 111, 2, 0, 0, 0) := rfl
theorem sl_206_1279 : pm_206.2.2.2.2.2 1279 = some (.iastore, 1, 0, 0, 0) := rfl
theorem sl_206_1280 : pm_206.2.2.2.2.2 1280 = some (.dup, 1, 0, 0, 0) := rfl
theorem sl_206_1281 : pm_206.2.2.2.2.2 1281 = some (.bipush 21, 2, 0, 0, 0) := rfl
theorem sl_206_1283 : pm_206.2.2.2.2.2 1283 = some (.bipush 114, 2, 0, 0, 0) := rfl
theorem sl_206_1285 : pm_206.2.2.2.2.2 1285 = some (.iastore, 1, 0, 0, 0) := rfl
theorem sl_206_1286 : pm_206.2.2.2.2.2 1286 = some (.dup, 1, 0, 0, 0) := rfl
theorem sl_206_1287 : pm_206.2.2.2.2.2 1287 = some (.bipush 22, 2, 0, 0, 0) := rfl
theorem sl_206_1289 : pm_206.2.2.2.2.2 1289 = some (.bipush 116, 2, 0, 0, 0) := rfl
theorem sl_206_1291 : pm_206.2.2.2.2.2 1291 = some (.iastore, 1, 0, 0, 0) := rfl
theorem sl_206_1292 : pm_206.2.2.2.2.2 1292 = some (.dup, 1, 0, 0, 0) := rfl
theorem sl_206_1293 : pm_206.2.2.2.2.2 1293 = some (.bipush 23, 2, 0, 0, 0) := rfl
theorem sl_206_1295 : pm_206.2.2.2.2.2 1295 = some (.iconst 0, 1, 0, 0, 0) := rfl
theorem sl_206_1296 : pm_206.2.2.2.2.2 1296 = some (.iastore, 1, 0, 0, 0) := rfl
theorem sl_206_1297 : pm_206.2.2.2.2.2 1297 = some (.dup, 1, 0, 0, 0) := rfl
theorem sl_206_1298 : pm_206.2.2.2.2.2 1298 = some (.bipush 24, 2, 0, 0, 0) := rfl
theorem sl_206_1300 : pm_206.2.2.2.2.2 1300 = some (.bipush 97, 2, 0, 0, 0) := rfl
theorem sl_206_1302 : pm_206.2.2.2.2.2 1302 = some (.iastore, 1, 0, 0, 0) := rfl
theorem sl_206_1303 : pm_206.2.2.2.2.2 1303 = some (.dup, 1, 0, 0, 0) := rfl
theorem sl_206_1304 : pm_206.2.2.2.2.2 1304 = some (.bipush 25, 2, 0, 0, 0) := rfl
theorem sl_206_1306 : pm_206.2.2.2.2.2 1306 = some (.bipush 99, 2, 0, 0, 0) := rfl
theorem sl_206_1308 : pm_206.2.2.2.2.2 1308 = some (.iastore, 1, 0, 0, 0) := rfl
theorem sl_206_1309 : pm_206.2.2.2.2.2 1309 = some (.dup, 1, 0, 0, 0) := rfl
theorem sl_206_1310 : pm_206.2.2.2.2.2 1310 = some (.bipush 26, 2, 0, 0, 0) := rfl
theorem sl_206_1312 : pm_206.2.2.2.2.2 1312 = some (.bipush 99, 2, 0, 0, 0) := rfl
theorem sl_206_1314 : pm_206.2.2.2.2.2 1314 = some (.iastore, 1, 0, 0, 0) := rfl
theorem sl_206_1315 : pm_206.2.2.2.2.2 1315 = some (.dup, 1, 0, 0, 0) := rfl
theorem sl_206_1316 : pm_206.2.2.2.2.2 1316 = some (.bipush 27, 2, 0, 0, 0) := rfl
theorem sl_206_1318 : pm_206.2.2.2.2.2 1318 = some (.bipush 101, 2, 0, 0, 0) := rfl
theorem sl_206_1320 : pm_206.2.2.2.2.2 1320 = some (.iastore, 1, 0, 0, 0) := rfl
theorem sl_206_1321 : pm_206.2.2.2.2.2 1321 = some (.dup, 1, 0, 0, 0) := rfl
theorem sl_206_1322 : pm_206.2.2.2.2.2 1322 = some (.bipush 28, 2, 0, 0, 0) := rfl
theorem sl_206_1324 : pm_206.2.2.2.2.2 1324 = some (.bipush 112, 2, 0, 0, 0) := rfl
theorem sl_206_1326 : pm_206.2.2.2.2.2 1326 = some (.iastore, 1, 0, 0, 0) := rfl
theorem sl_206_1327 : pm_206.2.2.2.2.2 1327 = some (.dup, 1, 0, 0, 0) := rfl
theorem sl_206_1328 : pm_206.2.2.2.2.2 1328 = some (.bipush 29, 2, 0, 0, 0) := rfl
theorem sl_206_1330 : pm_206.2.2.2.2.2 1330 = some (.bipush 116, 2, 0, 0, 0) := rfl
theorem sl_206_1332 : pm_206.2.2.2.2.2 1332 = some (.iastore, 1, 0, 0, 0) := rfl
theorem sl_206_1333 : pm_206.2.2.2.2.2 1333 = some (.dup, 1, 0, 0, 0) := rfl
theorem sl_206_1334 : pm_206.2.2.2.2.2 1334 = some (.bipush 30, 2, 0, 0, 0) := rfl
theorem sl_206_1336 : pm_206.2.2.2.2.2 1336 = some (.iconst 0, 1, 0, 0, 0) := rfl
theorem sl_206_1337 : pm_206.2.2.2.2.2 1337 = some (.iastore, 1, 0, 0, 0) := rfl
theorem sl_206_1338 : pm_206.2.2.2.2.2 1338 = some (.dup, 1, 0, 0, 0) := rfl
theorem sl_206_1339 : pm_206.2.2.2.2.2 1339 = some (.bipush 31, 2, 0, 0, 0) := rfl
theorem sl_206_1341 : pm_206.2.2.2.2.2 1341 = some (.bipush 114, 2, 0, 0, 0) := rfl
theorem sl_206_1343 : pm_206.2.2.2.2.2 1343 = some (.iastore, 1, 0, 0, 0) := rfl
theorem sl_206_1344 : pm_206.2.2.2.2.2 1344 = some (.dup, 1, 0, 0, 0) := rfl
theorem sl_206_1345 : pm_206.2.2.2.2.2 1345 = some (.bipush 32, 2, 0, 0, 0) := rfl
theorem sl_206_1347 : pm_206.2.2.2.2.2 1347 = some (.bipush 101, 2, 0, 0, 0) := rfl
theorem sl_206_1349 : pm_206.2.2.2.2.2 1349 = some (.iastore, 1, 0, 0, 0) := rfl
theorem sl_206_1350 : pm_206.2.2.2.2.2 1350 = some (.dup, 1, 0, 0, 0) := rfl
theorem sl_206_1351 : pm_206.2.2.2.2.2 1351 = some (.bipush 33, 2, 0, 0, 0) := rfl
theorem sl_206_1353 : pm_206.2.2.2.2.2 1353 = some (.bipush 106, 2, 0, 0, 0) := rfl
theorem sl_206_1355 : pm_206.2.2.2.2.2 1355 = some (.iastore, 1, 0, 0, 0) := rfl
theorem sl_206_1356 : pm_206.2.2.2.2.2 1356 = some (.dup, 1, 0, 0, 0) := rfl
theorem sl_206_1357 : pm_206.2.2.2.2.2 1357 = some (.bipush 34, 2, 0, 0, 0) := rfl
theorem sl_206_1359 : pm_206.2.2.2.2.2 1359 = some (.bipush 101, 2, 0, 0, 0) := rfl
theorem sl_206_1361 : pm_206.2.2.2.2.2 1361 = some (.iastore, 1, 0, 0, 0) := rfl
theorem sl_206_1362 : pm_206.2.2.2.2.2 1362 = some (.dup, 1, 0, 0, 0) := rfl
theorem sl_206_1363 : pm_206.2.2.2.2.2 1363 = some (.bipush 35, 2, 0, 0, 0) := rfl
theorem sl_206_1365 : pm_206.2.2.2.2.2 1365 = some (.bipush 99, 2, 0, 0, 0) := rfl
theorem sl_206_1367 : pm_206.2.2.2.2.2 1367 = some (.iastore, 1, 0, 0, 0) := rfl
theorem sl_206_1368 : pm_206.2.2.2.2.2 1368 = some (.dup, 1, 0, 0, 0) := rfl
theorem sl_206_1369 : pm_206.2.2.2.2.2 1369 = some (.bipush 36, 2, 0, 0, 0) := rfl
theorem sl_206_1371 : pm_206.2.2.2.2.2 1371 = some (.bipush 116, 2, 0, 0, 0) := rfl
theorem sl_206_1373 : pm_206.2.2.2.2.2 1373 = some (.iastore, 1, 0, 0, 0) := rfl
theorem sl_206_1374 : pm_206.2.2.2.2.2 1374 = some (.dup, 1, 0, 0, 0) := rfl
theorem sl_206_1375 : pm_206.2.2.2.2.2 1375 = some (.bipush 37, 2, 0, 0, 0) := rfl
theorem sl_206_1377 : pm_206.2.2.2.2.2 1377 = some (.iconst 0, 1, 0, 0, 0) := rfl
theorem sl_206_1378 : pm_206.2.2.2.2.2 1378 = some (.iastore, 1, 0, 0, 0) := rfl
theorem sl_206_1379 : pm_206.2.2.2.2.2 1379 = some (.putfield 38, 3, 12, 18, 0) := rfl
theorem sl_206_1382 : pm_206.2.2.2.2.2 1382 = some (.aload_n 0, 1, 0, 0, 0) := rfl
theorem sl_206_1383 : pm_206.2.2.2.2.2 1383 = some (.bipush 12, 2, 0, 0, 0) := rfl
theorem sl_206_1385 : pm_206.2.2.2.2.2 1385 = some (.newarray .int, 2, 0, 0, 0) := rfl
theorem sl_206_1387 : pm_206.2.2.2.2.2 1387 = some (.putfield 41, 3, 12, 29, 0) := rfl
theorem sl_206_1390 : pm_206.2.2.2.2.2 1390 = some (.aload_n 0, 1, 0, 0, 0) := rfl
theorem sl_206_1391 : pm_206.2.2.2.2.2 1391 = some (.bipush 12, 2, 0, 0, 0) := rfl
theorem sl_206_1393 : pm_206.2.2.2.2.2 1393 = some (.newarray .int, 2, 0, 0, 0) := rfl
theorem sl_206_1395 : pm_206.2.2.2.2.2 1395 = some (.putfield 44, 3, 12, 30, 0) := rfl
theorem sl_206_1398 : pm_206.2.2.2.2.2 1398 = some (.aload_n 0, 1, 0, 0, 0) := rfl
theorem sl_206_1399 : pm_206.2.2.2.2.2 1399 = some (.sipush 192, 3, 0, 0, 0) := rfl
theorem sl_206_1402 : pm_206.2.2.2.2.2 1402 = some (.newarray .int, 2, 0, 0, 0) := rfl
theorem sl_206_1404 : pm_206.2.2.2.2.2 1404 = some (.putfield 47, 3, 12, 31, 0) := rfl
theorem sl_206_1407 : pm_206.2.2.2.2.2 1407 = some (.aload_n 0, 1, 0, 0, 0) := rfl
theorem sl_206_1408 : pm_206.2.2.2.2.2 1408 = some (.sipush 192, 3, 0, 0, 0) := rfl
theorem sl_206_1411 : pm_206.2.2.2.2.2 1411 = some (.newarray .int, 2, 0, 0, 0) := rfl
theorem sl_206_1413 : pm_206.2.2.2.2.2 1413 = some (.putfield 50, 3, 12, 32, 0) := rfl
theorem sl_206_1416 : pm_206.2.2.2.2.2 1416 = some (.aload_n 0, 1, 0, 0, 0) := rfl
theorem sl_206_1417 : pm_206.2.2.2.2.2 1417 = some (.sipush 192, 3, 0, 0, 0) := rfl
theorem sl_206_1420 : pm_206.2.2.2.2.2 1420 = some (.newarray .int, 2, 0, 0, 0) := rfl
theorem sl_206_1422 : pm_206.2.2.2.2.2 1422 = some (.putfield 53, 3, 12, 33, 0) := rfl
theorem sl_206_1425 : pm_206.2.2.2.2.2 1425 = some (.aload_n 0, 1, 0, 0, 0) := rfl
theorem sl_206_1426 : pm_206.2.2.2.2.2 1426 = some (.bipush 12, 2, 0, 0, 0) := rfl
theorem sl_206_1428 : pm_206.2.2.2.2.2 1428 = some (.newarray .int, 2, 0, 0, 0) := rfl
theorem sl_206_1430 : pm_206.2.2.2.2.2 1430 = some (.putfield 56, 3, 12, 34, 0) := rfl
theorem sl_206_1433 : pm_206.2.2.2.2.2 1433 = some (.aload_n 0, 1, 0, 0, 0) := rfl
theorem sl_206_1434 : pm_206.2.2.2.2.2 1434 = some (.bipush 16, 2, 0, 0, 0) := rfl
theorem sl_206_1436 : pm_206.2.2.2.2.2 1436 = some (.newarray .int, 2, 0, 0, 0) := rfl
theorem sl_206_1438 : pm_206.2.2.2.2.2 1438 = some (.putfield 59, 3, 12, 35, 0) := rfl
theorem sl_206_1441 : pm_206.2.2.2.2.2 1441 = some (.aload_n 0, 1, 0, 0, 0) := rfl
theorem sl_206_1442 : pm_206.2.2.2.2.2 1442 = some (.bipush 8, 2, 0, 0, 0) := rfl
theorem sl_206_1444 : pm_206.2.2.2.2.2 1444 = some (.newarray .int, 2, 0, 0, 0) := rfl
theorem sl_206_1446 : pm_206.2.2.2.2.2 1446 = some (.putfield 62, 3, 12, 36, 0) := rfl
theorem sl_206_1449 : pm_206.2.2.2.2.2 1449 = some (.aload_n 0, 1, 0, 0, 0) := rfl
theorem sl_206_1450 : pm_206.2.2.2.2.2 1450 = some (.bipush 16, 2, 0, 0, 0) := rfl
theorem sl_206_1452 : pm_206.2.2.2.2.2 1452 = some (.newarray .int, 2, 0, 0, 0) := rfl
theorem sl_206_1454 : pm_206.2.2.2.2.2 1454 = some (.putfield 65, 3, 12, 37, 0) := rfl
theorem sl_206_1457 : pm_206.2.2.2.2.2 1457 = some (.aload_n 0, 1, 0, 0, 0) := rfl
theorem sl_206_1458 : pm_206.2.2.2.2.2 1458 = some (.bipush 16, 2, 0, 0, 0) := rfl
theorem sl_206_1460 : pm_206.2.2.2.2.2 1460 = some (.newarray .int, 2, 0, 0, 0) := rfl
theorem sl_206_1462 : pm_206.2.2.2.2.2 1462 = some (.putfield 68, 3, 12, 38, 0) := rfl
theorem sl_206_1465 : pm_206.2.2.2.2.2 1465 = some (.aload_n 0, 1, 0, 0, 0) := rfl
theorem sl_206_1466 : pm_206.2.2.2.2.2 1466 = some (.bipush 16, 2, 0, 0, 0) := rfl
theorem sl_206_1468 : pm_206.2.2.2.2.2 1468 = some (.newarray .int, 2, 0, 0, 0) := rfl
theorem sl_206_1470 : pm_206.2.2.2.2.2 1470 = some (.putfield 71, 3, 12, 39, 0) := rfl
theorem sl_206_1473 : pm_206.2.2.2.2.2 1473 = some (.aload_n 0, 1, 0, 0, 0) := rfl
theorem sl_206_1474 : pm_206.2.2.2.2.2 1474 = some (.bipush 16, 2, 0, 0, 0) := rfl
theorem sl_206_1476 : pm_206.2.2.2.2.2 1476 = some (.newarray .int, 2, 0, 0, 0) := rfl
theorem sl_206_1478 : pm_206.2.2.2.2.2 1478 = some (.putfield 74, 3, 12, 40, 0) := rfl
theorem sl_206_1481 : pm_206.2.2.2.2.2 1481 = some (.aload_n 0, 1, 0, 0, 0) := rfl
theorem sl_206_1482 : pm_206.2.2.2.2.2 1482 = some (.bipush 16, 2, 0, 0, 0) := rfl
theorem sl_206_1484 : pm_206.2.2.2.2.2 1484 = some (.newarray .int, 2, 0, 0, 0) := rfl
theorem sl_206_1486 : pm_206.2.2.2.2.2 1486 = some (.putfield 77, 3, 12, 41, 0) := rfl
theorem sl_206_1489 : pm_206.2.2.2.2.2 1489 = some (.aload_n 0, 1, 0, 0, 0) := rfl
theorem sl_206_1490 : pm_206.2.2.2.2.2 1490 = some (.bipush 16, 2, 0, 0, 0) := rfl
theorem sl_206_1492 : pm_206.2.2.2.2.2 1492 = some (.newarray .int, 2, 0, 0, 0) := rfl
theorem sl_206_1494 : pm_206.2.2.2.2.2 1494 = some (.putfield 80, 3, 12, 42, 0) := rfl
theorem sl_206_1497 : pm_206.2.2.2.2.2 1497 = some (.aload_n 0, 1, 0, 0, 0) := rfl
theorem sl_206_1498 : pm_206.2.2.2.2.2 1498 = some (.bipush 16, 2, 0, 0, 0) := rfl
theorem sl_206_1500 : pm_206.2.2.2.2.2 1500 = some (.newarray .int, 2, 0, 0, 0) := rfl
theorem sl_206_1502 : pm_206.2.2.2.2.2 1502 = some (.putfield 83, 3, 12, 43, 0) := rfl
theorem sl_206_1505 : pm_206.2.2.2.2.2 1505 = some (.aload_n 0, 1, 0, 0, 0) := rfl
theorem sl_206_1506 : pm_206.2.2.2.2.2 1506 = some (.bipush 16, 2, 0, 0, 0) := rfl
theorem sl_206_1508 : pm_206.2.2.2.2.2 1508 = some (.newarray .int, 2, 0, 0, 0) := rfl
theorem sl_206_1510 : pm_206.2.2.2.2.2 1510 = some (.putfield 86, 3, 12, 44, 0) := rfl
theorem sl_206_1513 : pm_206.2.2.2.2.2 1513 = some (.aload_n 0, 1, 0, 0, 0) := rfl
theorem sl_206_1514 : pm_206.2.2.2.2.2 1514 = some (.sipush 128, 3, 0, 0, 0) := rfl
theorem sl_206_1517 : pm_206.2.2.2.2.2 1517 = some (.newarray .int, 2, 0, 0, 0) := rfl
theorem sl_206_1519 : pm_206.2.2.2.2.2 1519 = some (.putfield 89, 3, 12, 45, 0) := rfl
theorem sl_206_1522 : pm_206.2.2.2.2.2 1522 = some (.aload_n 0, 1, 0, 0, 0) := rfl
theorem sl_206_1523 : pm_206.2.2.2.2.2 1523 = some (.bipush 16, 2, 0, 0, 0) := rfl
theorem sl_206_1525 : pm_206.2.2.2.2.2 1525 = some (.newarray .int, 2, 0, 0, 0) := rfl
theorem sl_206_1527 : pm_206.2.2.2.2.2 1527 = some (.putfield 92, 3, 12, 46, 0) := rfl
theorem sl_206_1530 : pm_206.2.2.2.2.2 1530 = some (.aload_n 0, 1, 0, 0, 0) := rfl
theorem sl_206_1531 : pm_206.2.2.2.2.2 1531 = some (.bipush 64, 2, 0, 0, 0) := rfl
theorem sl_206_1533 : pm_206.2.2.2.2.2 1533 = some (.newarray .int, 2, 0, 0, 0) := rfl
theorem sl_206_1535 : pm_206.2.2.2.2.2 1535 = some (.putfield 95, 3, 12, 47, 0) := rfl
theorem sl_206_1538 : pm_206.2.2.2.2.2 1538 = some (.aload_n 0, 1, 0, 0, 0) := rfl
theorem sl_206_1539 : pm_206.2.2.2.2.2 1539 = some (.bipush 64, 2, 0, 0, 0) := rfl
theorem sl_206_1541 : pm_206.2.2.2.2.2 1541 = some (.newarray .int, 2, 0, 0, 0) := rfl
theorem sl_206_1543 : pm_206.2.2.2.2.2 1543 = some (.putfield 98, 3, 12, 48, 0) := rfl
theorem sl_206_1546 : pm_206.2.2.2.2.2 1546 = some (.aload_n 0, 1, 0, 0, 0) := rfl
theorem sl_206_1547 : pm_206.2.2.2.2.2 1547 = some (.bipush 64, 2, 0, 0, 0) := rfl
theorem sl_206_1549 : pm_206.2.2.2.2.2 1549 = some (.newarray .int, 2, 0, 0, 0) := rfl
theorem sl_206_1551 : pm_206.2.2.2.2.2 1551 = some (.putfield 101, 3, 12, 49, 0) := rfl
theorem sl_206_1554 : pm_206.2.2.2.2.2 1554 = some (.aload_n 0, 1, 0, 0, 0) := rfl
theorem sl_206_1555 : pm_206.2.2.2.2.2 1555 = some (.bipush 16, 2, 0, 0, 0) := rfl
theorem sl_206_1557 : pm_206.2.2.2.2.2 1557 = some (.newarray .int, 2, 0, 0, 0) := rfl
theorem sl_206_1559 : pm_206.2.2.2.2.2 1559 = some (.putfield 104, 3, 12, 50, 0) := rfl
theorem sl_206_1562 : pm_206.2.2.2.2.2 1562 = some (.aload_n 0, 1, 0, 0, 0) := rfl
theorem sl_206_1563 : pm_206.2.2.2.2.2 1563 = some (.bipush 8, 2, 0, 0, 0) := rfl
theorem sl_206_1565 : pm_206.2.2.2.2.2 1565 = some (.newarray .int, 2, 0, 0, 0) := rfl
theorem sl_206_1567 : pm_206.2.2.2.2.2 1567 = some (.putfield 107, 3, 12, 51, 0) := rfl
theorem sl_206_1570 : pm_206.2.2.2.2.2 1570 = some (.aload_n 0, 1, 0, 0, 0) := rfl
theorem sl_206_1571 : pm_206.2.2.2.2.2 1571 = some (.bipush 8, 2, 0, 0, 0) := rfl
theorem sl_206_1573 : pm_206.2.2.2.2.2 1573 = some (.newarray .int, 2, 0, 0, 0) := rfl
theorem sl_206_1575 : pm_206.2.2.2.2.2 1575 = some (.putfield 110, 3, 12, 52, 0) := rfl
theorem sl_206_1578 : pm_206.2.2.2.2.2 1578 = some (.aload_n 0, 1, 0, 0, 0) := rfl
theorem sl_206_1579 : pm_206.2.2.2.2.2 1579 = some (.bipush 8, 2, 0, 0, 0) := rfl
theorem sl_206_1581 : pm_206.2.2.2.2.2 1581 = some (.newarray .int, 2, 0, 0, 0) := rfl
theorem sl_206_1583 : pm_206.2.2.2.2.2 1583 = some (.putfield 113, 3, 12, 53, 0) := rfl
theorem sl_206_1586 : pm_206.2.2.2.2.2 1586 = some (.aload_n 0, 1, 0, 0, 0) := rfl
theorem sl_206_1587 : pm_206.2.2.2.2.2 1587 = some (.bipush 8, 2, 0, 0, 0) := rfl
theorem sl_206_1589 : pm_206.2.2.2.2.2 1589 = some (.newarray .int, 2, 0, 0, 0) := rfl
theorem sl_206_1591 : pm_206.2.2.2.2.2 1591 = some (.putfield 116, 3, 12, 54, 0) := rfl
theorem sl_206_1594 : pm_206.2.2.2.2.2 1594 = some (.aload_n 0, 1, 0, 0, 0) := rfl
theorem sl_206_1595 : pm_206.2.2.2.2.2 1595 = some (.bipush 8, 2, 0, 0, 0) := rfl
theorem sl_206_1597 : pm_206.2.2.2.2.2 1597 = some (.newarray .int, 2, 0, 0, 0) := rfl
theorem sl_206_1599 : pm_206.2.2.2.2.2 1599 = some (.putfield 119, 3, 12, 55, 0) := rfl
theorem sl_206_1602 : pm_206.2.2.2.2.2 1602 = some (.aload_n 0, 1, 0, 0, 0) := rfl
theorem sl_206_1603 : pm_206.2.2.2.2.2 1603 = some (.bipush 8, 2, 0, 0, 0) := rfl
theorem sl_206_1605 : pm_206.2.2.2.2.2 1605 = some (.newarray .int, 2, 0, 0, 0) := rfl
theorem sl_206_1607 : pm_206.2.2.2.2.2 1607 = some (.putfield 122, 3, 12, 56, 0) := rfl
theorem sl_206_1610 : pm_206.2.2.2.2.2 1610 = some (.aload_n 0, 1, 0, 0, 0) := rfl
theorem sl_206_1611 : pm_206.2.2.2.2.2 1611 = some (.bipush 8, 2, 0, 0, 0) := rfl
theorem sl_206_1613 : pm_206.2.2.2.2.2 1613 = some (.newarray .int, 2, 0, 0, 0) := rfl
theorem sl_206_1615 : pm_206.2.2.2.2.2 1615 = some (.putfield 125, 3, 12, 57, 0) := rfl
theorem sl_206_1618 : pm_206.2.2.2.2.2 1618 = some (.aload_n 0, 1, 0, 0, 0) := rfl
theorem sl_206_1619 : pm_206.2.2.2.2.2 1619 = some (.bipush 8, 2, 0, 0, 0) := rfl
theorem sl_206_1621 : pm_206.2.2.2.2.2 1621 = some (.newarray .boolean, 2, 3, 0, 0) := rfl
theorem sl_206_1623 : pm_206.2.2.2.2.2 1623 = some (.putfield 128, 3, 12, 58, 0) := rfl
theorem sl_206_1626 : pm_206.2.2.2.2.2 1626 = some (.aload_n 0, 1, 0, 0, 0) := rfl
theorem sl_206_1627 : pm_206.2.2.2.2.2 1627 = some (.bipush 8, 2, 0, 0, 0) := rfl
theorem sl_206_1629 : pm_206.2.2.2.2.2 1629 = some (.newarray .boolean, 2, 3, 0, 0) := rfl
theorem sl_206_1631 : pm_206.2.2.2.2.2 1631 = some (.putfield 132, 3, 12, 59, 0) := rfl
theorem sl_206_1634 : pm_206.2.2.2.2.2 1634 = some (.aload_n 0, 1, 0, 0, 0) := rfl
theorem sl_206_1635 : pm_206.2.2.2.2.2 1635 = some (.bipush 48, 2, 0, 0, 0) := rfl
theorem sl_206_1637 : pm_206.2.2.2.2.2 1637 = some (.newarray .int, 2, 0, 0, 0) := rfl
theorem sl_206_1639 : pm_206.2.2.2.2.2 1639 = some (.putfield 135, 3, 12, 60, 0) := rfl
theorem sl_206_1642 : pm_206.2.2.2.2.2 1642 = some (.aload_n 0, 1, 0, 0, 0) := rfl
theorem sl_206_1643 : pm_206.2.2.2.2.2 1643 = some (.bipush 48, 2, 0, 0, 0) := rfl
theorem sl_206_1645 : pm_206.2.2.2.2.2 1645 = some (.newarray .int, 2, 0, 0, 0) := rfl
theorem sl_206_1647 : pm_206.2.2.2.2.2 1647 = some (.putfield 138, 3, 12, 61, 0) := rfl
theorem sl_206_1650 : pm_206.2.2.2.2.2 1650 = some (.aload_n 0, 1, 0, 0, 0) := rfl
theorem sl_206_1651 : pm_206.2.2.2.2.2 1651 = some (.bipush 48, 2, 0, 0, 0) := rfl
theorem sl_206_1653 : pm_206.2.2.2.2.2 1653 = some (.newarray .int, 2, 0, 0, 0) := rfl
theorem sl_206_1655 : pm_206.2.2.2.2.2 1655 = some (.putfield 141, 3, 12, 62, 0) := rfl
theorem sl_206_1658 : pm_206.2.2.2.2.2 1658 = some (.aload_n 0, 1, 0, 0, 0) := rfl
theorem sl_206_1659 : pm_206.2.2.2.2.2 1659 = some (.bipush 48, 2, 0, 0, 0) := rfl
theorem sl_206_1661 : pm_206.2.2.2.2.2 1661 = some (.newarray .int, 2, 0, 0, 0) := rfl
theorem sl_206_1663 : pm_206.2.2.2.2.2 1663 = some (.putfield 144, 3, 12, 63, 0) := rfl
theorem sl_206_1666 : pm_206.2.2.2.2.2 1666 = some (.aload_n 0, 1, 0, 0, 0) := rfl
theorem sl_206_1667 : pm_206.2.2.2.2.2 1667 = some (.iconst (-1), 1, 0, 0, 0) := rfl
theorem sl_206_1668 : pm_206.2.2.2.2.2 1668 = some (.putfield 147, 3, 12, 64, 0) := rfl
theorem sl_206_1671 : pm_206.2.2.2.2.2 1671 = some (.aload_n 0, 1, 0, 0, 0) := rfl
theorem sl_206_1672 : pm_206.2.2.2.2.2 1672 = some (.sipush 800, 3, 0, 0, 0) := rfl
theorem sl_206_1675 : pm_206.2.2.2.2.2 1675 = some (.newarray .int, 2, 0, 0, 0) := rfl
theorem sl_206_1677 : pm_206.2.2.2.2.2 1677 = some (.putfield 150, 3, 12, 65, 0) := rfl
theorem sl_206_1680 : pm_206.2.2.2.2.2 1680 = some (.aload_n 0, 1, 0, 0, 0) := rfl
theorem sl_206_1681 : pm_206.2.2.2.2.2 1681 = some (.sipush 800, 3, 0, 0, 0) := rfl
theorem sl_206_1684 : pm_206.2.2.2.2.2 1684 = some (.newarray .int, 2, 0, 0, 0) := rfl
theorem sl_206_1686 : pm_206.2.2.2.2.2 1686 = some (.putfield 153, 3, 12, 66, 0) := rfl
theorem sl_206_1689 : pm_206.2.2.2.2.2 1689 = some (.aload_n 0, 1, 0, 0, 0) := rfl
theorem sl_206_1690 : pm_206.2.2.2.2.2 1690 = some (.sipush 800, 3, 0, 0, 0) := rfl
theorem sl_206_1693 : pm_206.2.2.2.2.2 1693 = some (.newarray .int, 2, 0, 0, 0) := rfl
theorem sl_206_1695 : pm_206.2.2.2.2.2 1695 = some (.putfield 156, 3, 12, 67, 0) := rfl
theorem sl_206_1698 : pm_206.2.2.2.2.2 1698 = some (.aload_n 0, 1, 0, 0, 0) := rfl
theorem sl_206_1699 : pm_206.2.2.2.2.2 1699 = some (.sipush 800, 3, 0, 0, 0) := rfl
theorem sl_206_1702 : pm_206.2.2.2.2.2 1702 = some (.newarray .long, 2, 1, 0, 0) := rfl
theorem sl_206_1704 : pm_206.2.2.2.2.2 1704 = some (.putfield 159, 3, 12, 68, 0) := rfl
theorem sl_206_1707 : pm_206.2.2.2.2.2 1707 = some (.aload_n 0, 1, 0, 0, 0) := rfl
theorem sl_206_1708 : pm_206.2.2.2.2.2 1708 = some (.bipush 60, 2, 0, 0, 0) := rfl
theorem sl_206_1710 : pm_206.2.2.2.2.2 1710 = some (.newarray .int, 2, 0, 0, 0) := rfl
theorem sl_206_1712 : pm_206.2.2.2.2.2 1712 = some (.putfield 163, 3, 12, 76, 0) := rfl
theorem sl_206_1715 : pm_206.2.2.2.2.2 1715 = some (.aload_n 0, 1, 0, 0, 0) := rfl
theorem sl_206_1716 : pm_206.2.2.2.2.2 1716 = some (.bipush 60, 2, 0, 0, 0) := rfl
theorem sl_206_1718 : pm_206.2.2.2.2.2 1718 = some (.newarray .int, 2, 0, 0, 0) := rfl
theorem sl_206_1720 : pm_206.2.2.2.2.2 1720 = some (.putfield 166, 3, 12, 77, 0) := rfl
theorem sl_206_1723 : pm_206.2.2.2.2.2 1723 = some (.aload_n 0, 1, 0, 0, 0) := rfl
theorem sl_206_1724 : pm_206.2.2.2.2.2 1724 = some (.bipush 60, 2, 0, 0, 0) := rfl
theorem sl_206_1726 : pm_206.2.2.2.2.2 1726 = some (.newarray .int, 2, 0, 0, 0) := rfl
theorem sl_206_1728 : pm_206.2.2.2.2.2 1728 = some (.putfield 169, 3, 12, 78, 0) := rfl
theorem sl_206_1731 : pm_206.2.2.2.2.2 1731 = some (.aload_n 0, 1, 0, 0, 0) := rfl
theorem sl_206_1732 : pm_206.2.2.2.2.2 1732 = some (.bipush 60, 2, 0, 0, 0) := rfl
theorem sl_206_1734 : pm_206.2.2.2.2.2 1734 = some (.newarray .int, 2, 0, 0, 0) := rfl
theorem sl_206_1736 : pm_206.2.2.2.2.2 1736 = some (.putfield 172, 3, 12, 79, 0) := rfl
theorem sl_206_1739 : pm_206.2.2.2.2.2 1739 = some (.aload_n 0, 1, 0, 0, 0) := rfl
theorem sl_206_1740 : pm_206.2.2.2.2.2 1740 = some (.sipush 540, 3, 0, 0, 0) := rfl
theorem sl_206_1743 : pm_206.2.2.2.2.2 1743 = some (.newarray .int, 2, 0, 0, 0) := rfl
theorem sl_206_1745 : pm_206.2.2.2.2.2 1745 = some (.putfield 175, 3, 12, 80, 0) := rfl
theorem sl_206_1748 : pm_206.2.2.2.2.2 1748 = some (.aload_n 0, 1, 0, 0, 0) := rfl
theorem sl_206_1749 : pm_206.2.2.2.2.2 1749 = some (.sipush 540, 3, 0, 0, 0) := rfl
theorem sl_206_1752 : pm_206.2.2.2.2.2 1752 = some (.newarray .int, 2, 0, 0, 0) := rfl
theorem sl_206_1754 : pm_206.2.2.2.2.2 1754 = some (.putfield 178, 3, 12, 81, 0) := rfl
theorem sl_206_1757 : pm_206.2.2.2.2.2 1757 = some (.aload_n 0, 1, 0, 0, 0) := rfl
theorem sl_206_1758 : pm_206.2.2.2.2.2 1758 = some (.sipush 540, 3, 0, 0, 0) := rfl
theorem sl_206_1761 : pm_206.2.2.2.2.2 1761 = some (.newarray .int, 2, 0, 0, 0) := rfl
theorem sl_206_1763 : pm_206.2.2.2.2.2 1763 = some (.putfield 181, 3, 12, 82, 0) := rfl
theorem sl_206_1766 : pm_206.2.2.2.2.2 1766 = some (.aload_n 0, 1, 0, 0, 0) := rfl
theorem sl_206_1767 : pm_206.2.2.2.2.2 1767 = some (.sipush 540, 3, 0, 0, 0) := rfl
theorem sl_206_1770 : pm_206.2.2.2.2.2 1770 = some (.newarray .boolean, 2, 3, 0, 0) := rfl
theorem sl_206_1772 : pm_206.2.2.2.2.2 1772 = some (.putfield 184, 3, 12, 83, 0) := rfl
theorem sl_206_1775 : pm_206.2.2.2.2.2 1775 = some (.aload_n 0, 1, 0, 0, 0) := rfl
theorem sl_206_1776 : pm_206.2.2.2.2.2 1776 = some (.sipush 540, 3, 0, 0, 0) := rfl
theorem sl_206_1779 : pm_206.2.2.2.2.2 1779 = some (.newarray .long, 2, 1, 0, 0) := rfl
theorem sl_206_1781 : pm_206.2.2.2.2.2 1781 = some (.putfield 187, 3, 12, 84, 0) := rfl
theorem sl_206_1784 : pm_206.2.2.2.2.2 1784 = some (.aload_n 0, 1, 0, 0, 0) := rfl
theorem sl_206_1785 : pm_206.2.2.2.2.2 1785 = some (.bipush 60, 2, 0, 0, 0) := rfl
theorem sl_206_1787 : pm_206.2.2.2.2.2 1787 = some (.newarray .int, 2, 0, 0, 0) := rfl
theorem sl_206_1789 : pm_206.2.2.2.2.2 1789 = some (.putfield 190, 3, 12, 85, 0) := rfl
theorem sl_206_1792 : pm_206.2.2.2.2.2 1792 = some (.aload_n 0, 1, 0, 0, 0) := rfl
theorem sl_206_1793 : pm_206.2.2.2.2.2 1793 = some (.bipush 60, 2, 0, 0, 0) := rfl
theorem sl_206_1795 : pm_206.2.2.2.2.2 1795 = some (.newarray .int, 2, 0, 0, 0) := rfl
theorem sl_206_1797 : pm_206.2.2.2.2.2 1797 = some (.putfield 193, 3, 12, 86, 0) := rfl
theorem sl_206_1800 : pm_206.2.2.2.2.2 1800 = some (.aload_n 0, 1, 0, 0, 0) := rfl
theorem sl_206_1801 : pm_206.2.2.2.2.2 1801 = some (.bipush 60, 2, 0, 0, 0) := rfl
theorem sl_206_1803 : pm_206.2.2.2.2.2 1803 = some (.newarray .int, 2, 0, 0, 0) := rfl
theorem sl_206_1805 : pm_206.2.2.2.2.2 1805 = some (.putfield 196, 3, 12, 87, 0) := rfl
theorem sl_206_1808 : pm_206.2.2.2.2.2 1808 = some (.aload_n 0, 1, 0, 0, 0) := rfl
theorem sl_206_1809 : pm_206.2.2.2.2.2 1809 = some (.bipush 60, 2, 0, 0, 0) := rfl
theorem sl_206_1811 : pm_206.2.2.2.2.2 1811 = some (.newarray .int, 2, 0, 0, 0) := rfl
theorem sl_206_1813 : pm_206.2.2.2.2.2 1813 = some (.putfield 199, 3, 12, 88, 0) := rfl
theorem sl_206_1816 : pm_206.2.2.2.2.2 1816 = some (.aload_n 0, 1, 0, 0, 0) := rfl
theorem sl_206_1817 : pm_206.2.2.2.2.2 1817 = some (.bipush 60, 2, 0, 0, 0) := rfl
theorem sl_206_1819 : pm_206.2.2.2.2.2 1819 = some (.newarray .boolean, 2, 3, 0, 0) := rfl
theorem sl_206_1821 : pm_206.2.2.2.2.2 1821 = some (.putfield 202, 3, 12, 89, 0) := rfl
theorem sl_206_1824 : pm_206.2.2.2.2.2 1824 = some (.aload_n 0, 1, 0, 0, 0) := rfl
theorem sl_206_1825 : pm_206.2.2.2.2.2 1825 = some (.bipush 60, 2, 0, 0, 0) := rfl
theorem sl_206_1827 : pm_206.2.2.2.2.2 1827 = some (.newarray .boolean, 2, 3, 0, 0) := rfl
theorem sl_206_1829 : pm_206.2.2.2.2.2 1829 = some (.putfield 205, 3, 12, 90, 0) := rfl
theorem sl_206_1832 : pm_206.2.2.2.2.2 1832 = some (.aload_n 0, 1, 0, 0, 0) := rfl
theorem sl_206_1833 : pm_206.2.2.2.2.2 1833 = some (.bipush 60, 2, 0, 0, 0) := rfl
theorem sl_206_1835 : pm_206.2.2.2.2.2 1835 = some (.newarray .long, 2, 1, 0, 0) := rfl
theorem sl_206_1837 : pm_206.2.2.2.2.2 1837 = some (.putfield 208, 3, 12, 91, 0) := rfl
theorem sl_206_1840 : pm_206.2.2.2.2.2 1840 = some (.aload_n 0, 1, 0, 0, 0) := rfl
theorem sl_206_1841 : pm_206.2.2.2.2.2 1841 = some (.bipush 60, 2, 0, 0, 0) := rfl
theorem sl_206_1843 : pm_206.2.2.2.2.2 1843 = some (.newarray .long, 2, 1, 0, 0) := rfl
theorem sl_206_1845 : pm_206.2.2.2.2.2 1845 = some (.putfield 211, 3, 12, 92, 0) := rfl
theorem sl_206_1848 : pm_206.2.2.2.2.2 1848 = some (.aload_n 0, 1, 0, 0, 0) := rfl
theorem sl_206_1849 : pm_206.2.2.2.2.2 1849 = some (.bipush 8, 2, 0, 0, 0) := rfl
theorem sl_206_1851 : pm_206.2.2.2.2.2 1851 = some (.newarray .int, 2, 0, 0, 0) := rfl
theorem sl_206_1853 : pm_206.2.2.2.2.2 1853 = some (.putfield 214, 3, 12, 93, 0) := rfl
theorem sl_206_1856 : pm_206.2.2.2.2.2 1856 = some (.aload_n 0, 1, 0, 0, 0) := rfl
theorem sl_206_1857 : pm_206.2.2.2.2.2 1857 = some (.bipush 96, 2, 0, 0, 0) := rfl
theorem sl_206_1859 : pm_206.2.2.2.2.2 1859 = some (.newarray .int, 2, 0, 0, 0) := rfl
theorem sl_206_1861 : pm_206.2.2.2.2.2 1861 = some (.putfield 217, 3, 12, 94, 0) := rfl
theorem sl_206_1864 : pm_206.2.2.2.2.2 1864 = some (.aload_n 0, 1, 0, 0, 0) := rfl
theorem sl_206_1865 : pm_206.2.2.2.2.2 1865 = some (.bipush 16, 2, 0, 0, 0) := rfl
theorem sl_206_1867 : pm_206.2.2.2.2.2 1867 = some (.newarray .int, 2, 0, 0, 0) := rfl
theorem sl_206_1869 : pm_206.2.2.2.2.2 1869 = some (.putfield 220, 3, 12, 95, 0) := rfl
theorem sl_206_1872 : pm_206.2.2.2.2.2 1872 = some (.aload_n 0, 1, 0, 0, 0) := rfl
theorem sl_206_1873 : pm_206.2.2.2.2.2 1873 = some (.bipush 16, 2, 0, 0, 0) := rfl
theorem sl_206_1875 : pm_206.2.2.2.2.2 1875 = some (.newarray .int, 2, 0, 0, 0) := rfl
theorem sl_206_1877 : pm_206.2.2.2.2.2 1877 = some (.putfield 223, 3, 12, 96, 0) := rfl
theorem sl_206_1880 : pm_206.2.2.2.2.2 1880 = some (.aload_n 0, 1, 0, 0, 0) := rfl
theorem sl_206_1881 : pm_206.2.2.2.2.2 1881 = some (.sipush 128, 3, 0, 0, 0) := rfl
theorem sl_206_1884 : pm_206.2.2.2.2.2 1884 = some (.newarray .long, 2, 1, 0, 0) := rfl
theorem sl_206_1886 : pm_206.2.2.2.2.2 1886 = some (.putfield 226, 3, 12, 97, 0) := rfl
theorem sl_206_1889 : pm_206.2.2.2.2.2 1889 = some (.aload_n 0, 1, 0, 0, 0) := rfl
theorem sl_206_1890 : pm_206.2.2.2.2.2 1890 = some (.sipush 128, 3, 0, 0, 0) := rfl
theorem sl_206_1893 : pm_206.2.2.2.2.2 1893 = some (.newarray .long, 2, 1, 0, 0) := rfl
theorem sl_206_1895 : pm_206.2.2.2.2.2 1895 = some (.putfield 229, 3, 12, 98, 0) := rfl
theorem sl_206_1898 : pm_206.2.2.2.2.2 1898 = some (.aload_n 0, 1, 0, 0, 0) := rfl
theorem sl_206_1899 : pm_206.2.2.2.2.2 1899 = some (.sipush 240, 3, 0, 0, 0) := rfl
theorem sl_206_1902 : pm_206.2.2.2.2.2 1902 = some (.newarray .int, 2, 0, 0, 0) := rfl
theorem sl_206_1904 : pm_206.2.2.2.2.2 1904 = some (.putfield 232, 3, 12, 101, 0) := rfl
theorem sl_206_1907 : pm_206.2.2.2.2.2 1907 = some (.aload_n 0, 1, 0, 0, 0) := rfl
theorem sl_206_1908 : pm_206.2.2.2.2.2 1908 = some (.sipush 240, 3, 0, 0, 0) := rfl
theorem sl_206_1911 : pm_206.2.2.2.2.2 1911 = some (.newarray .int, 2, 0, 0, 0) := rfl
theorem sl_206_1913 : pm_206.2.2.2.2.2 1913 = some (.putfield 235, 3, 12, 102, 0) := rfl
theorem sl_206_1916 : pm_206.2.2.2.2.2 1916 = some (.aload_n 0, 1, 0, 0, 0) := rfl
theorem sl_206_1917 : pm_206.2.2.2.2.2 1917 = some (.sipush 240, 3, 0, 0, 0) := rfl
theorem sl_206_1920 : pm_206.2.2.2.2.2 1920 = some (.newarray .int, 2, 0, 0, 0) := rfl
theorem sl_206_1922 : pm_206.2.2.2.2.2 1922 = some (.putfield 238, 3, 12, 103, 0) := rfl
theorem sl_206_1925 : pm_206.2.2.2.2.2 1925 = some (.aload_n 0, 1, 0, 0, 0) := rfl
theorem sl_206_1926 : pm_206.2.2.2.2.2 1926 = some (.sipush 240, 3, 0, 0, 0) := rfl
theorem sl_206_1929 : pm_206.2.2.2.2.2 1929 = some (.newarray .int, 2, 0, 0, 0) := rfl
theorem sl_206_1931 : pm_206.2.2.2.2.2 1931 = some (.putfield 241, 3, 12, 104, 0) := rfl
theorem sl_206_1934 : pm_206.2.2.2.2.2 1934 = some (.aload_n 0, 1, 0, 0, 0) := rfl
theorem sl_206_1935 : pm_206.2.2.2.2.2 1935 = some (.sipush 240, 3, 0, 0, 0) := rfl
theorem sl_206_1938 : pm_206.2.2.2.2.2 1938 = some (.newarray .int, 2, 0, 0, 0) := rfl
theorem sl_206_1940 : pm_206.2.2.2.2.2 1940 = some (.putfield 244, 3, 12, 105, 0) := rfl
theorem sl_206_1943 : pm_206.2.2.2.2.2 1943 = some (.aload_n 0, 1, 0, 0, 0) := rfl
theorem sl_206_1944 : pm_206.2.2.2.2.2 1944 = some (.sipush 240, 3, 0, 0, 0) := rfl
theorem sl_206_1947 : pm_206.2.2.2.2.2 1947 = some (.newarray .int, 2, 0, 0, 0) := rfl
theorem sl_206_1949 : pm_206.2.2.2.2.2 1949 = some (.putfield 247, 3, 12, 106, 0) := rfl
theorem sl_206_1952 : pm_206.2.2.2.2.2 1952 = some (.aload_n 0, 1, 0, 0, 0) := rfl
theorem sl_206_1953 : pm_206.2.2.2.2.2 1953 = some (.sipush 240, 3, 0, 0, 0) := rfl
theorem sl_206_1956 : pm_206.2.2.2.2.2 1956 = some (.newarray .int, 2, 0, 0, 0) := rfl
theorem sl_206_1958 : pm_206.2.2.2.2.2 1958 = some (.putfield 250, 3, 12, 107, 0) := rfl
theorem sl_206_1961 : pm_206.2.2.2.2.2 1961 = some (.aload_n 0, 1, 0, 0, 0) := rfl
theorem sl_206_1962 : pm_206.2.2.2.2.2 1962 = some (.sipush 240, 3, 0, 0, 0) := rfl
theorem sl_206_1965 : pm_206.2.2.2.2.2 1965 = some (.newarray .int, 2, 0, 0, 0) := rfl
theorem sl_206_1967 : pm_206.2.2.2.2.2 1967 = some (.putfield 253, 3, 12, 108, 0) := rfl
theorem sl_206_1970 : pm_206.2.2.2.2.2 1970 = some (.aload_n 0, 1, 0, 0, 0) := rfl
theorem sl_206_1971 : pm_206.2.2.2.2.2 1971 = some (.bipush 16, 2, 0, 0, 0) := rfl
theorem sl_206_1973 : pm_206.2.2.2.2.2 1973 = some (.newarray .int, 2, 0, 0, 0) := rfl
theorem sl_206_1975 : pm_206.2.2.2.2.2 1975 = some (.putfield 256, 3, 12, 109, 0) := rfl
theorem sl_206_1978 : pm_206.2.2.2.2.2 1978 = some (.aload_n 0, 1, 0, 0, 0) := rfl
theorem sl_206_1979 : pm_206.2.2.2.2.2 1979 = some (.bipush 32, 2, 0, 0, 0) := rfl
theorem sl_206_1981 : pm_206.2.2.2.2.2 1981 = some (.newarray .int, 2, 0, 0, 0) := rfl
theorem sl_206_1983 : pm_206.2.2.2.2.2 1983 = some (.putfield 259, 3, 12, 110, 0) := rfl
theorem sl_206_1986 : pm_206.2.2.2.2.2 1986 = some (.aload_n 0, 1, 0, 0, 0) := rfl
theorem sl_206_1987 : pm_206.2.2.2.2.2 1987 = some (.bipush 32, 2, 0, 0, 0) := rfl
theorem sl_206_1989 : pm_206.2.2.2.2.2 1989 = some (.newarray .int, 2, 0, 0, 0) := rfl
theorem sl_206_1991 : pm_206.2.2.2.2.2 1991 = some (.putfield 262, 3, 12, 111, 0) := rfl
theorem sl_206_1994 : pm_206.2.2.2.2.2 1994 = some (.aload_n 0, 1, 0, 0, 0) := rfl
theorem sl_206_1995 : pm_206.2.2.2.2.2 1995 = some (.bipush 32, 2, 0, 0, 0) := rfl
theorem sl_206_1997 : pm_206.2.2.2.2.2 1997 = some (.newarray .int, 2, 0, 0, 0) := rfl
theorem sl_206_1999 : pm_206.2.2.2.2.2 1999 = some (.putfield 265, 3, 12, 112, 0) := rfl
theorem sl_206_2002 : pm_206.2.2.2.2.2 2002 = some (.aload_n 0, 1, 0, 0, 0) := rfl
theorem sl_206_2003 : pm_206.2.2.2.2.2 2003 = some (.bipush 32, 2, 0, 0, 0) := rfl
theorem sl_206_2005 : pm_206.2.2.2.2.2 2005 = some (.newarray .int, 2, 0, 0, 0) := rfl
theorem sl_206_2007 : pm_206.2.2.2.2.2 2007 = some (.putfield 268, 3, 12, 113, 0) := rfl
theorem sl_206_2010 : pm_206.2.2.2.2.2 2010 = some (.aload_n 0, 1, 0, 0, 0) := rfl
theorem sl_206_2011 : pm_206.2.2.2.2.2 2011 = some (.bipush 64, 2, 0, 0, 0) := rfl
theorem sl_206_2013 : pm_206.2.2.2.2.2 2013 = some (.newarray .int, 2, 0, 0, 0) := rfl
theorem sl_206_2015 : pm_206.2.2.2.2.2 2015 = some (.putfield 271, 3, 12, 114, 0) := rfl
theorem sl_206_2018 : pm_206.2.2.2.2.2 2018 = some (.aload_n 0, 1, 0, 0, 0) := rfl
theorem sl_206_2019 : pm_206.2.2.2.2.2 2019 = some (.bipush 32, 2, 0, 0, 0) := rfl
theorem sl_206_2021 : pm_206.2.2.2.2.2 2021 = some (.newarray .long, 2, 1, 0, 0) := rfl
theorem sl_206_2023 : pm_206.2.2.2.2.2 2023 = some (.putfield 274, 3, 12, 115, 0) := rfl
theorem sl_206_2026 : pm_206.2.2.2.2.2 2026 = some (.aload_n 0, 1, 0, 0, 0) := rfl
theorem sl_206_2027 : pm_206.2.2.2.2.2 2027 = some (.bipush 16, 2, 0, 0, 0) := rfl
theorem sl_206_2029 : pm_206.2.2.2.2.2 2029 = some (.newarray .boolean, 2, 3, 0, 0) := rfl
theorem sl_206_2031 : pm_206.2.2.2.2.2 2031 = some (.putfield 277, 3, 12, 116, 0) := rfl
theorem sl_206_2034 : pm_206.2.2.2.2.2 2034 = some (.aload_n 0, 1, 0, 0, 0) := rfl
theorem sl_206_2035 : pm_206.2.2.2.2.2 2035 = some (.bipush 8, 2, 0, 0, 0) := rfl
theorem sl_206_2037 : pm_206.2.2.2.2.2 2037 = some (.newarray .int, 2, 0, 0, 0) := rfl
theorem sl_206_2039 : pm_206.2.2.2.2.2 2039 = some (.putfield 280, 3, 12, 117, 0) := rfl
theorem sl_206_2042 : pm_206.2.2.2.2.2 2042 = some (.aload_n 0, 1, 0, 0, 0) := rfl
theorem sl_206_2043 : pm_206.2.2.2.2.2 2043 = some (.bipush 8, 2, 0, 0, 0) := rfl
theorem sl_206_2045 : pm_206.2.2.2.2.2 2045 = some (.newarray .int, 2, 0, 0, 0) := rfl
theorem sl_206_2047 : pm_206.2.2.2.2.2 2047 = some (.putfield 283, 3, 12, 118, 0) := rfl
theorem sl_206_2050 : pm_206.2.2.2.2.2 2050 = some (.aload_n 0, 1, 0, 0, 0) := rfl
theorem sl_206_2051 : pm_206.2.2.2.2.2 2051 = some (.bipush 48, 2, 0, 0, 0) := rfl
theorem sl_206_2053 : pm_206.2.2.2.2.2 2053 = some (.newarray .int, 2, 0, 0, 0) := rfl
theorem sl_206_2055 : pm_206.2.2.2.2.2 2055 = some (.putfield 286, 3, 12, 120, 0) := rfl
theorem sl_206_2058 : pm_206.2.2.2.2.2 2058 = some (.aload_n 0, 1, 0, 0, 0) := rfl
theorem sl_206_2059 : pm_206.2.2.2.2.2 2059 = some (.bipush 48, 2, 0, 0, 0) := rfl
theorem sl_206_2061 : pm_206.2.2.2.2.2 2061 = some (.newarray .int, 2, 0, 0, 0) := rfl
theorem sl_206_2063 : pm_206.2.2.2.2.2 2063 = some (.putfield 289, 3, 12, 121, 0) := rfl
theorem sl_206_2066 : pm_206.2.2.2.2.2 2066 = some (.aload_n 0, 1, 0, 0, 0) := rfl
theorem sl_206_2067 : pm_206.2.2.2.2.2 2067 = some (.bipush 48, 2, 0, 0, 0) := rfl
theorem sl_206_2069 : pm_206.2.2.2.2.2 2069 = some (.newarray .int, 2, 0, 0, 0) := rfl
theorem sl_206_2071 : pm_206.2.2.2.2.2 2071 = some (.putfield 292, 3, 12, 122, 0) := rfl
theorem sl_206_2074 : pm_206.2.2.2.2.2 2074 = some (.aload_n 0, 1, 0, 0, 0) := rfl
theorem sl_206_2075 : pm_206.2.2.2.2.2 2075 = some (.bipush 12, 2, 0, 0, 0) := rfl
theorem sl_206_2077 : pm_206.2.2.2.2.2 2077 = some (.newarray .boolean, 2, 3, 0, 0) := rfl
theorem sl_206_2079 : pm_206.2.2.2.2.2 2079 = some (.putfield 295, 3, 12, 123, 0) := rfl
theorem sl_206_2082 : pm_206.2.2.2.2.2 2082 = some (.aload_n 0, 1, 0, 0, 0) := rfl
theorem sl_206_2083 : pm_206.2.2.2.2.2 2083 = some (.bipush 12, 2, 0, 0, 0) := rfl
theorem sl_206_2085 : pm_206.2.2.2.2.2 2085 = some (.newarray .int, 2, 0, 0, 0) := rfl
theorem sl_206_2087 : pm_206.2.2.2.2.2 2087 = some (.putfield 298, 3, 12, 124, 0) := rfl
theorem sl_206_2090 : pm_206.2.2.2.2.2 2090 = some (.aload_n 0, 1, 0, 0, 0) := rfl
theorem sl_206_2091 : pm_206.2.2.2.2.2 2091 = some (.bipush 16, 2, 0, 0, 0) := rfl
theorem sl_206_2093 : pm_206.2.2.2.2.2 2093 = some (.newarray .boolean, 2, 3, 0, 0) := rfl
theorem sl_206_2095 : pm_206.2.2.2.2.2 2095 = some (.putfield 301, 3, 12, 126, 0) := rfl
theorem sl_206_2098 : pm_206.2.2.2.2.2 2098 = some (.aload_n 0, 1, 0, 0, 0) := rfl
theorem sl_206_2099 : pm_206.2.2.2.2.2 2099 = some (.iconst (-1), 1, 0, 0, 0) := rfl
theorem sl_206_2100 : pm_206.2.2.2.2.2 2100 = some (.putfield 304, 3, 12, 130, 0) := rfl
theorem sl_206_2103 : pm_206.2.2.2.2.2 2103 = some (.aload_n 0, 1, 0, 0, 0) := rfl
theorem sl_206_2104 : pm_206.2.2.2.2.2 2104 = some (.bipush 48, 2, 0, 0, 0) := rfl
theorem sl_206_2106 : pm_206.2.2.2.2.2 2106 = some (.newarray .int, 2, 0, 0, 0) := rfl
theorem sl_206_2108 : pm_206.2.2.2.2.2 2108 = some (.putfield 307, 3, 12, 131, 0) := rfl
theorem sl_206_2111 : pm_206.2.2.2.2.2 2111 = some (.aload_n 0, 1, 0, 0, 0) := rfl
theorem sl_206_2112 : pm_206.2.2.2.2.2 2112 = some (.bipush 12, 2, 0, 0, 0) := rfl
theorem sl_206_2114 : pm_206.2.2.2.2.2 2114 = some (.newarray .int, 2, 0, 0, 0) := rfl
theorem sl_206_2116 : pm_206.2.2.2.2.2 2116 = some (.putfield 310, 3, 12, 132, 0) := rfl
theorem sl_206_2119 : pm_206.2.2.2.2.2 2119 = some (.aload_n 0, 1, 0, 0, 0) := rfl
theorem sl_206_2120 : pm_206.2.2.2.2.2 2120 = some (.bipush 12, 2, 0, 0, 0) := rfl
theorem sl_206_2122 : pm_206.2.2.2.2.2 2122 = some (.newarray .long, 2, 1, 0, 0) := rfl
theorem sl_206_2124 : pm_206.2.2.2.2.2 2124 = some (.putfield 313, 3, 12, 133, 0) := rfl
theorem sl_206_2127 : pm_206.2.2.2.2.2 2127 = some (.aload_n 0, 1, 0, 0, 0) := rfl
theorem sl_206_2128 : pm_206.2.2.2.2.2 2128 = some (.bipush 12, 2, 0, 0, 0) := rfl
theorem sl_206_2130 : pm_206.2.2.2.2.2 2130 = some (.newarray .long, 2, 1, 0, 0) := rfl
theorem sl_206_2132 : pm_206.2.2.2.2.2 2132 = some (.putfield 316, 3, 12, 134, 0) := rfl
theorem sl_206_2135 : pm_206.2.2.2.2.2 2135 = some (.aload_n 0, 1, 0, 0, 0) := rfl
theorem sl_206_2136 : pm_206.2.2.2.2.2 2136 = some (.sipush 10608, 3, 0, 0, 0) := rfl
theorem sl_206_2139 : pm_206.2.2.2.2.2 2139 = some (.newarray .boolean, 2, 3, 0, 0) := rfl
theorem sl_206_2141 : pm_206.2.2.2.2.2 2141 = some (.putfield 319, 3, 12, 135, 0) := rfl
theorem sl_206_2144 : pm_206.2.2.2.2.2 2144 = some (.aload_n 0, 1, 0, 0, 0) := rfl
theorem sl_206_2145 : pm_206.2.2.2.2.2 2145 = some (.sipush 10608, 3, 0, 0, 0) := rfl
theorem sl_206_2148 : pm_206.2.2.2.2.2 2148 = some (.newarray .boolean, 2, 3, 0, 0) := rfl
theorem sl_206_2150 : pm_206.2.2.2.2.2 2150 = some (.putfield 322, 3, 12, 136, 0) := rfl
theorem sl_206_2153 : pm_206.2.2.2.2.2 2153 = some (.aload_n 0, 1, 0, 0, 0) := rfl
theorem sl_206_2154 : pm_206.2.2.2.2.2 2154 = some (.sipush 384, 3, 0, 0, 0) := rfl
theorem sl_206_2157 : pm_206.2.2.2.2.2 2157 = some (.newarray .boolean, 2, 3, 0, 0) := rfl
theorem sl_206_2159 : pm_206.2.2.2.2.2 2159 = some (.putfield 325, 3, 12, 137, 0) := rfl
theorem sl_206_2162 : pm_206.2.2.2.2.2 2162 = some (.aload_n 0, 1, 0, 0, 0) := rfl
theorem sl_206_2163 : pm_206.2.2.2.2.2 2163 = some (.sipush 512, 3, 0, 0, 0) := rfl
theorem sl_206_2166 : pm_206.2.2.2.2.2 2166 = some (.newarray .long, 2, 1, 0, 0) := rfl
theorem sl_206_2168 : pm_206.2.2.2.2.2 2168 = some (.putfield 328, 3, 12, 138, 0) := rfl
theorem sl_206_2171 : pm_206.2.2.2.2.2 2171 = some (.aload_n 0, 1, 0, 0, 0) := rfl
theorem sl_206_2172 : pm_206.2.2.2.2.2 2172 = some (.bipush 8, 2, 0, 0, 0) := rfl
theorem sl_206_2174 : pm_206.2.2.2.2.2 2174 = some (.newarray .int, 2, 0, 0, 0) := rfl
theorem sl_206_2176 : pm_206.2.2.2.2.2 2176 = some (.putfield 331, 3, 12, 139, 0) := rfl
theorem sl_206_2179 : pm_206.2.2.2.2.2 2179 = some (.aload_n 0, 1, 0, 0, 0) := rfl
theorem sl_206_2180 : pm_206.2.2.2.2.2 2180 = some (.sipush 768, 3, 0, 0, 0) := rfl
theorem sl_206_2183 : pm_206.2.2.2.2.2 2183 = some (.newarray .int, 2, 0, 0, 0) := rfl
theorem sl_206_2185 : pm_206.2.2.2.2.2 2185 = some (.putfield 334, 3, 12, 140, 0) := rfl
theorem sl_206_2188 : pm_206.2.2.2.2.2 2188 = some (.aload_n 0, 1, 0, 0, 0) := rfl
theorem sl_206_2189 : pm_206.2.2.2.2.2 2189 = some (.sipush 768, 3, 0, 0, 0) := rfl
theorem sl_206_2192 : pm_206.2.2.2.2.2 2192 = some (.newarray .int, 2, 0, 0, 0) := rfl
theorem sl_206_2194 : pm_206.2.2.2.2.2 2194 = some (.putfield 337, 3, 12, 141, 0) := rfl
theorem sl_206_2197 : pm_206.2.2.2.2.2 2197 = some (.aload_n 0, 1, 0, 0, 0) := rfl
theorem sl_206_2198 : pm_206.2.2.2.2.2 2198 = some (.sipush 3072, 3, 0, 0, 0) := rfl
theorem sl_206_2201 : pm_206.2.2.2.2.2 2201 = some (.newarray .long, 2, 1, 0, 0) := rfl
theorem sl_206_2203 : pm_206.2.2.2.2.2 2203 = some (.putfield 340, 3, 12, 142, 0) := rfl
theorem sl_206_2206 : pm_206.2.2.2.2.2 2206 = some (.aload_n 0, 1, 0, 0, 0) := rfl
theorem sl_206_2207 : pm_206.2.2.2.2.2 2207 = some (.sipush 3072, 3, 0, 0, 0) := rfl
theorem sl_206_2210 : pm_206.2.2.2.2.2 2210 = some (.newarray .long, 2, 1, 0, 0) := rfl
theorem sl_206_2212 : pm_206.2.2.2.2.2 2212 = some (.putfield 343, 3, 12, 143, 0) := rfl
theorem sl_206_2215 : pm_206.2.2.2.2.2 2215 = some (.aload_n 0, 1, 0, 0, 0) := rfl
theorem sl_206_2216 : pm_206.2.2.2.2.2 2216 = some (.sipush 3072, 3, 0, 0, 0) := rfl
theorem sl_206_2219 : pm_206.2.2.2.2.2 2219 = some (.newarray .long, 2, 1, 0, 0) := rfl
theorem sl_206_2221 : pm_206.2.2.2.2.2 2221 = some (.putfield 346, 3, 12, 144, 0) := rfl
theorem sl_206_2224 : pm_206.2.2.2.2.2 2224 = some (.aload_n 0, 1, 0, 0, 0) := rfl
theorem sl_206_2225 : pm_206.2.2.2.2.2 2225 = some (.iconst 4, 1, 0, 0, 0) := rfl
theorem sl_206_2226 : pm_206.2.2.2.2.2 2226 = some (.newarray .long, 2, 1, 0, 0) := rfl
theorem sl_206_2228 : pm_206.2.2.2.2.2 2228 = some (.putfield 349, 3, 12, 145, 0) := rfl
theorem sl_206_2231 : pm_206.2.2.2.2.2 2231 = some (.aload_n 0, 1, 0, 0, 0) := rfl
theorem sl_206_2232 : pm_206.2.2.2.2.2 2232 = some (.iconst 4, 1, 0, 0, 0) := rfl
theorem sl_206_2233 : pm_206.2.2.2.2.2 2233 = some (.newarray .long, 2, 1, 0, 0) := rfl
theorem sl_206_2235 : pm_206.2.2.2.2.2 2235 = some (.putfield 352, 3, 12, 146, 0) := rfl
theorem sl_206_2238 : pm_206.2.2.2.2.2 2238 = some (.aload_n 0, 1, 0, 0, 0) := rfl
theorem sl_206_2239 : pm_206.2.2.2.2.2 2239 = some (.iconst 4, 1, 0, 0, 0) := rfl
theorem sl_206_2240 : pm_206.2.2.2.2.2 2240 = some (.newarray .long, 2, 1, 0, 0) := rfl
theorem sl_206_2242 : pm_206.2.2.2.2.2 2242 = some (.putfield 355, 3, 12, 147, 0) := rfl
theorem sl_206_2245 : pm_206.2.2.2.2.2 2245 = some (.aload_n 0, 1, 0, 0, 0) := rfl
theorem sl_206_2246 : pm_206.2.2.2.2.2 2246 = some (.bipush 41, 2, 0, 0, 0) := rfl
theorem sl_206_2248 : pm_206.2.2.2.2.2 2248 = some (.newarray .int, 2, 0, 0, 0) := rfl
theorem sl_206_2250 : pm_206.2.2.2.2.2 2250 = some (.putfield 358, 3, 12, 153, 0) := rfl
theorem sl_206_2253 : pm_206.2.2.2.2.2 2253 = some (.aload_n 0, 1, 0, 0, 0) := rfl
theorem sl_206_2254 : pm_206.2.2.2.2.2 2254 = some (.bipush 41, 2, 0, 0, 0) := rfl
theorem sl_206_2256 : pm_206.2.2.2.2.2 2256 = some (.newarray .int, 2, 0, 0, 0) := rfl
theorem sl_206_2258 : pm_206.2.2.2.2.2 2258 = some (.putfield 361, 3, 12, 154, 0) := rfl
theorem sl_206_2261 : pm_206.2.2.2.2.2 2261 = some (.aload_n 0, 1, 0, 0, 0) := rfl
theorem sl_206_2262 : pm_206.2.2.2.2.2 2262 = some (.bipush 41, 2, 0, 0, 0) := rfl
theorem sl_206_2264 : pm_206.2.2.2.2.2 2264 = some (.newarray .int, 2, 0, 0, 0) := rfl
theorem sl_206_2266 : pm_206.2.2.2.2.2 2266 = some (.putfield 364, 3, 12, 155, 0) := rfl
theorem sl_206_2269 : pm_206.2.2.2.2.2 2269 = some (.aload_n 0, 1, 0, 0, 0) := rfl
theorem sl_206_2270 : pm_206.2.2.2.2.2 2270 = some (.bipush 41, 2, 0, 0, 0) := rfl
theorem sl_206_2272 : pm_206.2.2.2.2.2 2272 = some (.newarray .int, 2, 0, 0, 0) := rfl
theorem sl_206_2274 : pm_206.2.2.2.2.2 2274 = some (.putfield 367, 3, 12, 156, 0) := rfl
theorem sl_206_2277 : pm_206.2.2.2.2.2 2277 = some (.aload_n 0, 1, 0, 0, 0) := rfl
theorem sl_206_2278 : pm_206.2.2.2.2.2 2278 = some (.bipush 41, 2, 0, 0, 0) := rfl
theorem sl_206_2280 : pm_206.2.2.2.2.2 2280 = some (.newarray .int, 2, 0, 0, 0) := rfl
theorem sl_206_2282 : pm_206.2.2.2.2.2 2282 = some (.putfield 370, 3, 12, 157, 0) := rfl
theorem sl_206_2285 : pm_206.2.2.2.2.2 2285 = some (.aload_n 0, 1, 0, 0, 0) := rfl
theorem sl_206_2286 : pm_206.2.2.2.2.2 2286 = some (.bipush 41, 2, 0, 0, 0) := rfl
theorem sl_206_2288 : pm_206.2.2.2.2.2 2288 = some (.newarray .int, 2, 0, 0, 0) := rfl
theorem sl_206_2290 : pm_206.2.2.2.2.2 2290 = some (.putfield 373, 3, 12, 158, 0) := rfl
theorem sl_206_2293 : pm_206.2.2.2.2.2 2293 = some (.aload_n 0, 1, 0, 0, 0) := rfl
theorem sl_206_2294 : pm_206.2.2.2.2.2 2294 = some (.sipush 5248, 3, 0, 0, 0) := rfl
theorem sl_206_2297 : pm_206.2.2.2.2.2 2297 = some (.newarray .int, 2, 0, 0, 0) := rfl
theorem sl_206_2299 : pm_206.2.2.2.2.2 2299 = some (.putfield 376, 3, 12, 159, 0) := rfl
theorem sl_206_2302 : pm_206.2.2.2.2.2 2302 = some (.aload_n 0, 1, 0, 0, 0) := rfl
theorem sl_206_2303 : pm_206.2.2.2.2.2 2303 = some (.sipush 164, 3, 0, 0, 0) := rfl
theorem sl_206_2306 : pm_206.2.2.2.2.2 2306 = some (.newarray .long, 2, 1, 0, 0) := rfl
theorem sl_206_2308 : pm_206.2.2.2.2.2 2308 = some (.putfield 379, 3, 12, 160, 0) := rfl
theorem sl_206_2311 : pm_206.2.2.2.2.2 2311 = some (.aload_n 0, 1, 0, 0, 0) := rfl
theorem sl_206_2312 : pm_206.2.2.2.2.2 2312 = some (.sipush 164, 3, 0, 0, 0) := rfl
theorem sl_206_2315 : pm_206.2.2.2.2.2 2315 = some (.newarray .long, 2, 1, 0, 0) := rfl
theorem sl_206_2317 : pm_206.2.2.2.2.2 2317 = some (.putfield 382, 3, 12, 161, 0) := rfl
theorem sl_206_2320 : pm_206.2.2.2.2.2 2320 = some (.aload_n 0, 1, 0, 0, 0) := rfl
theorem sl_206_2321 : pm_206.2.2.2.2.2 2321 = some (.sipush 164, 3, 0, 0, 0) := rfl
theorem sl_206_2324 : pm_206.2.2.2.2.2 2324 = some (.newarray .long, 2, 1, 0, 0) := rfl
theorem sl_206_2326 : pm_206.2.2.2.2.2 2326 = some (.putfield 385, 3, 12, 162, 0) := rfl
theorem sl_206_2329 : pm_206.2.2.2.2.2 2329 = some (.aload_n 0, 1, 0, 0, 0) := rfl
theorem sl_206_2330 : pm_206.2.2.2.2.2 2330 = some (.sipush 128, 3, 0, 0, 0) := rfl
theorem sl_206_2333 : pm_206.2.2.2.2.2 2333 = some (.newarray .int, 2, 0, 0, 0) := rfl
theorem sl_206_2335 : pm_206.2.2.2.2.2 2335 = some (.putfield 388, 3, 12, 163, 0) := rfl
theorem sl_206_2338 : pm_206.2.2.2.2.2 2338 = some (.aload_n 0, 1, 0, 0, 0) := rfl
theorem sl_206_2339 : pm_206.2.2.2.2.2 2339 = some (.sipush 128, 3, 0, 0, 0) := rfl
theorem sl_206_2342 : pm_206.2.2.2.2.2 2342 = some (.newarray .int, 2, 0, 0, 0) := rfl
theorem sl_206_2344 : pm_206.2.2.2.2.2 2344 = some (.putfield 391, 3, 12, 164, 0) := rfl
theorem sl_206_2347 : pm_206.2.2.2.2.2 2347 = some (.aload_n 0, 1, 0, 0, 0) := rfl
theorem sl_206_2348 : pm_206.2.2.2.2.2 2348 = some (.sipush 128, 3, 0, 0, 0) := rfl
theorem sl_206_2351 : pm_206.2.2.2.2.2 2351 = some (.newarray .int, 2, 0, 0, 0) := rfl
theorem sl_206_2353 : pm_206.2.2.2.2.2 2353 = some (.putfield 394, 3, 12, 165, 0) := rfl
theorem sl_206_2356 : pm_206.2.2.2.2.2 2356 = some (.aload_n 0, 1, 0, 0, 0) := rfl
theorem sl_206_2357 : pm_206.2.2.2.2.2 2357 = some (.sipush 128, 3, 0, 0, 0) := rfl
theorem sl_206_2360 : pm_206.2.2.2.2.2 2360 = some (.newarray .int, 2, 0, 0, 0) := rfl
theorem sl_206_2362 : pm_206.2.2.2.2.2 2362 = some (.putfield 397, 3, 12, 166, 0) := rfl
theorem sl_206_2365 : pm_206.2.2.2.2.2 2365 = some (.aload_n 0, 1, 0, 0, 0) := rfl
theorem sl_206_2366 : pm_206.2.2.2.2.2 2366 = some (.sipush 128, 3, 0, 0, 0) := rfl
theorem sl_206_2369 : pm_206.2.2.2.2.2 2369 = some (.newarray .int, 2, 0, 0, 0) := rfl
theorem sl_206_2371 : pm_206.2.2.2.2.2 2371 = some (.putfield 400, 3, 12, 167, 0) := rfl
theorem sl_206_2374 : pm_206.2.2.2.2.2 2374 = some (.aload_n 0, 1, 0, 0, 0) := rfl
theorem sl_206_2375 : pm_206.2.2.2.2.2 2375 = some (.ldc_w 403, 3, 114688, 0, 0) := rfl
theorem sl_206_2378 : pm_206.2.2.2.2.2 2378 = some (.newarray .int, 2, 0, 0, 0) := rfl
theorem sl_206_2380 : pm_206.2.2.2.2.2 2380 = some (.putfield 404, 3, 12, 168, 0) := rfl
theorem sl_206_2383 : pm_206.2.2.2.2.2 2383 = some (.aload_n 0, 1, 0, 0, 0) := rfl
theorem sl_206_2384 : pm_206.2.2.2.2.2 2384 = some (.sipush 6144, 3, 0, 0, 0) := rfl
theorem sl_206_2387 : pm_206.2.2.2.2.2 2387 = some (.newarray .int, 2, 0, 0, 0) := rfl
theorem sl_206_2389 : pm_206.2.2.2.2.2 2389 = some (.putfield 407, 3, 12, 169, 0) := rfl
theorem sl_206_2392 : pm_206.2.2.2.2.2 2392 = some (.aload_n 0, 1, 0, 0, 0) := rfl
theorem sl_206_2393 : pm_206.2.2.2.2.2 2393 = some (.bipush 16, 2, 0, 0, 0) := rfl
theorem sl_206_2395 : pm_206.2.2.2.2.2 2395 = some (.newarray .int, 2, 0, 0, 0) := rfl
theorem sl_206_2397 : pm_206.2.2.2.2.2 2397 = some (.putfield 410, 3, 12, 170, 0) := rfl
theorem sl_206_2400 : pm_206.2.2.2.2.2 2400 = some (.aload_n 0, 1, 0, 0, 0) := rfl
theorem sl_206_2401 : pm_206.2.2.2.2.2 2401 = some (.sipush 192, 3, 0, 0, 0) := rfl
theorem sl_206_2404 : pm_206.2.2.2.2.2 2404 = some (.newarray .long, 2, 1, 0, 0) := rfl
theorem sl_206_2406 : pm_206.2.2.2.2.2 2406 = some (.putfield 413, 3, 12, 171, 0) := rfl
theorem sl_206_2409 : pm_206.2.2.2.2.2 2409 = some (.aload_n 0, 1, 0, 0, 0) := rfl
theorem sl_206_2410 : pm_206.2.2.2.2.2 2410 = some (.bipush 16, 2, 0, 0, 0) := rfl
theorem sl_206_2412 : pm_206.2.2.2.2.2 2412 = some (.newarray .long, 2, 1, 0, 0) := rfl
theorem sl_206_2414 : pm_206.2.2.2.2.2 2414 = some (.putfield 416, 3, 12, 172, 0) := rfl
theorem sl_206_2417 : pm_206.2.2.2.2.2 2417 = some (.aload_n 0, 1, 0, 0, 0) := rfl
theorem sl_206_2418 : pm_206.2.2.2.2.2 2418 = some (.sipush 800, 3, 0, 0, 0) := rfl
theorem sl_206_2421 : pm_206.2.2.2.2.2 2421 = some (.newarray .long, 2, 1, 0, 0) := rfl
theorem sl_206_2423 : pm_206.2.2.2.2.2 2423 = some (.putfield 419, 3, 12, 173, 0) := rfl
theorem sl_206_2426 : pm_206.2.2.2.2.2 2426 = some (.aload_n 0, 1, 0, 0, 0) := rfl
theorem sl_206_2427 : pm_206.2.2.2.2.2 2427 = some (.iconst 4, 1, 0, 0, 0) := rfl
theorem sl_206_2428 : pm_206.2.2.2.2.2 2428 = some (.newarray .long, 2, 1, 0, 0) := rfl
theorem sl_206_2430 : pm_206.2.2.2.2.2 2430 = some (.putfield 422, 3, 12, 174, 0) := rfl
theorem sl_206_2433 : pm_206.2.2.2.2.2 2433 = some (.aload_n 0, 1, 0, 0, 0) := rfl
theorem sl_206_2434 : pm_206.2.2.2.2.2 2434 = some (.bipush 12, 2, 0, 0, 0) := rfl
theorem sl_206_2436 : pm_206.2.2.2.2.2 2436 = some (.newarray .boolean, 2, 3, 0, 0) := rfl
theorem sl_206_2438 : pm_206.2.2.2.2.2 2438 = some (.putfield 425, 3, 12, 175, 0) := rfl
theorem sl_206_2441 : pm_206.2.2.2.2.2 2441 = some (.aload_n 0, 1, 0, 0, 0) := rfl
theorem sl_206_2442 : pm_206.2.2.2.2.2 2442 = some (.iconst 4, 1, 0, 0, 0) := rfl
theorem sl_206_2443 : pm_206.2.2.2.2.2 2443 = some (.newarray .long, 2, 1, 0, 0) := rfl
theorem sl_206_2445 : pm_206.2.2.2.2.2 2445 = some (.putfield 428, 3, 12, 178, 0) := rfl
theorem sl_206_2448 : pm_206.2.2.2.2.2 2448 = some (.return_, 1, 0, 0, 0) := rfl
theorem sl_207_0 : pm_207.2.2.2.2.2 0 = some (.aload_n 0, 1, 0, 0, 0) := rfl
theorem sl_207_1 : pm_207.2.2.2.2.2 1 = some (.getfield 431, 3, 12, 1, 0) := rfl
theorem sl_207_4 : pm_207.2.2.2.2.2 4 = some (.ireturn, 1, 0, 0, 0) := rfl
theorem sl_208_0 : pm_208.2.2.2.2.2 0 = some (.aload_n 0, 1, 0, 0, 0) := rfl
theorem sl_208_1 : pm_208.2.2.2.2.2 1 = some (.iconst 0, 1, 0, 0, 0) := rfl
theorem sl_208_2 : pm_208.2.2.2.2.2 2 = some (.putfield 431, 3, 12, 1, 0) := rfl
theorem sl_208_5 : pm_208.2.2.2.2.2 5 = some (.iconst 0, 1, 0, 0, 0) := rfl
theorem sl_208_6 : pm_208.2.2.2.2.2 6 = some (.istore 6, 2, 0, 0, 0) := rfl
theorem sl_208_8 : pm_208.2.2.2.2.2 8 = some (.iload 6, 2, 0, 0, 0) := rfl
theorem sl_208_10 : pm_208.2.2.2.2.2 10 = some (.iconst 4, 1, 0, 0, 0) := rfl
theorem sl_208_11 : pm_208.2.2.2.2.2 11 = some (.if_icmp .ge 107, 3, 0, 0, 0) := rfl
theorem sl_208_14 : pm_208.2.2.2.2.2 14 = some (.bipush 24, 2, 0, 0, 0) := rfl
theorem sl_208_16 : pm_208.2.2.2.2.2 16 = some (.bipush 8, 2, 0, 0, 0) := rfl
theorem sl_208_18 : pm_208.2.2.2.2.2 18 = some (.iload 6, 2, 0, 0, 0) := rfl
theorem sl_208_20 : pm_208.2.2.2.2.2 20 = some (.imul, 1, 0, 0, 0) := rfl
theorem sl_208_21 : pm_208.2.2.2.2.2 21 = some (.isub, 1, 0, 0, 0) := rfl
theorem sl_208_22 : pm_208.2.2.2.2.2 22 = some (.istore 7, 2, 0, 0, 0) := rfl
theorem sl_208_24 : pm_208.2.2.2.2.2 24 = some (.aload_n 0, 1, 0, 0, 0) := rfl
theorem sl_208_25 : pm_208.2.2.2.2.2 25 = some (.getfield 13, 3, 12, 2, 0) := rfl
theorem sl_208_28 : pm_208.2.2.2.2.2 28 = some (.iload 6, 2, 0, 0, 0) := rfl
theorem sl_208_30 : pm_208.2.2.2.2.2 30 = some (.iload_n 1, 1, 0, 0, 0) := rfl
theorem sl_208_31 : pm_208.2.2.2.2.2 31 = some (.iload 7, 2, 0, 0, 0) := rfl
theorem sl_208_33 : pm_208.2.2.2.2.2 33 = some (.ishr, 1, 0, 0, 0) := rfl
theorem sl_208_34 : pm_208.2.2.2.2.2 34 = some (.sipush 255, 3, 0, 0, 0) := rfl
theorem sl_208_37 : pm_208.2.2.2.2.2 37 = some (.iand, 1, 0, 0, 0) := rfl
theorem sl_208_38 : pm_208.2.2.2.2.2 38 = some (.iastore, 1, 0, 0, 0) := rfl
theorem sl_208_39 : pm_208.2.2.2.2.2 39 = some (.aload_n 0, 1, 0, 0, 0) := rfl
theorem sl_208_40 : pm_208.2.2.2.2.2 40 = some (.getfield 13, 3, 12, 2, 0) := rfl
theorem sl_208_43 : pm_208.2.2.2.2.2 43 = some (.iconst 4, 1, 0, 0, 0) := rfl
theorem sl_208_44 : pm_208.2.2.2.2.2 44 = some (.iload 6, 2, 0, 0, 0) := rfl
theorem sl_208_46 : pm_208.2.2.2.2.2 46 = some (.iadd, 1, 0, 0, 0) := rfl
theorem sl_208_47 : pm_208.2.2.2.2.2 47 = some (.iload_n 2, 1, 0, 0, 0) := rfl
theorem sl_208_48 : pm_208.2.2.2.2.2 48 = some (.iload 7, 2, 0, 0, 0) := rfl
theorem sl_208_50 : pm_208.2.2.2.2.2 50 = some (.ishr, 1, 0, 0, 0) := rfl
theorem sl_208_51 : pm_208.2.2.2.2.2 51 = some (.sipush 255, 3, 0, 0, 0) := rfl
theorem sl_208_54 : pm_208.2.2.2.2.2 54 = some (.iand, 1, 0, 0, 0) := rfl
theorem sl_208_55 : pm_208.2.2.2.2.2 55 = some (.iastore, 1, 0, 0, 0) := rfl
theorem sl_208_56 : pm_208.2.2.2.2.2 56 = some (.aload_n 0, 1, 0, 0, 0) := rfl
theorem sl_208_57 : pm_208.2.2.2.2.2 57 = some (.getfield 13, 3, 12, 2, 0) := rfl
theorem sl_208_60 : pm_208.2.2.2.2.2 60 = some (.bipush 8, 2, 0, 0, 0) := rfl
theorem sl_208_62 : pm_208.2.2.2.2.2 62 = some (.iload 6, 2, 0, 0, 0) := rfl
theorem sl_208_64 : pm_208.2.2.2.2.2 64 = some (.iadd, 1, 0, 0, 0) := rfl
theorem sl_208_65 : pm_208.2.2.2.2.2 65 = some (.iload_n 3, 1, 0, 0, 0) := rfl
theorem sl_208_66 : pm_208.2.2.2.2.2 66 = some (.iload 7, 2, 0, 0, 0) := rfl
theorem sl_208_68 : pm_208.2.2.2.2.2 68 = some (.ishr, 1, 0, 0, 0) := rfl
theorem sl_208_69 : pm_208.2.2.2.2.2 69 = some (.sipush 255, 3, 0, 0, 0) := rfl
theorem sl_208_72 : pm_208.2.2.2.2.2 72 = some (.iand, 1, 0, 0, 0) := rfl
theorem sl_208_73 : pm_208.2.2.2.2.2 73 = some (.iastore, 1, 0, 0, 0) := rfl
theorem sl_208_74 : pm_208.2.2.2.2.2 74 = some (.aload_n 0, 1, 0, 0, 0) := rfl
theorem sl_208_75 : pm_208.2.2.2.2.2 75 = some (.getfield 13, 3, 12, 2, 0) := rfl
theorem sl_208_78 : pm_208.2.2.2.2.2 78 = some (.bipush 12, 2, 0, 0, 0) := rfl
theorem sl_208_80 : pm_208.2.2.2.2.2 80 = some (.iload 6, 2, 0, 0, 0) := rfl
theorem sl_208_82 : pm_208.2.2.2.2.2 82 = some (.iadd, 1, 0, 0, 0) := rfl
theorem sl_208_83 : pm_208.2.2.2.2.2 83 = some (.iload 4, 2, 0, 0, 0) := rfl
theorem sl_208_85 : pm_208.2.2.2.2.2 85 = some (.iload 7, 2, 0, 0, 0) := rfl
theorem sl_208_87 : pm_208.2.2.2.2.2 87 = some (.ishr, 1, 0, 0, 0) := rfl
theorem sl_208_88 : pm_208.2.2.2.2.2 88 = some (.sipush 255, 3, 0, 0, 0) := rfl
theorem sl_208_91 : pm_208.2.2.2.2.2 91 = some (.iand, 1, 0, 0, 0) := rfl
theorem sl_208_92 : pm_208.2.2.2.2.2 92 = some (.iastore, 1, 0, 0, 0) := rfl
theorem sl_208_93 : pm_208.2.2.2.2.2 93 = some (.aload_n 0, 1, 0, 0, 0) := rfl
theorem sl_208_94 : pm_208.2.2.2.2.2 94 = some (.getfield 13, 3, 12, 2, 0) := rfl
theorem sl_208_97 : pm_208.2.2.2.2.2 97 = some (.bipush 16, 2, 0, 0, 0) := rfl
theorem sl_208_99 : pm_208.2.2.2.2.2 99 = some (.iload 6, 2, 0, 0, 0) := rfl
theorem sl_208_101 : pm_208.2.2.2.2.2 101 = some (.iadd, 1, 0, 0, 0) := rfl
theorem sl_208_102 : pm_208.2.2.2.2.2 102 = some (.iload 5, 2, 0, 0, 0) := rfl
theorem sl_208_104 : pm_208.2.2.2.2.2 104 = some (.iload 7, 2, 0, 0, 0) := rfl
theorem sl_208_106 : pm_208.2.2.2.2.2 106 = some (.ishr, 1, 0, 0, 0) := rfl
theorem sl_208_107 : pm_208.2.2.2.2.2 107 = some (.sipush 255, 3, 0, 0, 0) := rfl
theorem sl_208_110 : pm_208.2.2.2.2.2 110 = some (.iand, 1, 0, 0, 0) := rfl
theorem sl_208_111 : pm_208.2.2.2.2.2 111 = some (.iastore, 1, 0, 0, 0) := rfl
theorem sl_208_112 : pm_208.2.2.2.2.2 112 = some (.iinc 6 1, 3, 0, 0, 0) := rfl
theorem sl_208_115 : pm_208.2.2.2.2.2 115 = some (.goto (-107), 3, 0, 0, 0) := rfl
theorem sl_208_118 : pm_208.2.2.2.2.2 118 = some (.return_, 1, 0, 0, 0) := rfl
theorem sl_209_0 : pm_209.2.2.2.2.2 0 = some (.aload_n 0, 1, 0, 0, 0) := rfl
theorem sl_209_1 : pm_209.2.2.2.2.2 1 = some (.iconst 0, 1, 0, 0, 0) := rfl
theorem sl_209_2 : pm_209.2.2.2.2.2 2 = some (.putfield 431, 3, 12, 1, 0) := rfl
theorem sl_209_5 : pm_209.2.2.2.2.2 5 = some (.iload_n 1, 1, 0, 0, 0) := rfl
theorem sl_209_6 : pm_209.2.2.2.2.2 6 = some (.ifCond .lt 21, 3, 0, 0, 0) := rfl
theorem sl_209_9 : pm_209.2.2.2.2.2 9 = some (.iload_n 1, 1, 0, 0, 0) := rfl
theorem sl_209_10 : pm_209.2.2.2.2.2 10 = some (.bipush 20, 2, 0, 0, 0) := rfl
theorem sl_209_12 : pm_209.2.2.2.2.2 12 = some (.if_icmp .gt 15, 3, 0, 0, 0) := rfl
theorem sl_209_15 : pm_209.2.2.2.2.2 15 = some (.aload_n 0, 1, 0, 0, 0) := rfl
theorem sl_209_16 : pm_209.2.2.2.2.2 16 = some (.getfield 434, 3, 12, 5, 0) := rfl
theorem sl_209_19 : pm_209.2.2.2.2.2 19 = some (.iload_n 1, 1, 0, 0, 0) := rfl
theorem sl_209_20 : pm_209.2.2.2.2.2 20 = some (.iadd, 1, 0, 0, 0) := rfl
theorem sl_209_21 : pm_209.2.2.2.2.2 21 = some (.sipush 4000, 3, 0, 0, 0) := rfl
theorem sl_209_24 : pm_209.2.2.2.2.2 24 = some (.if_icmp .le 5, 3, 0, 0, 0) := rfl
theorem sl_209_27 : pm_209.2.2.2.2.2 27 = some (.iconst (-1), 1, 0, 0, 0) := rfl
theorem sl_209_28 : pm_209.2.2.2.2.2 28 = some (.ireturn, 1, 0, 0, 0) := rfl
theorem sl_209_29 : pm_209.2.2.2.2.2 29 = some (.iconst 0, 1, 0, 0, 0) := rfl
theorem sl_209_30 : pm_209.2.2.2.2.2 30 = some (.istore_n 2, 1, 0, 0, 0) := rfl
theorem sl_209_31 : pm_209.2.2.2.2.2 31 = some (.iload_n 2, 1, 0, 0, 0) := rfl
theorem sl_209_32 : pm_209.2.2.2.2.2 32 = some (.iload_n 1, 1, 0, 0, 0) := rfl
theorem sl_209_33 : pm_209.2.2.2.2.2 33 = some (.if_icmp .ge 26, 3, 0, 0, 0) := rfl
theorem sl_209_36 : pm_209.2.2.2.2.2 36 = some (.aload_n 0, 1, 0, 0, 0) := rfl
theorem sl_209_37 : pm_209.2.2.2.2.2 37 = some (.getfield 16, 3, 12, 3, 0) := rfl
theorem sl_209_40 : pm_209.2.2.2.2.2 40 = some (.aload_n 0, 1, 0, 0, 0) := rfl
theorem sl_209_41 : pm_209.2.2.2.2.2 41 = some (.getfield 434, 3, 12, 5, 0) := rfl
theorem sl_209_44 : pm_209.2.2.2.2.2 44 = some (.iload_n 2, 1, 0, 0, 0) := rfl
theorem sl_209_45 : pm_209.2.2.2.2.2 45 = some (.iadd, 1, 0, 0, 0) := rfl
theorem sl_209_46 : pm_209.2.2.2.2.2 46 = some (.aload_n 0, 1, 0, 0, 0) := rfl
theorem sl_209_47 : pm_209.2.2.2.2.2 47 = some (.getfield 13, 3, 12, 2, 0) := rfl
theorem sl_209_50 : pm_209.2.2.2.2.2 50 = some (.iload_n 2, 1, 0, 0, 0) := rfl
theorem sl_209_51 : pm_209.2.2.2.2.2 51 = some (.iaload, 1, 0, 0, 0) := rfl
theorem sl_209_52 : pm_209.2.2.2.2.2 52 = some (.iastore, 1, 0, 0, 0) := rfl
theorem sl_209_53 : pm_209.2.2.2.2.2 53 = some (.iinc 2 1, 3, 0, 0, 0) := rfl
theorem sl_209_56 : pm_209.2.2.2.2.2 56 = some (.goto (-25), 3, 0, 0, 0) := rfl
theorem sl_209_59 : pm_209.2.2.2.2.2 59 = some (.aload_n 0, 1, 0, 0, 0) := rfl
theorem sl_209_60 : pm_209.2.2.2.2.2 60 = some (.dup, 1, 0, 0, 0) := rfl
theorem sl_209_61 : pm_209.2.2.2.2.2 61 = some (.getfield 434, 3, 12, 5, 0) := rfl
theorem sl_209_64 : pm_209.2.2.2.2.2 64 = some (.iload_n 1, 1, 0, 0, 0) := rfl
theorem sl_209_65 : pm_209.2.2.2.2.2 65 = some (.iadd, 1, 0, 0, 0) := rfl
theorem sl_209_66 : pm_209.2.2.2.2.2 66 = some (.putfield 434, 3, 12, 5, 0) := rfl
theorem sl_209_69 : pm_209.2.2.2.2.2 69 = some (.iconst 0, 1, 0, 0, 0) := rfl
theorem sl_209_70 : pm_209.2.2.2.2.2 70 = some (.istore_n 2, 1, 0, 0, 0) := rfl
theorem sl_209_71 : pm_209.2.2.2.2.2 71 = some (.iload_n 2, 1, 0, 0, 0) := rfl
theorem sl_209_72 : pm_209.2.2.2.2.2 72 = some (.bipush 20, 2, 0, 0, 0) := rfl
theorem sl_209_74 : pm_209.2.2.2.2.2 74 = some (.if_icmp .ge 16, 3, 0, 0, 0) := rfl
theorem sl_209_77 : pm_209.2.2.2.2.2 77 = some (.aload_n 0, 1, 0, 0, 0) := rfl
theorem sl_209_78 : pm_209.2.2.2.2.2 78 = some (.getfield 13, 3, 12, 2, 0) := rfl
theorem sl_209_81 : pm_209.2.2.2.2.2 81 = some (.iload_n 2, 1, 0, 0, 0) := rfl
theorem sl_209_82 : pm_209.2.2.2.2.2 82 = some (.iconst 0, 1, 0, 0, 0) := rfl
theorem sl_209_83 : pm_209.2.2.2.2.2 83 = some (.iastore, 1, 0, 0, 0) := rfl
theorem sl_209_84 : pm_209.2.2.2.2.2 84 = some (.iinc 2 1, 3, 0, 0, 0) := rfl
theorem sl_209_87 : pm_209.2.2.2.2.2 87 = some (.goto (-16), 3, 0, 0, 0) := rfl
theorem sl_209_90 : pm_209.2.2.2.2.2 90 = some (.aload_n 0, 1, 0, 0, 0) := rfl
theorem sl_209_91 : pm_209.2.2.2.2.2 91 = some (.getfield 434, 3, 12, 5, 0) := rfl
theorem sl_209_94 : pm_209.2.2.2.2.2 94 = some (.ireturn, 1, 0, 0, 0) := rfl
theorem sl_210_0 : pm_210.2.2.2.2.2 0 = some (.aload_n 0, 1, 0, 0, 0) := rfl
theorem sl_210_1 : pm_210.2.2.2.2.2 1 = some (.aload_n 0, 1, 0, 0, 0) := rfl
theorem sl_210_2 : pm_210.2.2.2.2.2 2 = some (.getfield 434, 3, 12, 5, 0) := rfl
theorem sl_210_5 : pm_210.2.2.2.2.2 5 = some (.putfield 440, 3, 12, 6, 0) := rfl
theorem sl_210_8 : pm_210.2.2.2.2.2 8 = some (.aload_n 0, 1, 0, 0, 0) := rfl
theorem sl_210_9 : pm_210.2.2.2.2.2 9 = some (.iconst 0, 1, 0, 0, 0) := rfl
theorem sl_210_10 : pm_210.2.2.2.2.2 10 = some (.putfield 434, 3, 12, 5, 0) := rfl
theorem sl_210_13 : pm_210.2.2.2.2.2 13 = some (.iconst 0, 1, 0, 0, 0) := rfl
theorem sl_210_14 : pm_210.2.2.2.2.2 14 = some (.istore_n 1, 1, 0, 0, 0) := rfl
theorem sl_210_15 : pm_210.2.2.2.2.2 15 = some (.iload_n 1, 1, 0, 0, 0) := rfl
theorem sl_210_16 : pm_210.2.2.2.2.2 16 = some (.aload_n 0, 1, 0, 0, 0) := rfl
theorem sl_210_17 : pm_210.2.2.2.2.2 17 = some (.getfield 440, 3, 12, 6, 0) := rfl
theorem sl_210_20 : pm_210.2.2.2.2.2 20 = some (.if_icmp .ge 21, 3, 0, 0, 0) := rfl
theorem sl_210_41 : pm_210.2.2.2.2.2 41 = some (.aload_n 0, 1, 0, 0, 0) := rfl
theorem sl_210_42 : pm_210.2.2.2.2.2 42 = some (.iconst 0, 1, 0, 0, 0) := rfl
theorem sl_210_43 : pm_210.2.2.2.2.2 43 = some (.putfield 766, 3, 12, 127, 0) := rfl
theorem sl_210_46 : pm_210.2.2.2.2.2 46 = some (.aload_n 0, 1, 0, 0, 0) := rfl
theorem sl_210_47 : pm_210.2.2.2.2.2 47 = some (.iconst 0, 1, 0, 0, 0) := rfl
theorem sl_210_48 : pm_210.2.2.2.2.2 48 = some (.putfield 450, 3, 12, 8, 0) := rfl
theorem sl_210_51 : pm_210.2.2.2.2.2 51 = some (.aload_n 0, 1, 0, 0, 0) := rfl
theorem sl_210_52 : pm_210.2.2.2.2.2 52 = some (.iconst 0, 1, 0, 0, 0) := rfl
theorem sl_210_53 : pm_210.2.2.2.2.2 53 = some (.putfield 447, 3, 12, 9, 0) := rfl
theorem sl_210_56 : pm_210.2.2.2.2.2 56 = some (.aload_n 0, 1, 0, 0, 0) := rfl
theorem sl_210_57 : pm_210.2.2.2.2.2 57 = some (.iconst 0, 1, 0, 0, 0) := rfl
theorem sl_210_58 : pm_210.2.2.2.2.2 58 = some (.putfield 437, 3, 12, 10, 0) := rfl
theorem sl_210_61 : pm_210.2.2.2.2.2 61 = some (.aload_n 0, 1, 0, 0, 0) := rfl
theorem sl_210_62 : pm_210.2.2.2.2.2 62 = some (.iconst (-1), 1, 0, 0, 0) := rfl
theorem sl_210_63 : pm_210.2.2.2.2.2 63 = some (.putfield 22, 3, 12, 11, 0) := rfl
theorem sl_210_66 : pm_210.2.2.2.2.2 66 = some (.aload_n 0, 1, 0, 0, 0) := rfl
theorem sl_210_67 : pm_210.2.2.2.2.2 67 = some (.iconst 0, 1, 0, 0, 0) := rfl
theorem sl_210_68 : pm_210.2.2.2.2.2 68 = some (.putfield 501, 3, 12, 13, 0) := rfl
theorem sl_210_71 : pm_210.2.2.2.2.2 71 = some (.aload_n 0, 1, 0, 0, 0) := rfl
theorem sl_210_72 : pm_210.2.2.2.2.2 72 = some (.iconst 0, 1, 0, 0, 0) := rfl
theorem sl_210_73 : pm_210.2.2.2.2.2 73 = some (.putfield 627, 3, 12, 19, 0) := rfl
theorem sl_210_76 : pm_210.2.2.2.2.2 76 = some (.aload_n 0, 1, 0, 0, 0) := rfl
theorem sl_210_77 : pm_210.2.2.2.2.2 77 = some (.iconst 0, 1, 0, 0, 0) := rfl
theorem sl_210_78 : pm_210.2.2.2.2.2 78 = some (.putfield 637, 3, 12, 20, 0) := rfl
theorem sl_210_81 : pm_210.2.2.2.2.2 81 = some (.aload_n 0, 1, 0, 0, 0) := rfl
theorem sl_210_82 : pm_210.2.2.2.2.2 82 = some (.iconst 3, 1, 0, 0, 0) := rfl
theorem sl_210_83 : pm_210.2.2.2.2.2 83 = some (.putfield 640, 3, 12, 21, 0) := rfl
theorem sl_210_86 : pm_210.2.2.2.2.2 86 = some (.iconst 0, 1, 0, 0, 0) := rfl
theorem sl_210_87 : pm_210.2.2.2.2.2 87 = some (.istore_n 1, 1, 0, 0, 0) := rfl
theorem sl_210_88 : pm_210.2.2.2.2.2 88 = some (.iload_n 1, 1, 0, 0, 0) := rfl
theorem sl_210_89 : pm_210.2.2.2.2.2 89 = some (.iconst 3, 1, 0, 0, 0) := rfl
theorem sl_210_90 : pm_210.2.2.2.2.2 90 = some (.if_icmp .ge 17, 3, 0, 0, 0) := rfl
theorem sl_210_93 : pm_210.2.2.2.2.2 93 = some (.aload_n 0, 1, 0, 0, 0) := rfl
theorem sl_210_94 : pm_210.2.2.2.2.2 94 = some (.getfield 59, 3, 12, 35, 0) := rfl
theorem sl_210_97 : pm_210.2.2.2.2.2 97 = some (.iload_n 1, 1, 0, 0, 0) := rfl
theorem sl_210_98 : pm_210.2.2.2.2.2 98 = some (.bipush 16, 2, 0, 0, 0) := rfl
theorem sl_210_100 : pm_210.2.2.2.2.2 100 = some (.iastore, 1, 0, 0, 0) := rfl
theorem sl_210_101 : pm_210.2.2.2.2.2 101 = some (.iinc 1 1, 3, 0, 0, 0) := rfl
theorem sl_210_104 : pm_210.2.2.2.2.2 104 = some (.goto (-16), 3, 0, 0, 0) := rfl
theorem sl_210_107 : pm_210.2.2.2.2.2 107 = some (.aload_n 0, 1, 0, 0, 0) := rfl
theorem sl_210_108 : pm_210.2.2.2.2.2 108 = some (.iconst 0, 1, 0, 0, 0) := rfl
theorem sl_210_109 : pm_210.2.2.2.2.2 109 = some (.putfield 643, 3, 12, 22, 0) := rfl
theorem sl_210_112 : pm_210.2.2.2.2.2 112 = some (.aload_n 0, 1, 0, 0, 0) := rfl
theorem sl_210_113 : pm_210.2.2.2.2.2 113 = some (.iconst 0, 1, 0, 0, 0) := rfl
theorem sl_210_114 : pm_210.2.2.2.2.2 114 = some (.putfield 646, 3, 12, 23, 0) := rfl
theorem sl_210_117 : pm_210.2.2.2.2.2 117 = some (.aload_n 0, 1, 0, 0, 0) := rfl
theorem sl_210_118 : pm_210.2.2.2.2.2 118 = some (.iconst 0, 1, 0, 0, 0) := rfl
theorem sl_210_119 : pm_210.2.2.2.2.2 119 = some (.putfield 649, 3, 12, 24, 0) := rfl
theorem sl_210_122 : pm_210.2.2.2.2.2 122 = some (.aload_n 0, 1, 0, 0, 0) := rfl
theorem sl_210_123 : pm_210.2.2.2.2.2 123 = some (.iconst 0, 1, 0, 0, 0) := rfl
theorem sl_210_124 : pm_210.2.2.2.2.2 124 = some (.putfield 688, 3, 12, 25, 0) := rfl
theorem sl_210_127 : pm_210.2.2.2.2.2 127 = some (.aload_n 0, 1, 0, 0, 0) := rfl
theorem sl_210_128 : pm_210.2.2.2.2.2 128 = some (.iconst 0, 1, 0, 0, 0) := rfl
theorem sl_210_129 : pm_210.2.2.2.2.2 129 = some (.putfield 701, 3, 12, 26, 0) := rfl
theorem sl_210_132 : pm_210.2.2.2.2.2 132 = some (.aload_n 0, 1, 0, 0, 0) := rfl
theorem sl_210_133 : pm_210.2.2.2.2.2 133 = some (.iconst 0, 1, 0, 0, 0) := rfl
theorem sl_210_134 : pm_210.2.2.2.2.2 134 = some (.putfield 724, 3, 12, 27, 0) := rfl
theorem sl_210_137 : pm_210.2.2.2.2.2 137 = some (.aload_n 0, 1, 0, 0, 0) := rfl
theorem sl_210_138 : pm_210.2.2.2.2.2 138 = some (.iconst 0, 1, 0, 0, 0) := rfl
theorem sl_210_139 : pm_210.2.2.2.2.2 139 = some (.putfield 523, 3, 12, 28, 0) := rfl
theorem sl_210_142 : pm_210.2.2.2.2.2 142 = some (.aload_n 0, 1, 0, 0, 0) := rfl
theorem sl_210_143 : pm_210.2.2.2.2.2 143 = some (.iconst 0, 1, 0, 0, 0) := rfl
theorem sl_210_144 : pm_210.2.2.2.2.2 144 = some (.putfield 676, 3, 12, 99, 0) := rfl
theorem sl_210_147 : pm_210.2.2.2.2.2 147 = some (.aload_n 0, 1, 0, 0, 0) := rfl
theorem sl_210_148 : pm_210.2.2.2.2.2 148 = some (.iconst (-1), 1, 0, 0, 0) := rfl
theorem sl_210_149 : pm_210.2.2.2.2.2 149 = some (.putfield 147, 3, 12, 64, 0) := rfl
theorem sl_210_152 : pm_210.2.2.2.2.2 152 = some (.aload_n 0, 1, 0, 0, 0) := rfl
theorem sl_210_153 : pm_210.2.2.2.2.2 153 = some (.invokevirtual 769, 3, 211, 0, 0) := rfl
theorem sl_210_156 : pm_210.2.2.2.2.2 156 = some (.aload_n 0, 1, 0, 0, 0) := rfl
theorem sl_210_157 : pm_210.2.2.2.2.2 157 = some (.invokevirtual 495, 3, 212, 0, 0) := rfl
theorem sl_210_160 : pm_210.2.2.2.2.2 160 = some (.aload_n 0, 1, 0, 0, 0) := rfl
theorem sl_210_161 : pm_210.2.2.2.2.2 161 = some (.getfield 437, 3, 12, 10, 0) := rfl
theorem sl_210_164 : pm_210.2.2.2.2.2 164 = some (.ifCond .ne 18, 3, 0, 0, 0) := rfl
theorem sl_210_167 : pm_210.2.2.2.2.2 167 = some (.aload_n 0, 1, 0, 0, 0) := rfl
theorem sl_210_168 : pm_210.2.2.2.2.2 168 = some (.invokevirtual 772, 3, 223, 0, 0) := rfl
theorem sl_210_171 : pm_210.2.2.2.2.2 171 = some (.ifCond .eq 11, 3, 0, 0, 0) := rfl
theorem sl_210_182 : pm_210.2.2.2.2.2 182 = some (.aload_n 0, 1, 0, 0, 0) := rfl
theorem sl_210_183 : pm_210.2.2.2.2.2 183 = some (.invokevirtual 775, 3, 279, 0, 0) := rfl
theorem sl_210_186 : pm_210.2.2.2.2.2 186 = some (.aload_n 0, 1, 0, 0, 0) := rfl
theorem sl_210_187 : pm_210.2.2.2.2.2 187 = some (.invokevirtual 778, 3, 283, 0, 0) := rfl
theorem sl_210_190 : pm_210.2.2.2.2.2 190 = some (.aload_n 0, 1, 0, 0, 0) := rfl
theorem sl_210_191 : pm_210.2.2.2.2.2 191 = some (.getfield 437, 3, 12, 10, 0) := rfl
theorem sl_210_194 : pm_210.2.2.2.2.2 194 = some (.ifCond .ne 14, 3, 0, 0, 0) := rfl
theorem sl_210_208 : pm_210.2.2.2.2.2 208 = some (.aload_n 0, 1, 0, 0, 0) := rfl
theorem sl_210_209 : pm_210.2.2.2.2.2 209 = some (.getfield 437, 3, 12, 10, 0) := rfl
theorem sl_210_212 : pm_210.2.2.2.2.2 212 = some (.ifCond .ne 7, 3, 0, 0, 0) := rfl
theorem sl_210_219 : pm_210.2.2.2.2.2 219 = some (.aload_n 0, 1, 0, 0, 0) := rfl
theorem sl_210_220 : pm_210.2.2.2.2.2 220 = some (.aload_n 0, 1, 0, 0, 0) := rfl
theorem sl_210_221 : pm_210.2.2.2.2.2 221 = some (.getfield 437, 3, 12, 10, 0) := rfl
theorem sl_210_224 : pm_210.2.2.2.2.2 224 = some (.ifCond .le 7, 3, 0, 0, 0) := rfl
theorem sl_210_227 : pm_210.2.2.2.2.2 227 = some (.iconst 1, 1, 0, 0, 0) := rfl
theorem sl_210_228 : pm_210.2.2.2.2.2 228 = some (.goto 4, 3, 0, 0, 0) := rfl
theorem sl_210_232 : pm_210.2.2.2.2.2 232 = some (.putfield 431, 3, 12, 1, 0) := rfl
theorem sl_210_235 : pm_210.2.2.2.2.2 235 = some (.aload_n 0, 1, 0, 0, 0) := rfl
theorem sl_210_236 : pm_210.2.2.2.2.2 236 = some (.aload_n 0, 1, 0, 0, 0) := rfl
theorem sl_210_237 : pm_210.2.2.2.2.2 237 = some (.getfield 437, 3, 12, 10, 0) := rfl
theorem sl_210_240 : pm_210.2.2.2.2.2 240 = some (.ifCond .ne 7, 3, 0, 0, 0) := rfl
theorem sl_210_247 : pm_210.2.2.2.2.2 247 = some (.iconst 0, 1, 0, 0, 0) := rfl
theorem sl_210_248 : pm_210.2.2.2.2.2 248 = some (.putfield 766, 3, 12, 127, 0) := rfl
theorem sl_210_251 : pm_210.2.2.2.2.2 251 = some (.aload_n 0, 1, 0, 0, 0) := rfl
theorem sl_210_252 : pm_210.2.2.2.2.2 252 = some (.getfield 766, 3, 12, 127, 0) := rfl
theorem sl_210_255 : pm_210.2.2.2.2.2 255 = some (.ifCond .eq 10, 3, 0, 0, 0) := rfl
theorem sl_210_265 : pm_210.2.2.2.2.2 265 = some (.iconst 0, 1, 0, 0, 0) := rfl
theorem sl_210_266 : pm_210.2.2.2.2.2 266 = some (.ireturn, 1, 0, 0, 0) := rfl
theorem sl_211_0 : pm_211.2.2.2.2.2 0 = some (.aload_n 0, 1, 0, 0, 0) := rfl
theorem sl_211_1 : pm_211.2.2.2.2.2 1 = some (.iconst 0, 1, 0, 0, 0) := rfl
theorem sl_211_2 : pm_211.2.2.2.2.2 2 = some (.putfield 818, 3, 12, 128, 0) := rfl
theorem sl_211_5 : pm_211.2.2.2.2.2 5 = some (.aload_n 0, 1, 0, 0, 0) := rfl
theorem sl_211_6 : pm_211.2.2.2.2.2 6 = some (.iconst (-1), 1, 0, 0, 0) := rfl
theorem sl_211_7 : pm_211.2.2.2.2.2 7 = some (.putfield 304, 3, 12, 130, 0) := rfl
theorem sl_211_10 : pm_211.2.2.2.2.2 10 = some (.iconst 0, 1, 0, 0, 0) := rfl
theorem sl_211_11 : pm_211.2.2.2.2.2 11 = some (.istore_n 1, 1, 0, 0, 0) := rfl
theorem sl_211_12 : pm_211.2.2.2.2.2 12 = some (.iload_n 1, 1, 0, 0, 0) := rfl
theorem sl_211_13 : pm_211.2.2.2.2.2 13 = some (.sipush 512, 3, 0, 0, 0) := rfl
theorem sl_211_16 : pm_211.2.2.2.2.2 16 = some (.if_icmp .ge 16, 3, 0, 0, 0) := rfl
theorem sl_211_19 : pm_211.2.2.2.2.2 19 = some (.aload_n 0, 1, 0, 0, 0) := rfl
theorem sl_211_20 : pm_211.2.2.2.2.2 20 = some (.getfield 328, 3, 12, 138, 0) := rfl
theorem sl_211_23 : pm_211.2.2.2.2.2 23 = some (.iload_n 1, 1, 0, 0, 0) := rfl
theorem sl_211_24 : pm_211.2.2.2.2.2 24 = some (.lconst 0, 1, 0, 0, 0) := rfl
theorem sl_211_25 : pm_211.2.2.2.2.2 25 = some (.lastore, 1, 0, 0, 0) := rfl
theorem sl_211_26 : pm_211.2.2.2.2.2 26 = some (.iinc 1 1, 3, 0, 0, 0) := rfl
theorem sl_211_29 : pm_211.2.2.2.2.2 29 = some (.goto (-17), 3, 0, 0, 0) := rfl
theorem sl_211_32 : pm_211.2.2.2.2.2 32 = some (.iconst 0, 1, 0, 0, 0) := rfl
theorem sl_211_33 : pm_211.2.2.2.2.2 33 = some (.istore_n 1, 1, 0, 0, 0) := rfl
theorem sl_211_34 : pm_211.2.2.2.2.2 34 = some (.iload_n 1, 1, 0, 0, 0) := rfl
theorem sl_211_35 : pm_211.2.2.2.2.2 35 = some (.bipush 8, 2, 0, 0, 0) := rfl
theorem sl_211_37 : pm_211.2.2.2.2.2 37 = some (.if_icmp .ge 16, 3, 0, 0, 0) := rfl
theorem sl_211_40 : pm_211.2.2.2.2.2 40 = some (.aload_n 0, 1, 0, 0, 0) := rfl
theorem sl_211_41 : pm_211.2.2.2.2.2 41 = some (.getfield 331, 3, 12, 139, 0) := rfl
theorem sl_211_44 : pm_211.2.2.2.2.2 44 = some (.iload_n 1, 1, 0, 0, 0) := rfl
theorem sl_211_45 : pm_211.2.2.2.2.2 45 = some (.iconst 0, 1, 0, 0, 0) := rfl
theorem sl_211_46 : pm_211.2.2.2.2.2 46 = some (.iastore, 1, 0, 0, 0) := rfl
theorem sl_211_47 : pm_211.2.2.2.2.2 47 = some (.iinc 1 1, 3, 0, 0, 0) := rfl
theorem sl_211_50 : pm_211.2.2.2.2.2 50 = some (.goto (-16), 3, 0, 0, 0) := rfl
theorem sl_211_53 : pm_211.2.2.2.2.2 53 = some (.aload_n 0, 1, 0, 0, 0) := rfl
theorem sl_211_54 : pm_211.2.2.2.2.2 54 = some (.iconst 0, 1, 0, 0, 0) := rfl
theorem sl_211_55 : pm_211.2.2.2.2.2 55 = some (.putfield 834, 3, 12, 148, 0) := rfl
theorem sl_211_58 : pm_211.2.2.2.2.2 58 = some (.aload_n 0, 1, 0, 0, 0) := rfl
theorem sl_211_59 : pm_211.2.2.2.2.2 59 = some (.iconst 0, 1, 0, 0, 0) := rfl
theorem sl_211_60 : pm_211.2.2.2.2.2 60 = some (.putfield 837, 3, 12, 149, 0) := rfl
theorem sl_211_63 : pm_211.2.2.2.2.2 63 = some (.aload_n 0, 1, 0, 0, 0) := rfl
theorem sl_211_64 : pm_211.2.2.2.2.2 64 = some (.iconst 0, 1, 0, 0, 0) := rfl
theorem sl_211_65 : pm_211.2.2.2.2.2 65 = some (.putfield 840, 3, 12, 150, 0) := rfl
theorem sl_211_68 : pm_211.2.2.2.2.2 68 = some (.aload_n 0, 1, 0, 0, 0) := rfl
theorem sl_211_69 : pm_211.2.2.2.2.2 69 = some (.iconst 0, 1, 0, 0, 0) := rfl
theorem sl_211_70 : pm_211.2.2.2.2.2 70 = some (.putfield 843, 3, 12, 151, 0) := rfl
theorem sl_211_73 : pm_211.2.2.2.2.2 73 = some (.aload_n 0, 1, 0, 0, 0) := rfl
theorem sl_211_74 : pm_211.2.2.2.2.2 74 = some (.iconst 0, 1, 0, 0, 0) := rfl
theorem sl_211_75 : pm_211.2.2.2.2.2 75 = some (.putfield 846, 3, 12, 152, 0) := rfl
theorem sl_211_78 : pm_211.2.2.2.2.2 78 = some (.return_, 1, 0, 0, 0) := rfl
theorem sl_212_0 : pm_212.2.2.2.2.2 0 = some (.aload_n 0, 1, 0, 0, 0) := rfl
theorem sl_212_1 : pm_212.2.2.2.2.2 1 = some (.getfield 437, 3, 12, 10, 0) := rfl
theorem sl_212_4 : pm_212.2.2.2.2.2 4 = some (.ifCond .le 4, 3, 0, 0, 0) := rfl
theorem sl_212_8 : pm_212.2.2.2.2.2 8 = some (.aload_n 0, 1, 0, 0, 0) := rfl
theorem sl_212_9 : pm_212.2.2.2.2.2 9 = some (.dup, 1, 0, 0, 0) := rfl
theorem sl_212_10 : pm_212.2.2.2.2.2 10 = some (.getfield 450, 3, 12, 8, 0) := rfl
theorem sl_212_13 : pm_212.2.2.2.2.2 13 = some (.aload_n 0, 1, 0, 0, 0) := rfl
theorem sl_212_14 : pm_212.2.2.2.2.2 14 = some (.getfield 447, 3, 12, 9, 0) := rfl
theorem sl_212_17 : pm_212.2.2.2.2.2 17 = some (.iadd, 1, 0, 0, 0) := rfl
theorem sl_212_18 : pm_212.2.2.2.2.2 18 = some (.putfield 450, 3, 12, 8, 0) := rfl
theorem sl_212_21 : pm_212.2.2.2.2.2 21 = some (.aload_n 0, 1, 0, 0, 0) := rfl
theorem sl_212_22 : pm_212.2.2.2.2.2 22 = some (.aload_n 0, 1, 0, 0, 0) := rfl
theorem sl_212_23 : pm_212.2.2.2.2.2 23 = some (.getfield 450, 3, 12, 8, 0) := rfl
theorem sl_212_26 : pm_212.2.2.2.2.2 26 = some (.invokevirtual 457, 3, 213, 1, 0) := rfl
theorem sl_212_29 : pm_212.2.2.2.2.2 29 = some (.bipush 32, 2, 0, 0, 0) := rfl
theorem sl_212_31 : pm_212.2.2.2.2.2 31 = some (.if_icmp .eq 16, 3, 0, 0, 0) := rfl
theorem sl_212_34 : pm_212.2.2.2.2.2 34 = some (.aload_n 0, 1, 0, 0, 0) := rfl
theorem sl_212_35 : pm_212.2.2.2.2.2 35 = some (.aload_n 0, 1, 0, 0, 0) := rfl
theorem sl_212_36 : pm_212.2.2.2.2.2 36 = some (.getfield 450, 3, 12, 8, 0) := rfl
theorem sl_212_39 : pm_212.2.2.2.2.2 39 = some (.invokevirtual 457, 3, 213, 1, 0) := rfl
theorem sl_212_42 : pm_212.2.2.2.2.2 42 = some (.bipush 10, 2, 0, 0, 0) := rfl
theorem sl_212_44 : pm_212.2.2.2.2.2 44 = some (.if_icmp .ne 16, 3, 0, 0, 0) := rfl
theorem sl_212_60 : pm_212.2.2.2.2.2 60 = some (.aload_n 0, 1, 0, 0, 0) := rfl
theorem sl_212_61 : pm_212.2.2.2.2.2 61 = some (.invokevirtual 492, 3, 214, 0, 0) := rfl
theorem sl_212_64 : pm_212.2.2.2.2.2 64 = some (.return_, 1, 0, 0, 0) := rfl
theorem sl_213_0 : pm_213.2.2.2.2.2 0 = some (.iload_n 1, 1, 0, 0, 0) := rfl
theorem sl_213_1 : pm_213.2.2.2.2.2 1 = some (.aload_n 0, 1, 0, 0, 0) := rfl
theorem sl_213_2 : pm_213.2.2.2.2.2 2 = some (.getfield 440, 3, 12, 6, 0) := rfl
theorem sl_213_5 : pm_213.2.2.2.2.2 5 = some (.if_icmp .ge 12, 3, 0, 0, 0) := rfl
theorem sl_213_17 : pm_213.2.2.2.2.2 17 = some (.iconst (-1), 1, 0, 0, 0) := rfl
theorem sl_213_18 : pm_213.2.2.2.2.2 18 = some (.ireturn, 1, 0, 0, 0) := rfl
theorem sl_214_0 : pm_214.2.2.2.2.2 0 = some (.aload_n 0, 1, 0, 0, 0) := rfl
theorem sl_214_1 : pm_214.2.2.2.2.2 1 = some (.aload_n 0, 1, 0, 0, 0) := rfl
theorem sl_214_2 : pm_214.2.2.2.2.2 2 = some (.getfield 450, 3, 12, 8, 0) := rfl
theorem sl_214_5 : pm_214.2.2.2.2.2 5 = some (.invokevirtual 457, 3, 213, 1, 0) := rfl
theorem sl_214_8 : pm_214.2.2.2.2.2 8 = some (.istore_n 1, 1, 0, 0, 0) := rfl
theorem sl_214_9 : pm_214.2.2.2.2.2 9 = some (.aload_n 0, 1, 0, 0, 0) := rfl
theorem sl_214_10 : pm_214.2.2.2.2.2 10 = some (.iconst 1, 1, 0, 0, 0) := rfl
theorem sl_214_11 : pm_214.2.2.2.2.2 11 = some (.putfield 447, 3, 12, 9, 0) := rfl
theorem sl_214_14 : pm_214.2.2.2.2.2 14 = some (.iload_n 1, 1, 0, 0, 0) := rfl
theorem sl_214_15 : pm_214.2.2.2.2.2 15 = some (.iconst (-1), 1, 0, 0, 0) := rfl
theorem sl_214_16 : pm_214.2.2.2.2.2 16 = some (.if_icmp .ne 11, 3, 0, 0, 0) := rfl
theorem sl_214_19 : pm_214.2.2.2.2.2 19 = some (.aload_n 0, 1, 0, 0, 0) := rfl
theorem sl_214_20 : pm_214.2.2.2.2.2 20 = some (.iconst 0, 1, 0, 0, 0) := rfl
theorem sl_214_21 : pm_214.2.2.2.2.2 21 = some (.putfield 468, 3, 12, 7, 0) := rfl
theorem sl_214_24 : pm_214.2.2.2.2.2 24 = some (.goto 186, 3, 0, 0, 0) := rfl
theorem sl_214_210 : pm_214.2.2.2.2.2 210 = some (.aload_n 0, 1, 0, 0, 0) := rfl
theorem sl_214_211 : pm_214.2.2.2.2.2 211 = some (.getfield 468, 3, 12, 7, 0) := rfl
theorem sl_214_214 : pm_214.2.2.2.2.2 214 = some (.iconst 3, 1, 0, 0, 0) := rfl
theorem sl_214_215 : pm_214.2.2.2.2.2 215 = some (.if_icmp .ne 12, 3, 0, 0, 0) := rfl
theorem sl_214_227 : pm_214.2.2.2.2.2 227 = some (.return_, 1, 0, 0, 0) := rfl
theorem sl_222_0 : pm_222.2.2.2.2.2 0 = some (.aload_n 0, 1, 0, 0, 0) := rfl
theorem sl_222_1 : pm_222.2.2.2.2.2 1 = some (.getfield 437, 3, 12, 10, 0) := rfl
theorem sl_222_4 : pm_222.2.2.2.2.2 4 = some (.ifCond .le 4, 3, 0, 0, 0) := rfl
theorem sl_222_8 : pm_222.2.2.2.2.2 8 = some (.aload_n 0, 1, 0, 0, 0) := rfl
theorem sl_222_9 : pm_222.2.2.2.2.2 9 = some (.iload_n 1, 1, 0, 0, 0) := rfl
theorem sl_222_10 : pm_222.2.2.2.2.2 10 = some (.putfield 437, 3, 12, 10, 0) := rfl
theorem sl_222_13 : pm_222.2.2.2.2.2 13 = some (.aload_n 0, 1, 0, 0, 0) := rfl
theorem sl_222_14 : pm_222.2.2.2.2.2 14 = some (.iload_n 2, 1, 0, 0, 0) := rfl
theorem sl_222_15 : pm_222.2.2.2.2.2 15 = some (.putfield 22, 3, 12, 11, 0) := rfl
theorem sl_222_18 : pm_222.2.2.2.2.2 18 = some (.return_, 1, 0, 0, 0) := rfl
theorem sl_223_0 : pm_223.2.2.2.2.2 0 = some (.aload_n 0, 1, 0, 0, 0) := rfl
theorem sl_223_1 : pm_223.2.2.2.2.2 1 = some (.getfield 468, 3, 12, 7, 0) := rfl
theorem sl_223_4 : pm_223.2.2.2.2.2 4 = some (.tableswitch 102 300 310 #[60, 66, 72, 78, 84, 102, 102, 102, 102, 90, 96], 60, 0, 0, 0) := rfl
theorem sl_223_106 : pm_223.2.2.2.2.2 106 = some (.iconst 0, 1, 0, 0, 0) := rfl
theorem sl_223_107 : pm_223.2.2.2.2.2 107 = some (.ireturn, 1, 0, 0, 0) := rfl
theorem sl_226_0 : pm_226.2.2.2.2.2 0 = some (.aload_n 0, 1, 0, 0, 0) := rfl
theorem sl_226_1 : pm_226.2.2.2.2.2 1 = some (.iconst 1, 1, 0, 0, 0) := rfl
theorem sl_226_2 : pm_226.2.2.2.2.2 2 = some (.aload_n 0, 1, 0, 0, 0) := rfl
theorem sl_226_3 : pm_226.2.2.2.2.2 3 = some (.getfield 450, 3, 12, 8, 0) := rfl
theorem sl_226_6 : pm_226.2.2.2.2.2 6 = some (.invokevirtual 488, 3, 222, 2, 0) := rfl
theorem sl_226_9 : pm_226.2.2.2.2.2 9 = some (.return_, 1, 0, 0, 0) := rfl
theorem sl_232_0 : pm_232.2.2.2.2.2 0 = some (.aload_n 0, 1, 0, 0, 0) := rfl
theorem sl_232_1 : pm_232.2.2.2.2.2 1 = some (.getfield 437, 3, 12, 10, 0) := rfl
theorem sl_232_4 : pm_232.2.2.2.2.2 4 = some (.ifCond .le 4, 3, 0, 0, 0) := rfl
theorem sl_232_7 : pm_232.2.2.2.2.2 7 = some (.return_, 1, 0, 0, 0) := rfl
theorem sl_232_8 : pm_232.2.2.2.2.2 8 = some (.aload_n 0, 1, 0, 0, 0) := rfl
theorem sl_232_9 : pm_232.2.2.2.2.2 9 = some (.getfield 468, 3, 12, 7, 0) := rfl
theorem sl_232_12 : pm_232.2.2.2.2.2 12 = some (.iload_n 1, 1, 0, 0, 0) := rfl
theorem sl_232_13 : pm_232.2.2.2.2.2 13 = some (.if_icmp .ne 10, 3, 0, 0, 0) := rfl
theorem sl_232_23 : pm_232.2.2.2.2.2 23 = some (.aload_n 0, 1, 0, 0, 0) := rfl
theorem sl_232_24 : pm_232.2.2.2.2.2 24 = some (.invokevirtual 498, 3, 226, 0, 0) := rfl
theorem sl_232_27 : pm_232.2.2.2.2.2 27 = some (.return_, 1, 0, 0, 0) := rfl
theorem sl_279_0 : pm_279.2.2.2.2.2 0 = some (.aload_n 0, 1, 0, 0, 0) := rfl
theorem sl_279_1 : pm_279.2.2.2.2.2 1 = some (.sipush 319, 3, 0, 0, 0) := rfl
theorem sl_279_4 : pm_279.2.2.2.2.2 4 = some (.invokevirtual 563, 3, 232, 1, 0) := rfl
theorem sl_279_7 : pm_279.2.2.2.2.2 7 = some (.aload_n 0, 1, 0, 0, 0) := rfl
theorem sl_279_8 : pm_279.2.2.2.2.2 8 = some (.iconst 0, 1, 0, 0, 0) := rfl
theorem sl_279_9 : pm_279.2.2.2.2.2 9 = some (.putfield 721, 3, 12, 119, 0) := rfl
theorem sl_279_12 : pm_279.2.2.2.2.2 12 = some (.aload_n 0, 1, 0, 0, 0) := rfl
theorem sl_279_13 : pm_279.2.2.2.2.2 13 = some (.iconst (-1), 1, 0, 0, 0) := rfl
theorem sl_279_14 : pm_279.2.2.2.2.2 14 = some (.iconst (-1), 1, 0, 0, 0) := rfl
theorem sl_279_15 : pm_279.2.2.2.2.2 15 = some (.invokevirtual 727, 3, 280, 2, 0) := rfl
theorem sl_279_18 : pm_279.2.2.2.2.2 18 = some (.aload_n 0, 1, 0, 0, 0) := rfl
theorem sl_279_19 : pm_279.2.2.2.2.2 19 = some (.getfield 437, 3, 12, 10, 0) := rfl
theorem sl_279_22 : pm_279.2.2.2.2.2 22 = some (.ifCond .ne 227, 3, 0, 0, 0) := rfl
theorem sl_279_249 : pm_279.2.2.2.2.2 249 = some (.return_, 1, 0, 0, 0) := rfl
theorem sl_280_0 : pm_280.2.2.2.2.2 0 = some (.aload_n 0, 1, 0, 0, 0) := rfl
theorem sl_280_1 : pm_280.2.2.2.2.2 1 = some (.getfield 437, 3, 12, 10, 0) := rfl
theorem sl_280_4 : pm_280.2.2.2.2.2 4 = some (.ifCond .ne 30, 3, 0, 0, 0) := rfl
theorem sl_280_34 : pm_280.2.2.2.2.2 34 = some (.aload_n 0, 1, 0, 0, 0) := rfl
theorem sl_280_35 : pm_280.2.2.2.2.2 35 = some (.bipush 123, 2, 0, 0, 0) := rfl
theorem sl_280_37 : pm_280.2.2.2.2.2 37 = some (.invokevirtual 563, 3, 232, 1, 0) := rfl
theorem sl_280_40 : pm_280.2.2.2.2.2 40 = some (.aload_n 0, 1, 0, 0, 0) := rfl
theorem sl_280_41 : pm_280.2.2.2.2.2 41 = some (.getfield 437, 3, 12, 10, 0) := rfl
theorem sl_280_44 : pm_280.2.2.2.2.2 44 = some (.ifCond .le 4, 3, 0, 0, 0) := rfl
theorem sl_280_47 : pm_280.2.2.2.2.2 47 = some (.return_, 1, 0, 0, 0) := rfl
theorem sl_283_0 : pm_283.2.2.2.2.2 0 = some (.aload_n 0, 1, 0, 0, 0) := rfl
theorem sl_283_1 : pm_283.2.2.2.2.2 1 = some (.sipush 323, 3, 0, 0, 0) := rfl
theorem sl_283_4 : pm_283.2.2.2.2.2 4 = some (.invokevirtual 563, 3, 232, 1, 0) := rfl
theorem sl_283_7 : pm_283.2.2.2.2.2 7 = some (.iconst 0, 1, 0, 0, 0) := rfl
theorem sl_283_8 : pm_283.2.2.2.2.2 8 = some (.istore_n 1, 1, 0, 0, 0) := rfl
theorem sl_283_9 : pm_283.2.2.2.2.2 9 = some (.iload_n 1, 1, 0, 0, 0) := rfl
theorem sl_283_10 : pm_283.2.2.2.2.2 10 = some (.bipush 12, 2, 0, 0, 0) := rfl
theorem sl_283_12 : pm_283.2.2.2.2.2 12 = some (.if_icmp .ge 16, 3, 0, 0, 0) := rfl
theorem sl_283_15 : pm_283.2.2.2.2.2 15 = some (.aload_n 0, 1, 0, 0, 0) := rfl
theorem sl_283_16 : pm_283.2.2.2.2.2 16 = some (.getfield 295, 3, 12, 123, 0) := rfl
theorem sl_283_19 : pm_283.2.2.2.2.2 19 = some (.iload_n 1, 1, 0, 0, 0) := rfl
theorem sl_283_20 : pm_283.2.2.2.2.2 20 = some (.iconst 0, 1, 0, 0, 0) := rfl
theorem sl_283_21 : pm_283.2.2.2.2.2 21 = some (.bastore, 1, 0, 0, 0) := rfl
theorem sl_283_22 : pm_283.2.2.2.2.2 22 = some (.iinc 1 1, 3, 0, 0, 0) := rfl
theorem sl_283_25 : pm_283.2.2.2.2.2 25 = some (.goto (-16), 3, 0, 0, 0) := rfl
theorem sl_283_28 : pm_283.2.2.2.2.2 28 = some (.aload_n 0, 1, 0, 0, 0) := rfl
theorem sl_283_29 : pm_283.2.2.2.2.2 29 = some (.iconst 0, 1, 0, 0, 0) := rfl
theorem sl_283_30 : pm_283.2.2.2.2.2 30 = some (.putfield 736, 3, 12, 125, 0) := rfl
theorem sl_283_33 : pm_283.2.2.2.2.2 33 = some (.iconst 1, 1, 0, 0, 0) := rfl
theorem sl_283_34 : pm_283.2.2.2.2.2 34 = some (.istore_n 1, 1, 0, 0, 0) := rfl
theorem sl_283_35 : pm_283.2.2.2.2.2 35 = some (.iload_n 1, 1, 0, 0, 0) := rfl
theorem sl_283_36 : pm_283.2.2.2.2.2 36 = some (.ifCond .eq 112, 3, 0, 0, 0) := rfl
theorem sl_283_39 : pm_283.2.2.2.2.2 39 = some (.aload_n 0, 1, 0, 0, 0) := rfl
theorem sl_283_40 : pm_283.2.2.2.2.2 40 = some (.getfield 437, 3, 12, 10, 0) := rfl
theorem sl_283_43 : pm_283.2.2.2.2.2 43 = some (.ifCond .ne 105, 3, 0, 0, 0) := rfl
theorem sl_283_148 : pm_283.2.2.2.2.2 148 = some (.aload_n 0, 1, 0, 0, 0) := rfl
theorem sl_283_149 : pm_283.2.2.2.2.2 149 = some (.bipush 59, 2, 0, 0, 0) := rfl
theorem sl_283_151 : pm_283.2.2.2.2.2 151 = some (.invokevirtual 563, 3, 232, 1, 0) := rfl
theorem sl_283_154 : pm_283.2.2.2.2.2 154 = some (.return_, 1, 0, 0, 0) := rfl
theorem sl_287_0 : pm_287.2.2.2.2.2 0 = some (.aload_n 0, 1, 0, 0, 0) := rfl
theorem sl_287_1 : pm_287.2.2.2.2.2 1 = some (.iconst 0, 1, 0, 0, 0) := rfl
theorem sl_287_2 : pm_287.2.2.2.2.2 2 = some (.putfield 431, 3, 12, 1, 0) := rfl
theorem sl_287_5 : pm_287.2.2.2.2.2 5 = some (.iload_n 1, 1, 0, 0, 0) := rfl
theorem sl_287_6 : pm_287.2.2.2.2.2 6 = some (.ifCond .ne 10, 3, 0, 0, 0) := rfl
theorem sl_287_9 : pm_287.2.2.2.2.2 9 = some (.aload_n 0, 1, 0, 0, 0) := rfl
theorem sl_287_10 : pm_287.2.2.2.2.2 10 = some (.getfield 437, 3, 12, 10, 0) := rfl
theorem sl_287_13 : pm_287.2.2.2.2.2 13 = some (.goto 16, 3, 0, 0, 0) := rfl
theorem sl_287_16 : pm_287.2.2.2.2.2 16 = some (.iload_n 1, 1, 0, 0, 0) := rfl
theorem sl_287_17 : pm_287.2.2.2.2.2 17 = some (.iconst 1, 1, 0, 0, 0) := rfl
theorem sl_287_18 : pm_287.2.2.2.2.2 18 = some (.if_icmp .ne 10, 3, 0, 0, 0) := rfl
theorem sl_287_21 : pm_287.2.2.2.2.2 21 = some (.aload_n 0, 1, 0, 0, 0) := rfl
theorem sl_287_22 : pm_287.2.2.2.2.2 22 = some (.getfield 22, 3, 12, 11, 0) := rfl
theorem sl_287_25 : pm_287.2.2.2.2.2 25 = some (.goto 4, 3, 0, 0, 0) := rfl
theorem sl_287_28 : pm_287.2.2.2.2.2 28 = some (.iconst (-1), 1, 0, 0, 0) := rfl
theorem sl_287_29 : pm_287.2.2.2.2.2 29 = some (.ireturn, 1, 0, 0, 0) := rfl
theorem sl_288_0 : pm_288.2.2.2.2.2 0 = some (.aload_n 0, 1, 0, 0, 0) := rfl
theorem sl_288_1 : pm_288.2.2.2.2.2 1 = some (.iconst 0, 1, 0, 0, 0) := rfl
theorem sl_288_2 : pm_288.2.2.2.2.2 2 = some (.putfield 431, 3, 12, 1, 0) := rfl
theorem sl_288_5 : pm_288.2.2.2.2.2 5 = some (.aload_n 0, 1, 0, 0, 0) := rfl
theorem sl_288_6 : pm_288.2.2.2.2.2 6 = some (.getfield 766, 3, 12, 127, 0) := rfl
theorem sl_288_9 : pm_288.2.2.2.2.2 9 = some (.ifCond .ne 5, 3, 0, 0, 0) := rfl
theorem sl_288_12 : pm_288.2.2.2.2.2 12 = some (.iconst (-1), 1, 0, 0, 0) := rfl
theorem sl_288_13 : pm_288.2.2.2.2.2 13 = some (.ireturn, 1, 0, 0, 0) := rfl
theorem sl_289_0 : pm_289.2.2.2.2.2 0 = some (.aload_n 0, 1, 0, 0, 0) := rfl
theorem sl_289_1 : pm_289.2.2.2.2.2 1 = some (.aload_n 0, 1, 0, 0, 0) := rfl
theorem sl_289_2 : pm_289.2.2.2.2.2 2 = some (.getfield 766, 3, 12, 127, 0) := rfl
theorem sl_289_5 : pm_289.2.2.2.2.2 5 = some (.ifCond .eq 10, 3, 0, 0, 0) := rfl
theorem sl_289_15 : pm_289.2.2.2.2.2 15 = some (.iconst 1, 1, 0, 0, 0) := rfl
theorem sl_289_16 : pm_289.2.2.2.2.2 16 = some (.goto 27, 3, 0, 0, 0) := rfl
theorem sl_289_43 : pm_289.2.2.2.2.2 43 = some (.putfield 431, 3, 12, 1, 0) := rfl
theorem sl_289_46 : pm_289.2.2.2.2.2 46 = some (.aload_n 0, 1, 0, 0, 0) := rfl
theorem sl_289_47 : pm_289.2.2.2.2.2 47 = some (.getfield 431, 3, 12, 1, 0) := rfl
theorem sl_289_50 : pm_289.2.2.2.2.2 50 = some (.ifCond .le 5, 3, 0, 0, 0) := rfl
theorem sl_289_53 : pm_289.2.2.2.2.2 53 = some (.iconst 0, 1, 0, 0, 0) := rfl
theorem sl_289_54 : pm_289.2.2.2.2.2 54 = some (.ireturn, 1, 0, 0, 0) := rfl
theorem sl_303_0 : pm_303.2.2.2.2.2 0 = some (.aload_n 0, 1, 0, 0, 0) := rfl
theorem sl_303_1 : pm_303.2.2.2.2.2 1 = some (.iconst 0, 1, 0, 0, 0) := rfl
theorem sl_303_2 : pm_303.2.2.2.2.2 2 = some (.putfield 431, 3, 12, 1, 0) := rfl
theorem sl_303_5 : pm_303.2.2.2.2.2 5 = some (.aload_n 0, 1, 0, 0, 0) := rfl
theorem sl_303_6 : pm_303.2.2.2.2.2 6 = some (.getfield 304, 3, 12, 130, 0) := rfl
theorem sl_303_9 : pm_303.2.2.2.2.2 9 = some (.ireturn, 1, 0, 0, 0) := rfl
theorem sl_304_0 : pm_304.2.2.2.2.2 0 = some (.aload_n 0, 1, 0, 0, 0) := rfl
theorem sl_304_1 : pm_304.2.2.2.2.2 1 = some (.iconst 0, 1, 0, 0, 0) := rfl
theorem sl_304_2 : pm_304.2.2.2.2.2 2 = some (.putfield 431, 3, 12, 1, 0) := rfl
theorem sl_304_5 : pm_304.2.2.2.2.2 5 = some (.aload_n 0, 1, 0, 0, 0) := rfl
theorem sl_304_6 : pm_304.2.2.2.2.2 6 = some (.getfield 766, 3, 12, 127, 0) := rfl
theorem sl_304_9 : pm_304.2.2.2.2.2 9 = some (.ifCond .eq 14, 3, 0, 0, 0) := rfl
theorem sl_304_23 : pm_304.2.2.2.2.2 23 = some (.iconst (-1), 1, 0, 0, 0) := rfl
theorem sl_304_24 : pm_304.2.2.2.2.2 24 = some (.ireturn, 1, 0, 0, 0) := rfl
theorem sl_305_0 : pm_305.2.2.2.2.2 0 = some (.iload_n 0, 1, 0, 0, 0) := rfl
theorem sl_305_1 : pm_305.2.2.2.2.2 1 = some (.ifCond .lt 12, 3, 0, 0, 0) := rfl
theorem sl_305_4 : pm_305.2.2.2.2.2 4 = some (.iload_n 0, 1, 0, 0, 0) := rfl
theorem sl_305_5 : pm_305.2.2.2.2.2 5 = some (.iload_n 1, 1, 0, 0, 0) := rfl
theorem sl_305_6 : pm_305.2.2.2.2.2 6 = some (.if_icmp .ge 7, 3, 0, 0, 0) := rfl
theorem sl_305_9 : pm_305.2.2.2.2.2 9 = some (.iconst 1, 1, 0, 0, 0) := rfl
theorem sl_305_10 : pm_305.2.2.2.2.2 10 = some (.goto 4, 3, 0, 0, 0) := rfl
theorem sl_305_13 : pm_305.2.2.2.2.2 13 = some (.iconst 0, 1, 0, 0, 0) := rfl
theorem sl_305_14 : pm_305.2.2.2.2.2 14 = some (.ireturn, 1, 0, 0, 0) := rfl
theorem sl_306_0 : pm_306.2.2.2.2.2 0 = some (.aload_n 0, 1, 0, 0, 0) := rfl
theorem sl_306_1 : pm_306.2.2.2.2.2 1 = some (.iconst 0, 1, 0, 0, 0) := rfl
theorem sl_306_2 : pm_306.2.2.2.2.2 2 = some (.putfield 431, 3, 12, 1, 0) := rfl
theorem sl_306_5 : pm_306.2.2.2.2.2 5 = some (.aload_n 0, 1, 0, 0, 0) := rfl
theorem sl_306_6 : pm_306.2.2.2.2.2 6 = some (.getfield 818, 3, 12, 128, 0) := rfl
theorem sl_306_9 : pm_306.2.2.2.2.2 9 = some (.ifCond .eq 14, 3, 0, 0, 0) := rfl
theorem sl_306_23 : pm_306.2.2.2.2.2 23 = some (.iconst (-1), 1, 0, 0, 0) := rfl
theorem sl_306_24 : pm_306.2.2.2.2.2 24 = some (.ireturn, 1, 0, 0, 0) := rfl
theorem sl_307_0 : pm_307.2.2.2.2.2 0 = some (.aload_n 0, 1, 0, 0, 0) := rfl
theorem sl_307_1 : pm_307.2.2.2.2.2 1 = some (.aload_n 0, 1, 0, 0, 0) := rfl
theorem sl_307_2 : pm_307.2.2.2.2.2 2 = some (.getfield 818, 3, 12, 128, 0) := rfl
theorem sl_307_5 : pm_307.2.2.2.2.2 5 = some (.ifCond .eq 12, 3, 0, 0, 0) := rfl
theorem sl_307_17 : pm_307.2.2.2.2.2 17 = some (.iconst 1, 1, 0, 0, 0) := rfl
theorem sl_307_18 : pm_307.2.2.2.2.2 18 = some (.goto 18, 3, 0, 0, 0) := rfl
theorem sl_307_36 : pm_307.2.2.2.2.2 36 = some (.putfield 431, 3, 12, 1, 0) := rfl
theorem sl_307_39 : pm_307.2.2.2.2.2 39 = some (.aload_n 0, 1, 0, 0, 0) := rfl
theorem sl_307_40 : pm_307.2.2.2.2.2 40 = some (.getfield 431, 3, 12, 1, 0) := rfl
theorem sl_307_43 : pm_307.2.2.2.2.2 43 = some (.ifCond .le 5, 3, 0, 0, 0) := rfl
theorem sl_307_46 : pm_307.2.2.2.2.2 46 = some (.iconst 0, 1, 0, 0, 0) := rfl
theorem sl_307_47 : pm_307.2.2.2.2.2 47 = some (.ireturn, 1, 0, 0, 0) := rfl
theorem sl_309_0 : pm_309.2.2.2.2.2 0 = some (.aload_n 0, 1, 0, 0, 0) := rfl
theorem sl_309_1 : pm_309.2.2.2.2.2 1 = some (.iload_n 1, 1, 0, 0, 0) := rfl
theorem sl_309_2 : pm_309.2.2.2.2.2 2 = some (.iconst 4, 1, 0, 0, 0) := rfl
theorem sl_309_3 : pm_309.2.2.2.2.2 3 = some (.invokestatic 831, 3, 305, 2, 1) := rfl
theorem sl_309_6 : pm_309.2.2.2.2.2 6 = some (.ifCond .eq 7, 3, 0, 0, 0) := rfl
theorem sl_309_9 : pm_309.2.2.2.2.2 9 = some (.iconst 0, 1, 0, 0, 0) := rfl
theorem sl_309_10 : pm_309.2.2.2.2.2 10 = some (.goto 4, 3, 0, 0, 0) := rfl
theorem sl_309_13 : pm_309.2.2.2.2.2 13 = some (.iconst 1, 1, 0, 0, 0) := rfl
theorem sl_309_14 : pm_309.2.2.2.2.2 14 = some (.putfield 431, 3, 12, 1, 0) := rfl
theorem sl_309_17 : pm_309.2.2.2.2.2 17 = some (.aload_n 0, 1, 0, 0, 0) := rfl
theorem sl_309_18 : pm_309.2.2.2.2.2 18 = some (.getfield 431, 3, 12, 1, 0) := rfl
theorem sl_309_21 : pm_309.2.2.2.2.2 21 = some (.ifCond .le 4, 3, 0, 0, 0) := rfl
theorem sl_309_24 : pm_309.2.2.2.2.2 24 = some (.return_, 1, 0, 0, 0) := rfl
theorem sl_309_25 : pm_309.2.2.2.2.2 25 = some (.aload_n 0, 1, 0, 0, 0) := rfl
theorem sl_309_26 : pm_309.2.2.2.2.2 26 = some (.getfield 349, 3, 12, 145, 0) := rfl
theorem sl_309_29 : pm_309.2.2.2.2.2 29 = some (.iload_n 1, 1, 0, 0, 0) := rfl
theorem sl_309_30 : pm_309.2.2.2.2.2 30 = some (.lload_n 2, 1, 0, 0, 0) := rfl
theorem sl_309_31 : pm_309.2.2.2.2.2 31 = some (.lastore, 1, 0, 0, 0) := rfl
theorem sl_309_32 : pm_309.2.2.2.2.2 32 = some (.aload_n 0, 1, 0, 0, 0) := rfl
theorem sl_309_33 : pm_309.2.2.2.2.2 33 = some (.getfield 352, 3, 12, 146, 0) := rfl
theorem sl_309_36 : pm_309.2.2.2.2.2 36 = some (.iload_n 1, 1, 0, 0, 0) := rfl
theorem sl_309_37 : pm_309.2.2.2.2.2 37 = some (.lload 4, 2, 0, 0, 0) := rfl
theorem sl_309_39 : pm_309.2.2.2.2.2 39 = some (.lastore, 1, 0, 0, 0) := rfl
theorem sl_309_40 : pm_309.2.2.2.2.2 40 = some (.return_, 1, 0, 0, 0) := rfl
theorem sl_310_0 : pm_310.2.2.2.2.2 0 = some (.aload_n 0, 1, 0, 0, 0) := rfl
theorem sl_310_1 : pm_310.2.2.2.2.2 1 = some (.iload_n 1, 1, 0, 0, 0) := rfl
theorem sl_310_2 : pm_310.2.2.2.2.2 2 = some (.iconst 4, 1, 0, 0, 0) := rfl
theorem sl_310_3 : pm_310.2.2.2.2.2 3 = some (.invokestatic 831, 3, 305, 2, 1) := rfl
theorem sl_310_6 : pm_310.2.2.2.2.2 6 = some (.ifCond .eq 7, 3, 0, 0, 0) := rfl
theorem sl_310_9 : pm_310.2.2.2.2.2 9 = some (.iconst 0, 1, 0, 0, 0) := rfl
theorem sl_310_10 : pm_310.2.2.2.2.2 10 = some (.goto 4, 3, 0, 0, 0) := rfl
theorem sl_310_13 : pm_310.2.2.2.2.2 13 = some (.iconst 1, 1, 0, 0, 0) := rfl
theorem sl_310_14 : pm_310.2.2.2.2.2 14 = some (.putfield 431, 3, 12, 1, 0) := rfl
theorem sl_310_17 : pm_310.2.2.2.2.2 17 = some (.aload_n 0, 1, 0, 0, 0) := rfl
theorem sl_310_18 : pm_310.2.2.2.2.2 18 = some (.getfield 431, 3, 12, 1, 0) := rfl
theorem sl_310_21 : pm_310.2.2.2.2.2 21 = some (.ifCond .ne 10, 3, 0, 0, 0) := rfl
theorem sl_310_24 : pm_310.2.2.2.2.2 24 = some (.aload_n 0, 1, 0, 0, 0) := rfl
theorem sl_310_25 : pm_310.2.2.2.2.2 25 = some (.getfield 355, 3, 12, 147, 0) := rfl
theorem sl_310_28 : pm_310.2.2.2.2.2 28 = some (.iload_n 1, 1, 0, 0, 0) := rfl
theorem sl_310_29 : pm_310.2.2.2.2.2 29 = some (.lload_n 2, 1, 0, 0, 0) := rfl
theorem sl_310_30 : pm_310.2.2.2.2.2 30 = some (.lastore, 1, 0, 0, 0) := rfl
theorem sl_310_31 : pm_310.2.2.2.2.2 31 = some (.return_, 1, 0, 0, 0) := rfl
theorem sl_311_0 : pm_311.2.2.2.2.2 0 = some (.aload_n 0, 1, 0, 0, 0) := rfl
theorem sl_311_1 : pm_311.2.2.2.2.2 1 = some (.iload_n 1, 1, 0, 0, 0) := rfl
theorem sl_311_2 : pm_311.2.2.2.2.2 2 = some (.iconst 3, 1, 0, 0, 0) := rfl
theorem sl_311_3 : pm_311.2.2.2.2.2 3 = some (.invokestatic 831, 3, 305, 2, 1) := rfl
theorem sl_311_6 : pm_311.2.2.2.2.2 6 = some (.ifCond .eq 21, 3, 0, 0, 0) := rfl
theorem sl_311_9 : pm_311.2.2.2.2.2 9 = some (.aload_n 0, 1, 0, 0, 0) := rfl
theorem sl_311_10 : pm_311.2.2.2.2.2 10 = some (.getfield 766, 3, 12, 127, 0) := rfl
theorem sl_311_13 : pm_311.2.2.2.2.2 13 = some (.ifCond .eq 14, 3, 0, 0, 0) := rfl
theorem sl_311_27 : pm_311.2.2.2.2.2 27 = some (.iconst 1, 1, 0, 0, 0) := rfl
theorem sl_311_28 : pm_311.2.2.2.2.2 28 = some (.goto 24, 3, 0, 0, 0) := rfl
theorem sl_311_52 : pm_311.2.2.2.2.2 52 = some (.putfield 431, 3, 12, 1, 0) := rfl
theorem sl_311_55 : pm_311.2.2.2.2.2 55 = some (.aload_n 0, 1, 0, 0, 0) := rfl
theorem sl_311_56 : pm_311.2.2.2.2.2 56 = some (.getfield 431, 3, 12, 1, 0) := rfl
theorem sl_311_59 : pm_311.2.2.2.2.2 59 = some (.ifCond .le 5, 3, 0, 0, 0) := rfl
theorem sl_311_62 : pm_311.2.2.2.2.2 62 = some (.iconst 0, 1, 0, 0, 0) := rfl
theorem sl_311_63 : pm_311.2.2.2.2.2 63 = some (.ireturn, 1, 0, 0, 0) := rfl
theorem sl_312_0 : pm_312.2.2.2.2.2 0 = some (.aload_n 0, 1, 0, 0, 0) := rfl
theorem sl_312_1 : pm_312.2.2.2.2.2 1 = some (.aload_n 0, 1, 0, 0, 0) := rfl
theorem sl_312_2 : pm_312.2.2.2.2.2 2 = some (.getfield 818, 3, 12, 128, 0) := rfl
theorem sl_312_5 : pm_312.2.2.2.2.2 5 = some (.ifCond .ne 7, 3, 0, 0, 0) := rfl
theorem sl_312_8 : pm_312.2.2.2.2.2 8 = some (.iconst 1, 1, 0, 0, 0) := rfl
theorem sl_312_9 : pm_312.2.2.2.2.2 9 = some (.goto 18, 3, 0, 0, 0) := rfl
theorem sl_312_27 : pm_312.2.2.2.2.2 27 = some (.putfield 431, 3, 12, 1, 0) := rfl
theorem sl_312_30 : pm_312.2.2.2.2.2 30 = some (.aload_n 0, 1, 0, 0, 0) := rfl
theorem sl_312_31 : pm_312.2.2.2.2.2 31 = some (.getfield 431, 3, 12, 1, 0) := rfl
theorem sl_312_34 : pm_312.2.2.2.2.2 34 = some (.ifCond .le 5, 3, 0, 0, 0) := rfl
theorem sl_312_37 : pm_312.2.2.2.2.2 37 = some (.iconst 0, 1, 0, 0, 0) := rfl
theorem sl_312_38 : pm_312.2.2.2.2.2 38 = some (.ireturn, 1, 0, 0, 0) := rfl
theorem sl_342_0 : pm_342.2.2.2.2.2 0 = some (.aload_n 0, 1, 0, 0, 0) := rfl
theorem sl_342_1 : pm_342.2.2.2.2.2 1 = some (.iconst 0, 1, 0, 0, 0) := rfl
theorem sl_342_2 : pm_342.2.2.2.2.2 2 = some (.putfield 431, 3, 12, 1, 0) := rfl
theorem sl_342_5 : pm_342.2.2.2.2.2 5 = some (.aload_n 0, 1, 0, 0, 0) := rfl
theorem sl_342_6 : pm_342.2.2.2.2.2 6 = some (.iload_n 1, 1, 0, 0, 0) := rfl
theorem sl_342_7 : pm_342.2.2.2.2.2 7 = some (.invokevirtual 956, 3, 343, 1, 0) := rfl
theorem sl_342_10 : pm_342.2.2.2.2.2 10 = some (.ifCond .ne 5, 3, 0, 0, 0) := rfl
theorem sl_342_13 : pm_342.2.2.2.2.2 13 = some (.iconst (-1), 1, 0, 0, 0) := rfl
theorem sl_342_14 : pm_342.2.2.2.2.2 14 = some (.ireturn, 1, 0, 0, 0) := rfl
theorem sl_343_0 : pm_343.2.2.2.2.2 0 = some (.iload_n 1, 1, 0, 0, 0) := rfl
theorem sl_343_1 : pm_343.2.2.2.2.2 1 = some (.ifCond .lt 26, 3, 0, 0, 0) := rfl
theorem sl_343_4 : pm_343.2.2.2.2.2 4 = some (.iload_n 1, 1, 0, 0, 0) := rfl
theorem sl_343_5 : pm_343.2.2.2.2.2 5 = some (.aload_n 0, 1, 0, 0, 0) := rfl
theorem sl_343_6 : pm_343.2.2.2.2.2 6 = some (.getfield 843, 3, 12, 151, 0) := rfl
theorem sl_343_9 : pm_343.2.2.2.2.2 9 = some (.if_icmp .ge 18, 3, 0, 0, 0) := rfl
theorem sl_343_27 : pm_343.2.2.2.2.2 27 = some (.iconst 0, 1, 0, 0, 0) := rfl
theorem sl_343_28 : pm_343.2.2.2.2.2 28 = some (.ireturn, 1, 0, 0, 0) := rfl
theorem sl_344_0 : pm_344.2.2.2.2.2 0 = some (.aload_n 0, 1, 0, 0, 0) := rfl
theorem sl_344_1 : pm_344.2.2.2.2.2 1 = some (.iconst 0, 1, 0, 0, 0) := rfl
theorem sl_344_2 : pm_344.2.2.2.2.2 2 = some (.putfield 431, 3, 12, 1, 0) := rfl
theorem sl_344_5 : pm_344.2.2.2.2.2 5 = some (.aload_n 0, 1, 0, 0, 0) := rfl
theorem sl_344_6 : pm_344.2.2.2.2.2 6 = some (.iload_n 1, 1, 0, 0, 0) := rfl
theorem sl_344_7 : pm_344.2.2.2.2.2 7 = some (.invokevirtual 956, 3, 343, 1, 0) := rfl
theorem sl_344_10 : pm_344.2.2.2.2.2 10 = some (.ifCond .eq 40, 3, 0, 0, 0) := rfl
theorem sl_344_50 : pm_344.2.2.2.2.2 50 = some (.iconst (-1), 1, 0, 0, 0) := rfl
theorem sl_344_51 : pm_344.2.2.2.2.2 51 = some (.ireturn, 1, 0, 0, 0) := rfl
theorem sl_345_0 : pm_345.2.2.2.2.2 0 = some (.aload_n 0, 1, 0, 0, 0) := rfl
theorem sl_345_1 : pm_345.2.2.2.2.2 1 = some (.iconst 0, 1, 0, 0, 0) := rfl
theorem sl_345_2 : pm_345.2.2.2.2.2 2 = some (.putfield 431, 3, 12, 1, 0) := rfl
theorem sl_345_5 : pm_345.2.2.2.2.2 5 = some (.aload_n 0, 1, 0, 0, 0) := rfl
theorem sl_345_6 : pm_345.2.2.2.2.2 6 = some (.iload_n 1, 1, 0, 0, 0) := rfl
theorem sl_345_7 : pm_345.2.2.2.2.2 7 = some (.invokevirtual 956, 3, 343, 1, 0) := rfl
theorem sl_345_10 : pm_345.2.2.2.2.2 10 = some (.ifCond .eq 45, 3, 0, 0, 0) := rfl
theorem sl_345_55 : pm_345.2.2.2.2.2 55 = some (.iconst (-1), 1, 0, 0, 0) := rfl
theorem sl_345_56 : pm_345.2.2.2.2.2 56 = some (.ireturn, 1, 0, 0, 0) := rfl
theorem sl_346_0 : pm_346.2.2.2.2.2 0 = some (.aload_n 0, 1, 0, 0, 0) := rfl
theorem sl_346_1 : pm_346.2.2.2.2.2 1 = some (.aload_n 0, 1, 0, 0, 0) := rfl
theorem sl_346_2 : pm_346.2.2.2.2.2 2 = some (.getfield 843, 3, 12, 151, 0) := rfl
theorem sl_346_5 : pm_346.2.2.2.2.2 5 = some (.aload_n 0, 1, 0, 0, 0) := rfl
theorem sl_346_6 : pm_346.2.2.2.2.2 6 = some (.getfield 840, 3, 12, 150, 0) := rfl
theorem sl_346_9 : pm_346.2.2.2.2.2 9 = some (.if_icmp .ge 7, 3, 0, 0, 0) := rfl
theorem sl_346_16 : pm_346.2.2.2.2.2 16 = some (.iconst 0, 1, 0, 0, 0) := rfl
theorem sl_346_17 : pm_346.2.2.2.2.2 17 = some (.putfield 431, 3, 12, 1, 0) := rfl
theorem sl_346_20 : pm_346.2.2.2.2.2 20 = some (.aload_n 0, 1, 0, 0, 0) := rfl
theorem sl_346_21 : pm_346.2.2.2.2.2 21 = some (.getfield 431, 3, 12, 1, 0) := rfl
theorem sl_346_24 : pm_346.2.2.2.2.2 24 = some (.ifCond .ne 49, 3, 0, 0, 0) := rfl
theorem sl_346_27 : pm_346.2.2.2.2.2 27 = some (.aload_n 0, 1, 0, 0, 0) := rfl
theorem sl_346_28 : pm_346.2.2.2.2.2 28 = some (.getfield 766, 3, 12, 127, 0) := rfl
theorem sl_346_31 : pm_346.2.2.2.2.2 31 = some (.ifCond .eq 42, 3, 0, 0, 0) := rfl
theorem sl_346_73 : pm_346.2.2.2.2.2 73 = some (.lconst 0, 1, 0, 0, 0) := rfl
theorem sl_346_74 : pm_346.2.2.2.2.2 74 = some (.lreturn, 1, 0, 0, 0) := rfl
theorem sl_347_0 : pm_347.2.2.2.2.2 0 = some (.aload_n 0, 1, 0, 0, 0) := rfl
theorem sl_347_1 : pm_347.2.2.2.2.2 1 = some (.aload_n 0, 1, 0, 0, 0) := rfl
theorem sl_347_2 : pm_347.2.2.2.2.2 2 = some (.getfield 843, 3, 12, 151, 0) := rfl
theorem sl_347_5 : pm_347.2.2.2.2.2 5 = some (.aload_n 0, 1, 0, 0, 0) := rfl
theorem sl_347_6 : pm_347.2.2.2.2.2 6 = some (.getfield 840, 3, 12, 150, 0) := rfl
theorem sl_347_9 : pm_347.2.2.2.2.2 9 = some (.if_icmp .ge 7, 3, 0, 0, 0) := rfl
theorem sl_347_16 : pm_347.2.2.2.2.2 16 = some (.iconst 0, 1, 0, 0, 0) := rfl
theorem sl_347_17 : pm_347.2.2.2.2.2 17 = some (.putfield 431, 3, 12, 1, 0) := rfl
theorem sl_347_20 : pm_347.2.2.2.2.2 20 = some (.aload_n 0, 1, 0, 0, 0) := rfl
theorem sl_347_21 : pm_347.2.2.2.2.2 21 = some (.getfield 431, 3, 12, 1, 0) := rfl
theorem sl_347_24 : pm_347.2.2.2.2.2 24 = some (.ifCond .le 5, 3, 0, 0, 0) := rfl
theorem sl_347_29 : pm_347.2.2.2.2.2 29 = some (.aload_n 0, 1, 0, 0, 0) := rfl
theorem sl_347_30 : pm_347.2.2.2.2.2 30 = some (.getfield 766, 3, 12, 127, 0) := rfl
theorem sl_347_33 : pm_347.2.2.2.2.2 33 = some (.ifCond .eq 14, 3, 0, 0, 0) := rfl
theorem sl_347_47 : pm_347.2.2.2.2.2 47 = some (.iconst (-1), 1, 0, 0, 0) := rfl
theorem sl_347_48 : pm_347.2.2.2.2.2 48 = some (.ireturn, 1, 0, 0, 0) := rfl
theorem sl_348_0 : pm_348.2.2.2.2.2 0 = some (.aload_n 0, 1, 0, 0, 0) := rfl
theorem sl_348_1 : pm_348.2.2.2.2.2 1 = some (.iconst 0, 1, 0, 0, 0) := rfl
theorem sl_348_2 : pm_348.2.2.2.2.2 2 = some (.putfield 431, 3, 12, 1, 0) := rfl
theorem sl_348_5 : pm_348.2.2.2.2.2 5 = some (.iload_n 1, 1, 0, 0, 0) := rfl
theorem sl_348_6 : pm_348.2.2.2.2.2 6 = some (.tableswitch 84 0 5 #[38, 43, 48, 58, 63, 68], 38, 0, 0, 0) := rfl
theorem sl_348_44 : pm_348.2.2.2.2.2 44 = some (.aload_n 0, 1, 0, 0, 0) := rfl
theorem sl_348_45 : pm_348.2.2.2.2.2 45 = some (.getfield 834, 3, 12, 148, 0) := rfl
theorem sl_348_48 : pm_348.2.2.2.2.2 48 = some (.ireturn, 1, 0, 0, 0) := rfl
theorem sl_348_49 : pm_348.2.2.2.2.2 49 = some (.aload_n 0, 1, 0, 0, 0) := rfl
theorem sl_348_50 : pm_348.2.2.2.2.2 50 = some (.getfield 837, 3, 12, 149, 0) := rfl
theorem sl_348_53 : pm_348.2.2.2.2.2 53 = some (.ireturn, 1, 0, 0, 0) := rfl
theorem sl_348_54 : pm_348.2.2.2.2.2 54 = some (.aload_n 0, 1, 0, 0, 0) := rfl
theorem sl_348_55 : pm_348.2.2.2.2.2 55 = some (.getfield 840, 3, 12, 150, 0) := rfl
theorem sl_348_58 : pm_348.2.2.2.2.2 58 = some (.aload_n 0, 1, 0, 0, 0) := rfl
theorem sl_348_59 : pm_348.2.2.2.2.2 59 = some (.getfield 843, 3, 12, 151, 0) := rfl
theorem sl_348_62 : pm_348.2.2.2.2.2 62 = some (.isub, 1, 0, 0, 0) := rfl
theorem sl_348_63 : pm_348.2.2.2.2.2 63 = some (.ireturn, 1, 0, 0, 0) := rfl
theorem sl_348_64 : pm_348.2.2.2.2.2 64 = some (.aload_n 0, 1, 0, 0, 0) := rfl
theorem sl_348_65 : pm_348.2.2.2.2.2 65 = some (.getfield 843, 3, 12, 151, 0) := rfl
theorem sl_348_68 : pm_348.2.2.2.2.2 68 = some (.ireturn, 1, 0, 0, 0) := rfl
theorem sl_348_69 : pm_348.2.2.2.2.2 69 = some (.aload_n 0, 1, 0, 0, 0) := rfl
theorem sl_348_70 : pm_348.2.2.2.2.2 70 = some (.getfield 846, 3, 12, 152, 0) := rfl
theorem sl_348_73 : pm_348.2.2.2.2.2 73 = some (.ireturn, 1, 0, 0, 0) := rfl
theorem sl_348_74 : pm_348.2.2.2.2.2 74 = some (.aload_n 0, 1, 0, 0, 0) := rfl
theorem sl_348_75 : pm_348.2.2.2.2.2 75 = some (.getfield 818, 3, 12, 128, 0) := rfl
theorem sl_348_78 : pm_348.2.2.2.2.2 78 = some (.ifCond .eq 10, 3, 0, 0, 0) := rfl
theorem sl_348_88 : pm_348.2.2.2.2.2 88 = some (.iconst 0, 1, 0, 0, 0) := rfl
theorem sl_348_89 : pm_348.2.2.2.2.2 89 = some (.ireturn, 1, 0, 0, 0) := rfl
theorem sl_348_90 : pm_348.2.2.2.2.2 90 = some (.iconst (-1), 1, 0, 0, 0) := rfl
theorem sl_348_91 : pm_348.2.2.2.2.2 91 = some (.ireturn, 1, 0, 0, 0) := rfl
def sv_0 : List Value := [.ref 1, .ref 2, .int 0, .ref 3, .ref 4, .ref 5, .ref 6, .ref 12, .ref 178, .ref 185, .int 0, .int (-1)]
def sv_6 : List Value := [.ref 2, .ref 7, .ref 8, .ref 9, .ref 10, .ref 11, .int 0, .int 0, .int 0, .int 0, .int 0, .long 0, .long 0, .long 0, .int 0, .int (-1), .int 0]
def sv_12 : List Value := [.ref 13, .ref 14, .ref 15, .ref 16, .ref 17, .ref 18, .ref 19, .ref 20, .ref 21, .ref 22, .ref 31, .ref 45, .ref 59, .int 0, .int 0, .int 0, .int 0, .int 0, .int 0]
def sv_185 : List Value := [.ref 12, .ref 186, .ref 187, .ref 188, .int 0, .int 0, .int 0, .int 0]
def sv_189 : List Value := [.ref 190, .int 0, .ref 191, .ref 192, .ref 193, .int 0, .int 0, .int 0, .int 0, .int 0, .int 0, .int (-1), .long 0, .int 0, .ref 194, .ref 195, .ref 196, .ref 197, .ref 198, .int 0, .int 0, .int 0, .int 0, .int 0, .int 0, .int 0, .int 0, .int 0, .int 0, .ref 199, .ref 200, .ref 201, .ref 202, .ref 203, .ref 204, .ref 205, .ref 206, .ref 207, .ref 208, .ref 209, .ref 210, .ref 211, .ref 212, .ref 213, .ref 214, .ref 215, .ref 216, .ref 217, .ref 218, .ref 219, .ref 220, .ref 221, .ref 222, .ref 223, .ref 224, .ref 225, .ref 226, .ref 227, .ref 228, .ref 229, .ref 230, .ref 231, .ref 232, .ref 233, .int (-1), .ref 234, .ref 235, .ref 236, .ref 237, .int 0, .int 0, .int 0, .long 0, .int 0, .int 0, .int 0, .ref 238, .ref 239, .ref 240, .ref 241, .ref 242, .ref 243, .ref 244, .ref 245, .ref 246, .ref 247, .ref 248, .ref 249, .ref 250, .ref 251, .ref 252, .ref 253, .ref 254, .ref 255, .ref 256, .ref 257, .ref 258, .ref 259, .ref 260, .int 0, .int 0, .ref 261, .ref 262, .ref 263, .ref 264, .ref 265, .ref 266, .ref 267, .ref 268, .ref 269, .ref 270, .ref 271, .ref 272, .ref 273, .ref 274, .ref 275, .ref 276, .ref 277, .ref 278, .int 0, .ref 279, .ref 280, .ref 281, .ref 282, .ref 283, .int 0, .ref 284, .int 0, .int 0, .int 0, .int (-1), .ref 285, .ref 286, .ref 287, .ref 288, .ref 289, .ref 290, .ref 291, .ref 292, .ref 293, .ref 294, .ref 295, .ref 296, .ref 297, .ref 298, .ref 299, .ref 300, .ref 301, .int 0, .int 0, .int 0, .int 0, .int 0, .ref 302, .ref 303, .ref 304, .ref 305, .ref 306, .ref 307, .ref 308, .ref 309, .ref 310, .ref 311, .ref 312, .ref 313, .ref 314, .ref 315, .ref 316, .ref 317, .ref 318, .ref 319, .ref 320, .ref 321, .ref 322, .ref 323, .ref 324, .int 0, .int 0, .ref 325]
