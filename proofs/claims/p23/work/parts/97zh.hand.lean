/-! THE RELATION, and the cases of the law by hand; printed by wip/rel/p10.py -/
theorem i_167_0 : iRow 167 0 = some (.aload_n 0, 0, 0, 0, (some (Jvm.ClassFile.FieldType.int))) := rfl
theorem i_167_1 : iRow 167 1 = some (.getfield 3, 164, 12, 0, (some (Jvm.ClassFile.FieldType.int))) := rfl
theorem i_167_4 : iRow 167 4 = some (.ireturn, 0, 0, 0, (some (Jvm.ClassFile.FieldType.int))) := rfl
theorem i_301_188 : iRow 301 188 = some (.aload_n 1, 0, 0, 0, (some (Jvm.ClassFile.FieldType.boolean))) := rfl
theorem i_301_189 : iRow 301 189 = some (.aload_n 0, 0, 0, 0, (some (Jvm.ClassFile.FieldType.boolean))) := rfl
theorem i_301_190 : iRow 301 190 = some (.iload 4, 0, 0, 0, (some (Jvm.ClassFile.FieldType.boolean))) := rfl
theorem i_301_192 : iRow 301 192 = some (.iconst 1, 0, 0, 0, (some (Jvm.ClassFile.FieldType.boolean))) := rfl
theorem i_301_193 : iRow 301 193 = some (.iadd, 0, 0, 0, (some (Jvm.ClassFile.FieldType.boolean))) := rfl
theorem i_301_194 : iRow 301 194 = some (.iaload, 0, 0, 0, (some (Jvm.ClassFile.FieldType.boolean))) := rfl
theorem i_301_195 : iRow 301 195 = some (.aload_n 0, 0, 0, 0, (some (Jvm.ClassFile.FieldType.boolean))) := rfl
theorem i_301_196 : iRow 301 196 = some (.iload 4, 0, 0, 0, (some (Jvm.ClassFile.FieldType.boolean))) := rfl
theorem i_301_198 : iRow 301 198 = some (.iconst 2, 0, 0, 0, (some (Jvm.ClassFile.FieldType.boolean))) := rfl
theorem i_301_199 : iRow 301 199 = some (.iadd, 0, 0, 0, (some (Jvm.ClassFile.FieldType.boolean))) := rfl
theorem i_301_200 : iRow 301 200 = some (.iaload, 0, 0, 0, (some (Jvm.ClassFile.FieldType.boolean))) := rfl
theorem i_301_201 : iRow 301 201 = some (.aload_n 0, 0, 0, 0, (some (Jvm.ClassFile.FieldType.boolean))) := rfl
theorem i_301_202 : iRow 301 202 = some (.iload 4, 0, 0, 0, (some (Jvm.ClassFile.FieldType.boolean))) := rfl
theorem i_301_204 : iRow 301 204 = some (.iconst 3, 0, 0, 0, (some (Jvm.ClassFile.FieldType.boolean))) := rfl
theorem i_301_205 : iRow 301 205 = some (.iadd, 0, 0, 0, (some (Jvm.ClassFile.FieldType.boolean))) := rfl
theorem i_301_206 : iRow 301 206 = some (.iaload, 0, 0, 0, (some (Jvm.ClassFile.FieldType.boolean))) := rfl
theorem i_301_207 : iRow 301 207 = some (.aload_n 0, 0, 0, 0, (some (Jvm.ClassFile.FieldType.boolean))) := rfl
theorem i_301_208 : iRow 301 208 = some (.iload 4, 0, 0, 0, (some (Jvm.ClassFile.FieldType.boolean))) := rfl
theorem i_301_210 : iRow 301 210 = some (.iconst 4, 0, 0, 0, (some (Jvm.ClassFile.FieldType.boolean))) := rfl
theorem i_301_211 : iRow 301 211 = some (.iadd, 0, 0, 0, (some (Jvm.ClassFile.FieldType.boolean))) := rfl
theorem i_301_212 : iRow 301 212 = some (.iaload, 0, 0, 0, (some (Jvm.ClassFile.FieldType.boolean))) := rfl
theorem i_301_213 : iRow 301 213 = some (.aload_n 0, 0, 0, 0, (some (Jvm.ClassFile.FieldType.boolean))) := rfl
theorem i_301_214 : iRow 301 214 = some (.iload 4, 0, 0, 0, (some (Jvm.ClassFile.FieldType.boolean))) := rfl
theorem i_301_216 : iRow 301 216 = some (.iconst 5, 0, 0, 0, (some (Jvm.ClassFile.FieldType.boolean))) := rfl
theorem i_301_217 : iRow 301 217 = some (.iadd, 0, 0, 0, (some (Jvm.ClassFile.FieldType.boolean))) := rfl
theorem i_301_218 : iRow 301 218 = some (.iaload, 0, 0, 0, (some (Jvm.ClassFile.FieldType.boolean))) := rfl
theorem i_301_219 : iRow 301 219 = some (.invokevirtual 104, 19, 11, 1, (some (Jvm.ClassFile.FieldType.boolean))) := rfl
theorem i_301_222 : iRow 301 222 = some (.pop, 0, 0, 0, (some (Jvm.ClassFile.FieldType.boolean))) := rfl
theorem i_301_223 : iRow 301 223 = some (.aload_n 2, 0, 0, 0, (some (Jvm.ClassFile.FieldType.boolean))) := rfl
theorem i_301_224 : iRow 301 224 = some (.aload_n 0, 0, 0, 0, (some (Jvm.ClassFile.FieldType.boolean))) := rfl
theorem i_301_225 : iRow 301 225 = some (.iload 4, 0, 0, 0, (some (Jvm.ClassFile.FieldType.boolean))) := rfl
theorem i_301_227 : iRow 301 227 = some (.iconst 1, 0, 0, 0, (some (Jvm.ClassFile.FieldType.boolean))) := rfl
theorem i_301_228 : iRow 301 228 = some (.iadd, 0, 0, 0, (some (Jvm.ClassFile.FieldType.boolean))) := rfl
theorem i_301_229 : iRow 301 229 = some (.iaload, 0, 0, 0, (some (Jvm.ClassFile.FieldType.boolean))) := rfl
theorem i_301_230 : iRow 301 230 = some (.aload_n 0, 0, 0, 0, (some (Jvm.ClassFile.FieldType.boolean))) := rfl
theorem i_301_231 : iRow 301 231 = some (.iload 4, 0, 0, 0, (some (Jvm.ClassFile.FieldType.boolean))) := rfl
theorem i_301_233 : iRow 301 233 = some (.iconst 2, 0, 0, 0, (some (Jvm.ClassFile.FieldType.boolean))) := rfl
theorem i_301_234 : iRow 301 234 = some (.iadd, 0, 0, 0, (some (Jvm.ClassFile.FieldType.boolean))) := rfl
theorem i_301_235 : iRow 301 235 = some (.iaload, 0, 0, 0, (some (Jvm.ClassFile.FieldType.boolean))) := rfl
theorem i_301_236 : iRow 301 236 = some (.aload_n 0, 0, 0, 0, (some (Jvm.ClassFile.FieldType.boolean))) := rfl
theorem i_301_237 : iRow 301 237 = some (.iload 4, 0, 0, 0, (some (Jvm.ClassFile.FieldType.boolean))) := rfl
theorem i_301_239 : iRow 301 239 = some (.iconst 3, 0, 0, 0, (some (Jvm.ClassFile.FieldType.boolean))) := rfl
theorem i_301_240 : iRow 301 240 = some (.iadd, 0, 0, 0, (some (Jvm.ClassFile.FieldType.boolean))) := rfl
set_option maxRecDepth 20000 in
theorem i_301_241 : iRow 301 241 = some (.iaload, 0, 0, 0, (some (Jvm.ClassFile.FieldType.boolean))) := rfl
set_option maxRecDepth 20000 in
theorem i_301_242 : iRow 301 242 = some (.aload_n 0, 0, 0, 0, (some (Jvm.ClassFile.FieldType.boolean))) := rfl
set_option maxRecDepth 20000 in
theorem i_301_243 : iRow 301 243 = some (.iload 4, 0, 0, 0, (some (Jvm.ClassFile.FieldType.boolean))) := rfl
set_option maxRecDepth 20000 in
theorem i_301_245 : iRow 301 245 = some (.iconst 4, 0, 0, 0, (some (Jvm.ClassFile.FieldType.boolean))) := rfl
set_option maxRecDepth 20000 in
theorem i_301_246 : iRow 301 246 = some (.iadd, 0, 0, 0, (some (Jvm.ClassFile.FieldType.boolean))) := rfl
set_option maxRecDepth 20000 in
theorem i_301_247 : iRow 301 247 = some (.iaload, 0, 0, 0, (some (Jvm.ClassFile.FieldType.boolean))) := rfl
set_option maxRecDepth 20000 in
theorem i_301_248 : iRow 301 248 = some (.aload_n 0, 0, 0, 0, (some (Jvm.ClassFile.FieldType.boolean))) := rfl
set_option maxRecDepth 20000 in
theorem i_301_249 : iRow 301 249 = some (.iload 4, 0, 0, 0, (some (Jvm.ClassFile.FieldType.boolean))) := rfl
set_option maxRecDepth 20000 in
theorem i_301_251 : iRow 301 251 = some (.iconst 5, 0, 0, 0, (some (Jvm.ClassFile.FieldType.boolean))) := rfl
set_option maxRecDepth 20000 in
theorem i_301_252 : iRow 301 252 = some (.iadd, 0, 0, 0, (some (Jvm.ClassFile.FieldType.boolean))) := rfl
set_option maxRecDepth 20000 in
theorem i_301_253 : iRow 301 253 = some (.iaload, 0, 0, 0, (some (Jvm.ClassFile.FieldType.boolean))) := rfl
set_option maxRecDepth 20000 in
theorem i_301_254 : iRow 301 254 = some (.invokevirtual 107, 258, 171, 1, (some (Jvm.ClassFile.FieldType.boolean))) := rfl
set_option maxRecDepth 20000 in
theorem i_301_257 : iRow 301 257 = some (.pop, 0, 0, 0, (some (Jvm.ClassFile.FieldType.boolean))) := rfl
set_option maxRecDepth 20000 in
theorem i_301_258 : iRow 301 258 = some (.goto 1181, 0, 0, 0, (some (Jvm.ClassFile.FieldType.boolean))) := rfl
set_option maxRecDepth 20000 in
theorem i_301_261 : iRow 301 261 = some (.aload_n 1, 0, 0, 0, (some (Jvm.ClassFile.FieldType.boolean))) := rfl
set_option maxRecDepth 20000 in
theorem i_301_262 : iRow 301 262 = some (.aload_n 0, 0, 0, 0, (some (Jvm.ClassFile.FieldType.boolean))) := rfl
set_option maxRecDepth 20000 in
theorem i_301_263 : iRow 301 263 = some (.iload 4, 0, 0, 0, (some (Jvm.ClassFile.FieldType.boolean))) := rfl
set_option maxRecDepth 20000 in
theorem i_301_265 : iRow 301 265 = some (.iconst 1, 0, 0, 0, (some (Jvm.ClassFile.FieldType.boolean))) := rfl
set_option maxRecDepth 20000 in
theorem i_301_266 : iRow 301 266 = some (.iadd, 0, 0, 0, (some (Jvm.ClassFile.FieldType.boolean))) := rfl
set_option maxRecDepth 20000 in
theorem i_301_267 : iRow 301 267 = some (.iaload, 0, 0, 0, (some (Jvm.ClassFile.FieldType.boolean))) := rfl
set_option maxRecDepth 20000 in
theorem i_301_268 : iRow 301 268 = some (.invokevirtual 108, 22, 15, 1, (some (Jvm.ClassFile.FieldType.boolean))) := rfl
set_option maxRecDepth 20000 in
theorem i_301_271 : iRow 301 271 = some (.pop, 0, 0, 0, (some (Jvm.ClassFile.FieldType.boolean))) := rfl
set_option maxRecDepth 20000 in
theorem i_301_272 : iRow 301 272 = some (.aload_n 2, 0, 0, 0, (some (Jvm.ClassFile.FieldType.boolean))) := rfl
set_option maxRecDepth 20000 in
theorem i_301_273 : iRow 301 273 = some (.aload_n 0, 0, 0, 0, (some (Jvm.ClassFile.FieldType.boolean))) := rfl
set_option maxRecDepth 20000 in
theorem i_301_274 : iRow 301 274 = some (.iload 4, 0, 0, 0, (some (Jvm.ClassFile.FieldType.boolean))) := rfl
set_option maxRecDepth 20000 in
theorem i_301_276 : iRow 301 276 = some (.iconst 1, 0, 0, 0, (some (Jvm.ClassFile.FieldType.boolean))) := rfl
set_option maxRecDepth 20000 in
theorem i_301_277 : iRow 301 277 = some (.iadd, 0, 0, 0, (some (Jvm.ClassFile.FieldType.boolean))) := rfl
set_option maxRecDepth 20000 in
theorem i_301_278 : iRow 301 278 = some (.iaload, 0, 0, 0, (some (Jvm.ClassFile.FieldType.boolean))) := rfl
set_option maxRecDepth 20000 in
theorem i_301_279 : iRow 301 279 = some (.invokevirtual 112, 259, 172, 1, (some (Jvm.ClassFile.FieldType.boolean))) := rfl
set_option maxRecDepth 20000 in
theorem i_301_282 : iRow 301 282 = some (.pop, 0, 0, 0, (some (Jvm.ClassFile.FieldType.boolean))) := rfl
set_option maxRecDepth 20000 in
theorem i_301_283 : iRow 301 283 = some (.goto 1156, 0, 0, 0, (some (Jvm.ClassFile.FieldType.boolean))) := rfl
set_option maxRecDepth 20000 in
theorem i_301_286 : iRow 301 286 = some (.aload_n 1, 0, 0, 0, (some (Jvm.ClassFile.FieldType.boolean))) := rfl
set_option maxRecDepth 20000 in
theorem i_301_287 : iRow 301 287 = some (.aload_n 0, 0, 0, 0, (some (Jvm.ClassFile.FieldType.boolean))) := rfl
set_option maxRecDepth 20000 in
theorem i_301_288 : iRow 301 288 = some (.iload 4, 0, 0, 0, (some (Jvm.ClassFile.FieldType.boolean))) := rfl
set_option maxRecDepth 20000 in
theorem i_301_290 : iRow 301 290 = some (.iconst 1, 0, 0, 0, (some (Jvm.ClassFile.FieldType.boolean))) := rfl
set_option maxRecDepth 20000 in
theorem i_301_291 : iRow 301 291 = some (.iadd, 0, 0, 0, (some (Jvm.ClassFile.FieldType.boolean))) := rfl
set_option maxRecDepth 20000 in
theorem i_301_292 : iRow 301 292 = some (.iaload, 0, 0, 0, (some (Jvm.ClassFile.FieldType.boolean))) := rfl
set_option maxRecDepth 20000 in
theorem i_301_293 : iRow 301 293 = some (.aload_n 3, 0, 0, 0, (some (Jvm.ClassFile.FieldType.boolean))) := rfl
set_option maxRecDepth 20000 in
theorem i_301_294 : iRow 301 294 = some (.invokestatic 113, 85, 277, 0, (some (Jvm.ClassFile.FieldType.boolean))) := rfl
set_option maxRecDepth 20000 in
theorem i_301_297 : iRow 301 297 = some (.istore 5, 0, 0, 0, (some (Jvm.ClassFile.FieldType.boolean))) := rfl
set_option maxRecDepth 20000 in
theorem i_301_299 : iRow 301 299 = some (.aload_n 2, 0, 0, 0, (some (Jvm.ClassFile.FieldType.boolean))) := rfl
set_option maxRecDepth 20000 in
theorem i_301_300 : iRow 301 300 = some (.aload_n 0, 0, 0, 0, (some (Jvm.ClassFile.FieldType.boolean))) := rfl
set_option maxRecDepth 20000 in
theorem i_301_301 : iRow 301 301 = some (.iload 4, 0, 0, 0, (some (Jvm.ClassFile.FieldType.boolean))) := rfl
set_option maxRecDepth 20000 in
theorem i_301_303 : iRow 301 303 = some (.iconst 1, 0, 0, 0, (some (Jvm.ClassFile.FieldType.boolean))) := rfl
set_option maxRecDepth 20000 in
theorem i_301_304 : iRow 301 304 = some (.iadd, 0, 0, 0, (some (Jvm.ClassFile.FieldType.boolean))) := rfl
set_option maxRecDepth 20000 in
theorem i_301_305 : iRow 301 305 = some (.iaload, 0, 0, 0, (some (Jvm.ClassFile.FieldType.boolean))) := rfl
set_option maxRecDepth 20000 in
theorem i_301_306 : iRow 301 306 = some (.invokevirtual 118, 261, 174, 1, (some (Jvm.ClassFile.FieldType.boolean))) := rfl
set_option maxRecDepth 20000 in
theorem i_301_309 : iRow 301 309 = some (.istore 6, 0, 0, 0, (some (Jvm.ClassFile.FieldType.boolean))) := rfl
set_option maxRecDepth 20000 in
theorem i_301_311 : iRow 301 311 = some (.goto 1128, 0, 0, 0, (some (Jvm.ClassFile.FieldType.boolean))) := rfl
set_option maxRecDepth 20000 in
theorem i_301_314 : iRow 301 314 = some (.aload_n 1, 0, 0, 0, (some (Jvm.ClassFile.FieldType.boolean))) := rfl
set_option maxRecDepth 20000 in
theorem i_301_315 : iRow 301 315 = some (.aload_n 3, 0, 0, 0, (some (Jvm.ClassFile.FieldType.boolean))) := rfl
set_option maxRecDepth 20000 in
theorem i_301_316 : iRow 301 316 = some (.invokestatic 119, 128, 278, 0, (some (Jvm.ClassFile.FieldType.boolean))) := rfl
set_option maxRecDepth 20000 in
theorem i_301_319 : iRow 301 319 = some (.istore 5, 0, 0, 0, (some (Jvm.ClassFile.FieldType.boolean))) := rfl
set_option maxRecDepth 20000 in
theorem i_301_321 : iRow 301 321 = some (.aload_n 2, 0, 0, 0, (some (Jvm.ClassFile.FieldType.boolean))) := rfl
set_option maxRecDepth 20000 in
theorem i_301_322 : iRow 301 322 = some (.invokevirtual 122, 284, 195, 1, (some (Jvm.ClassFile.FieldType.boolean))) := rfl
set_option maxRecDepth 20000 in
theorem i_301_325 : iRow 301 325 = some (.istore 6, 0, 0, 0, (some (Jvm.ClassFile.FieldType.boolean))) := rfl
set_option maxRecDepth 20000 in
theorem i_301_327 : iRow 301 327 = some (.goto 1112, 0, 0, 0, (some (Jvm.ClassFile.FieldType.boolean))) := rfl
set_option maxRecDepth 20000 in
theorem i_301_343 : iRow 301 343 = some (.aload_n 1, 0, 0, 0, (some (Jvm.ClassFile.FieldType.boolean))) := rfl
set_option maxRecDepth 20000 in
theorem i_301_344 : iRow 301 344 = some (.aload_n 0, 0, 0, 0, (some (Jvm.ClassFile.FieldType.boolean))) := rfl
set_option maxRecDepth 20000 in
theorem i_301_345 : iRow 301 345 = some (.iload 4, 0, 0, 0, (some (Jvm.ClassFile.FieldType.boolean))) := rfl
set_option maxRecDepth 20000 in
theorem i_301_347 : iRow 301 347 = some (.iconst 1, 0, 0, 0, (some (Jvm.ClassFile.FieldType.boolean))) := rfl
set_option maxRecDepth 20000 in
theorem i_301_348 : iRow 301 348 = some (.iadd, 0, 0, 0, (some (Jvm.ClassFile.FieldType.boolean))) := rfl
set_option maxRecDepth 20000 in
theorem i_301_349 : iRow 301 349 = some (.iaload, 0, 0, 0, (some (Jvm.ClassFile.FieldType.boolean))) := rfl
set_option maxRecDepth 20000 in
theorem i_301_350 : iRow 301 350 = some (.aload_n 0, 0, 0, 0, (some (Jvm.ClassFile.FieldType.boolean))) := rfl
set_option maxRecDepth 20000 in
theorem i_301_351 : iRow 301 351 = some (.iload 4, 0, 0, 0, (some (Jvm.ClassFile.FieldType.boolean))) := rfl
set_option maxRecDepth 20000 in
theorem i_301_353 : iRow 301 353 = some (.iconst 2, 0, 0, 0, (some (Jvm.ClassFile.FieldType.boolean))) := rfl
set_option maxRecDepth 20000 in
theorem i_301_354 : iRow 301 354 = some (.iadd, 0, 0, 0, (some (Jvm.ClassFile.FieldType.boolean))) := rfl
set_option maxRecDepth 20000 in
theorem i_301_355 : iRow 301 355 = some (.iaload, 0, 0, 0, (some (Jvm.ClassFile.FieldType.boolean))) := rfl
set_option maxRecDepth 20000 in
theorem i_301_356 : iRow 301 356 = some (.aload_n 0, 0, 0, 0, (some (Jvm.ClassFile.FieldType.boolean))) := rfl
set_option maxRecDepth 20000 in
theorem i_301_357 : iRow 301 357 = some (.iload 4, 0, 0, 0, (some (Jvm.ClassFile.FieldType.boolean))) := rfl
set_option maxRecDepth 20000 in
theorem i_301_359 : iRow 301 359 = some (.iconst 3, 0, 0, 0, (some (Jvm.ClassFile.FieldType.boolean))) := rfl
set_option maxRecDepth 20000 in
theorem i_301_360 : iRow 301 360 = some (.iadd, 0, 0, 0, (some (Jvm.ClassFile.FieldType.boolean))) := rfl
set_option maxRecDepth 20000 in
theorem i_301_361 : iRow 301 361 = some (.iaload, 0, 0, 0, (some (Jvm.ClassFile.FieldType.boolean))) := rfl
set_option maxRecDepth 20000 in
theorem i_301_362 : iRow 301 362 = some (.invokestatic 127, 131, 279, 0, (some (Jvm.ClassFile.FieldType.boolean))) := rfl
set_option maxRecDepth 20000 in
theorem i_301_365 : iRow 301 365 = some (.istore 5, 0, 0, 0, (some (Jvm.ClassFile.FieldType.boolean))) := rfl
set_option maxRecDepth 20000 in
theorem i_301_367 : iRow 301 367 = some (.aload_n 2, 0, 0, 0, (some (Jvm.ClassFile.FieldType.boolean))) := rfl
set_option maxRecDepth 20000 in
theorem i_301_368 : iRow 301 368 = some (.aload_n 0, 0, 0, 0, (some (Jvm.ClassFile.FieldType.boolean))) := rfl
set_option maxRecDepth 20000 in
theorem i_301_369 : iRow 301 369 = some (.iload 4, 0, 0, 0, (some (Jvm.ClassFile.FieldType.boolean))) := rfl
set_option maxRecDepth 20000 in
theorem i_301_371 : iRow 301 371 = some (.iconst 1, 0, 0, 0, (some (Jvm.ClassFile.FieldType.boolean))) := rfl
set_option maxRecDepth 20000 in
theorem i_301_372 : iRow 301 372 = some (.iadd, 0, 0, 0, (some (Jvm.ClassFile.FieldType.boolean))) := rfl
set_option maxRecDepth 20000 in
theorem i_301_373 : iRow 301 373 = some (.iaload, 0, 0, 0, (some (Jvm.ClassFile.FieldType.boolean))) := rfl
set_option maxRecDepth 20000 in
theorem i_301_374 : iRow 301 374 = some (.aload_n 0, 0, 0, 0, (some (Jvm.ClassFile.FieldType.boolean))) := rfl
set_option maxRecDepth 20000 in
theorem i_301_375 : iRow 301 375 = some (.iload 4, 0, 0, 0, (some (Jvm.ClassFile.FieldType.boolean))) := rfl
set_option maxRecDepth 20000 in
theorem i_301_377 : iRow 301 377 = some (.iconst 2, 0, 0, 0, (some (Jvm.ClassFile.FieldType.boolean))) := rfl
set_option maxRecDepth 20000 in
theorem i_301_378 : iRow 301 378 = some (.iadd, 0, 0, 0, (some (Jvm.ClassFile.FieldType.boolean))) := rfl
set_option maxRecDepth 20000 in
theorem i_301_379 : iRow 301 379 = some (.iaload, 0, 0, 0, (some (Jvm.ClassFile.FieldType.boolean))) := rfl
set_option maxRecDepth 20000 in
theorem i_301_380 : iRow 301 380 = some (.aload_n 0, 0, 0, 0, (some (Jvm.ClassFile.FieldType.boolean))) := rfl
set_option maxRecDepth 20000 in
theorem i_301_381 : iRow 301 381 = some (.iload 4, 0, 0, 0, (some (Jvm.ClassFile.FieldType.boolean))) := rfl
set_option maxRecDepth 20000 in
theorem i_301_383 : iRow 301 383 = some (.iconst 3, 0, 0, 0, (some (Jvm.ClassFile.FieldType.boolean))) := rfl
set_option maxRecDepth 20000 in
theorem i_301_384 : iRow 301 384 = some (.iadd, 0, 0, 0, (some (Jvm.ClassFile.FieldType.boolean))) := rfl
set_option maxRecDepth 20000 in
theorem i_301_385 : iRow 301 385 = some (.iaload, 0, 0, 0, (some (Jvm.ClassFile.FieldType.boolean))) := rfl
set_option maxRecDepth 20000 in
theorem i_301_386 : iRow 301 386 = some (.invokevirtual 130, 285, 196, 1, (some (Jvm.ClassFile.FieldType.boolean))) := rfl
set_option maxRecDepth 20000 in
theorem i_301_389 : iRow 301 389 = some (.goto 1050, 0, 0, 0, (some (Jvm.ClassFile.FieldType.boolean))) := rfl
set_option maxRecDepth 20000 in
theorem i_301_432 : iRow 301 432 = some (.aload_n 1, 0, 0, 0, (some (Jvm.ClassFile.FieldType.boolean))) := rfl
set_option maxRecDepth 20000 in
theorem i_301_433 : iRow 301 433 = some (.aload_n 0, 0, 0, 0, (some (Jvm.ClassFile.FieldType.boolean))) := rfl
set_option maxRecDepth 20000 in
theorem i_301_434 : iRow 301 434 = some (.iload 4, 0, 0, 0, (some (Jvm.ClassFile.FieldType.boolean))) := rfl
set_option maxRecDepth 20000 in
theorem i_301_436 : iRow 301 436 = some (.iconst 1, 0, 0, 0, (some (Jvm.ClassFile.FieldType.boolean))) := rfl
set_option maxRecDepth 20000 in
theorem i_301_437 : iRow 301 437 = some (.iadd, 0, 0, 0, (some (Jvm.ClassFile.FieldType.boolean))) := rfl
set_option maxRecDepth 20000 in
theorem i_301_438 : iRow 301 438 = some (.iaload, 0, 0, 0, (some (Jvm.ClassFile.FieldType.boolean))) := rfl
set_option maxRecDepth 20000 in
theorem i_301_439 : iRow 301 439 = some (.aload_n 3, 0, 0, 0, (some (Jvm.ClassFile.FieldType.boolean))) := rfl
set_option maxRecDepth 20000 in
theorem i_301_440 : iRow 301 440 = some (.invokestatic 135, 149, 281, 0, (some (Jvm.ClassFile.FieldType.boolean))) := rfl
set_option maxRecDepth 20000 in
theorem i_301_443 : iRow 301 443 = some (.istore 5, 0, 0, 0, (some (Jvm.ClassFile.FieldType.boolean))) := rfl
set_option maxRecDepth 20000 in
theorem i_301_445 : iRow 301 445 = some (.aload_n 2, 0, 0, 0, (some (Jvm.ClassFile.FieldType.boolean))) := rfl
set_option maxRecDepth 20000 in
theorem i_301_446 : iRow 301 446 = some (.aload_n 0, 0, 0, 0, (some (Jvm.ClassFile.FieldType.boolean))) := rfl
set_option maxRecDepth 20000 in
theorem i_301_447 : iRow 301 447 = some (.iload 4, 0, 0, 0, (some (Jvm.ClassFile.FieldType.boolean))) := rfl
set_option maxRecDepth 20000 in
theorem i_301_449 : iRow 301 449 = some (.iconst 1, 0, 0, 0, (some (Jvm.ClassFile.FieldType.boolean))) := rfl
set_option maxRecDepth 20000 in
theorem i_301_450 : iRow 301 450 = some (.iadd, 0, 0, 0, (some (Jvm.ClassFile.FieldType.boolean))) := rfl
set_option maxRecDepth 20000 in
theorem i_301_451 : iRow 301 451 = some (.iaload, 0, 0, 0, (some (Jvm.ClassFile.FieldType.boolean))) := rfl
set_option maxRecDepth 20000 in
theorem i_301_452 : iRow 301 452 = some (.invokevirtual 137, 290, 201, 1, (some (Jvm.ClassFile.FieldType.boolean))) := rfl
set_option maxRecDepth 20000 in
theorem i_301_455 : iRow 301 455 = some (.istore 6, 0, 0, 0, (some (Jvm.ClassFile.FieldType.boolean))) := rfl
set_option maxRecDepth 20000 in
theorem i_301_457 : iRow 301 457 = some (.goto 982, 0, 0, 0, (some (Jvm.ClassFile.FieldType.boolean))) := rfl
set_option maxRecDepth 20000 in
theorem i_301_460 : iRow 301 460 = some (.aload_n 1, 0, 0, 0, (some (Jvm.ClassFile.FieldType.boolean))) := rfl
set_option maxRecDepth 20000 in
theorem i_301_461 : iRow 301 461 = some (.aload_n 0, 0, 0, 0, (some (Jvm.ClassFile.FieldType.boolean))) := rfl
set_option maxRecDepth 20000 in
theorem i_301_462 : iRow 301 462 = some (.iload 4, 0, 0, 0, (some (Jvm.ClassFile.FieldType.boolean))) := rfl
set_option maxRecDepth 20000 in
theorem i_301_464 : iRow 301 464 = some (.iconst 1, 0, 0, 0, (some (Jvm.ClassFile.FieldType.boolean))) := rfl
set_option maxRecDepth 20000 in
theorem i_301_465 : iRow 301 465 = some (.iadd, 0, 0, 0, (some (Jvm.ClassFile.FieldType.boolean))) := rfl
set_option maxRecDepth 20000 in
theorem i_301_466 : iRow 301 466 = some (.iaload, 0, 0, 0, (some (Jvm.ClassFile.FieldType.boolean))) := rfl
set_option maxRecDepth 20000 in
theorem i_301_467 : iRow 301 467 = some (.aload_n 0, 0, 0, 0, (some (Jvm.ClassFile.FieldType.boolean))) := rfl
set_option maxRecDepth 20000 in
theorem i_301_468 : iRow 301 468 = some (.iload 4, 0, 0, 0, (some (Jvm.ClassFile.FieldType.boolean))) := rfl
set_option maxRecDepth 20000 in
theorem i_301_470 : iRow 301 470 = some (.iconst 2, 0, 0, 0, (some (Jvm.ClassFile.FieldType.boolean))) := rfl
set_option maxRecDepth 20000 in
theorem i_301_471 : iRow 301 471 = some (.iadd, 0, 0, 0, (some (Jvm.ClassFile.FieldType.boolean))) := rfl
set_option maxRecDepth 20000 in
theorem i_301_472 : iRow 301 472 = some (.iaload, 0, 0, 0, (some (Jvm.ClassFile.FieldType.boolean))) := rfl
set_option maxRecDepth 20000 in
theorem i_301_473 : iRow 301 473 = some (.aload_n 0, 0, 0, 0, (some (Jvm.ClassFile.FieldType.boolean))) := rfl
set_option maxRecDepth 20000 in
theorem i_301_474 : iRow 301 474 = some (.iload 4, 0, 0, 0, (some (Jvm.ClassFile.FieldType.boolean))) := rfl
set_option maxRecDepth 20000 in
theorem i_301_476 : iRow 301 476 = some (.iconst 3, 0, 0, 0, (some (Jvm.ClassFile.FieldType.boolean))) := rfl
set_option maxRecDepth 20000 in
theorem i_301_477 : iRow 301 477 = some (.iadd, 0, 0, 0, (some (Jvm.ClassFile.FieldType.boolean))) := rfl
set_option maxRecDepth 20000 in
theorem i_301_478 : iRow 301 478 = some (.iaload, 0, 0, 0, (some (Jvm.ClassFile.FieldType.boolean))) := rfl
set_option maxRecDepth 20000 in
theorem i_301_479 : iRow 301 479 = some (.aload_n 0, 0, 0, 0, (some (Jvm.ClassFile.FieldType.boolean))) := rfl
set_option maxRecDepth 20000 in
theorem i_301_480 : iRow 301 480 = some (.iload 4, 0, 0, 0, (some (Jvm.ClassFile.FieldType.boolean))) := rfl
set_option maxRecDepth 20000 in
theorem i_301_482 : iRow 301 482 = some (.iconst 4, 0, 0, 0, (some (Jvm.ClassFile.FieldType.boolean))) := rfl
set_option maxRecDepth 20000 in
theorem i_301_483 : iRow 301 483 = some (.iadd, 0, 0, 0, (some (Jvm.ClassFile.FieldType.boolean))) := rfl
set_option maxRecDepth 20000 in
theorem i_301_484 : iRow 301 484 = some (.iaload, 0, 0, 0, (some (Jvm.ClassFile.FieldType.boolean))) := rfl
set_option maxRecDepth 20000 in
theorem i_301_485 : iRow 301 485 = some (.aload_n 0, 0, 0, 0, (some (Jvm.ClassFile.FieldType.boolean))) := rfl
set_option maxRecDepth 20000 in
theorem i_301_486 : iRow 301 486 = some (.iload 4, 0, 0, 0, (some (Jvm.ClassFile.FieldType.boolean))) := rfl
set_option maxRecDepth 20000 in
theorem i_301_488 : iRow 301 488 = some (.iconst 5, 0, 0, 0, (some (Jvm.ClassFile.FieldType.boolean))) := rfl
set_option maxRecDepth 20000 in
theorem i_301_489 : iRow 301 489 = some (.iadd, 0, 0, 0, (some (Jvm.ClassFile.FieldType.boolean))) := rfl
set_option maxRecDepth 20000 in
theorem i_301_490 : iRow 301 490 = some (.iaload, 0, 0, 0, (some (Jvm.ClassFile.FieldType.boolean))) := rfl
set_option maxRecDepth 20000 in
theorem i_301_491 : iRow 301 491 = some (.aload_n 3, 0, 0, 0, (some (Jvm.ClassFile.FieldType.boolean))) := rfl
set_option maxRecDepth 20000 in
theorem i_301_492 : iRow 301 492 = some (.invokestatic 138, 153, 282, 0, (some (Jvm.ClassFile.FieldType.boolean))) := rfl
set_option maxRecDepth 20000 in
theorem i_301_495 : iRow 301 495 = some (.istore 5, 0, 0, 0, (some (Jvm.ClassFile.FieldType.boolean))) := rfl
set_option maxRecDepth 20000 in
theorem i_301_497 : iRow 301 497 = some (.aload_n 2, 0, 0, 0, (some (Jvm.ClassFile.FieldType.boolean))) := rfl
set_option maxRecDepth 20000 in
theorem i_301_498 : iRow 301 498 = some (.aload_n 0, 0, 0, 0, (some (Jvm.ClassFile.FieldType.boolean))) := rfl
set_option maxRecDepth 20000 in
theorem i_301_499 : iRow 301 499 = some (.iload 4, 0, 0, 0, (some (Jvm.ClassFile.FieldType.boolean))) := rfl
set_option maxRecDepth 20000 in
theorem i_301_501 : iRow 301 501 = some (.iconst 1, 0, 0, 0, (some (Jvm.ClassFile.FieldType.boolean))) := rfl
set_option maxRecDepth 20000 in
theorem i_301_502 : iRow 301 502 = some (.iadd, 0, 0, 0, (some (Jvm.ClassFile.FieldType.boolean))) := rfl
set_option maxRecDepth 20000 in
theorem i_301_503 : iRow 301 503 = some (.iaload, 0, 0, 0, (some (Jvm.ClassFile.FieldType.boolean))) := rfl
set_option maxRecDepth 20000 in
theorem i_301_504 : iRow 301 504 = some (.aload_n 0, 0, 0, 0, (some (Jvm.ClassFile.FieldType.boolean))) := rfl
set_option maxRecDepth 20000 in
theorem i_301_505 : iRow 301 505 = some (.iload 4, 0, 0, 0, (some (Jvm.ClassFile.FieldType.boolean))) := rfl
set_option maxRecDepth 20000 in
theorem i_301_507 : iRow 301 507 = some (.iconst 2, 0, 0, 0, (some (Jvm.ClassFile.FieldType.boolean))) := rfl
set_option maxRecDepth 20000 in
theorem i_301_508 : iRow 301 508 = some (.iadd, 0, 0, 0, (some (Jvm.ClassFile.FieldType.boolean))) := rfl
set_option maxRecDepth 20000 in
theorem i_301_509 : iRow 301 509 = some (.iaload, 0, 0, 0, (some (Jvm.ClassFile.FieldType.boolean))) := rfl
set_option maxRecDepth 20000 in
theorem i_301_510 : iRow 301 510 = some (.aload_n 0, 0, 0, 0, (some (Jvm.ClassFile.FieldType.boolean))) := rfl
set_option maxRecDepth 20000 in
theorem i_301_511 : iRow 301 511 = some (.iload 4, 0, 0, 0, (some (Jvm.ClassFile.FieldType.boolean))) := rfl
set_option maxRecDepth 20000 in
theorem i_301_513 : iRow 301 513 = some (.iconst 3, 0, 0, 0, (some (Jvm.ClassFile.FieldType.boolean))) := rfl
set_option maxRecDepth 20000 in
theorem i_301_514 : iRow 301 514 = some (.iadd, 0, 0, 0, (some (Jvm.ClassFile.FieldType.boolean))) := rfl
set_option maxRecDepth 20000 in
theorem i_301_515 : iRow 301 515 = some (.iaload, 0, 0, 0, (some (Jvm.ClassFile.FieldType.boolean))) := rfl
set_option maxRecDepth 20000 in
theorem i_301_516 : iRow 301 516 = some (.aload_n 0, 0, 0, 0, (some (Jvm.ClassFile.FieldType.boolean))) := rfl
set_option maxRecDepth 20000 in
theorem i_301_517 : iRow 301 517 = some (.iload 4, 0, 0, 0, (some (Jvm.ClassFile.FieldType.boolean))) := rfl
set_option maxRecDepth 20000 in
theorem i_301_519 : iRow 301 519 = some (.iconst 4, 0, 0, 0, (some (Jvm.ClassFile.FieldType.boolean))) := rfl
set_option maxRecDepth 20000 in
theorem i_301_520 : iRow 301 520 = some (.iadd, 0, 0, 0, (some (Jvm.ClassFile.FieldType.boolean))) := rfl
set_option maxRecDepth 20000 in
theorem i_301_521 : iRow 301 521 = some (.iaload, 0, 0, 0, (some (Jvm.ClassFile.FieldType.boolean))) := rfl
set_option maxRecDepth 20000 in
theorem i_301_522 : iRow 301 522 = some (.aload_n 0, 0, 0, 0, (some (Jvm.ClassFile.FieldType.boolean))) := rfl
set_option maxRecDepth 20000 in
theorem i_301_523 : iRow 301 523 = some (.iload 4, 0, 0, 0, (some (Jvm.ClassFile.FieldType.boolean))) := rfl
set_option maxRecDepth 20000 in
theorem i_301_525 : iRow 301 525 = some (.iconst 5, 0, 0, 0, (some (Jvm.ClassFile.FieldType.boolean))) := rfl
set_option maxRecDepth 20000 in
theorem i_301_526 : iRow 301 526 = some (.iadd, 0, 0, 0, (some (Jvm.ClassFile.FieldType.boolean))) := rfl
set_option maxRecDepth 20000 in
theorem i_301_527 : iRow 301 527 = some (.iaload, 0, 0, 0, (some (Jvm.ClassFile.FieldType.boolean))) := rfl
set_option maxRecDepth 20000 in
theorem i_301_528 : iRow 301 528 = some (.invokevirtual 141, 291, 202, 1, (some (Jvm.ClassFile.FieldType.boolean))) := rfl
set_option maxRecDepth 20000 in
theorem i_301_531 : iRow 301 531 = some (.istore 6, 0, 0, 0, (some (Jvm.ClassFile.FieldType.boolean))) := rfl
set_option maxRecDepth 20000 in
theorem i_301_533 : iRow 301 533 = some (.goto 906, 0, 0, 0, (some (Jvm.ClassFile.FieldType.boolean))) := rfl
set_option maxRecDepth 20000 in
theorem i_301_536 : iRow 301 536 = some (.aload_n 1, 0, 0, 0, (some (Jvm.ClassFile.FieldType.boolean))) := rfl
set_option maxRecDepth 20000 in
theorem i_301_537 : iRow 301 537 = some (.aload_n 0, 0, 0, 0, (some (Jvm.ClassFile.FieldType.boolean))) := rfl
set_option maxRecDepth 20000 in
theorem i_301_538 : iRow 301 538 = some (.iload 4, 0, 0, 0, (some (Jvm.ClassFile.FieldType.boolean))) := rfl
set_option maxRecDepth 20000 in
theorem i_301_540 : iRow 301 540 = some (.iconst 1, 0, 0, 0, (some (Jvm.ClassFile.FieldType.boolean))) := rfl
set_option maxRecDepth 20000 in
theorem i_301_541 : iRow 301 541 = some (.iadd, 0, 0, 0, (some (Jvm.ClassFile.FieldType.boolean))) := rfl
set_option maxRecDepth 20000 in
theorem i_301_542 : iRow 301 542 = some (.iaload, 0, 0, 0, (some (Jvm.ClassFile.FieldType.boolean))) := rfl
set_option maxRecDepth 20000 in
theorem i_301_543 : iRow 301 543 = some (.aload_n 0, 0, 0, 0, (some (Jvm.ClassFile.FieldType.boolean))) := rfl
set_option maxRecDepth 20000 in
theorem i_301_544 : iRow 301 544 = some (.iload 4, 0, 0, 0, (some (Jvm.ClassFile.FieldType.boolean))) := rfl
set_option maxRecDepth 20000 in
theorem i_301_546 : iRow 301 546 = some (.iconst 2, 0, 0, 0, (some (Jvm.ClassFile.FieldType.boolean))) := rfl
set_option maxRecDepth 20000 in
theorem i_301_547 : iRow 301 547 = some (.iadd, 0, 0, 0, (some (Jvm.ClassFile.FieldType.boolean))) := rfl
set_option maxRecDepth 20000 in
theorem i_301_548 : iRow 301 548 = some (.iaload, 0, 0, 0, (some (Jvm.ClassFile.FieldType.boolean))) := rfl
set_option maxRecDepth 20000 in
theorem i_301_549 : iRow 301 549 = some (.aload_n 0, 0, 0, 0, (some (Jvm.ClassFile.FieldType.boolean))) := rfl
set_option maxRecDepth 20000 in
theorem i_301_550 : iRow 301 550 = some (.iload 4, 0, 0, 0, (some (Jvm.ClassFile.FieldType.boolean))) := rfl
set_option maxRecDepth 20000 in
theorem i_301_552 : iRow 301 552 = some (.iconst 3, 0, 0, 0, (some (Jvm.ClassFile.FieldType.boolean))) := rfl
set_option maxRecDepth 20000 in
theorem i_301_553 : iRow 301 553 = some (.iadd, 0, 0, 0, (some (Jvm.ClassFile.FieldType.boolean))) := rfl
set_option maxRecDepth 20000 in
theorem i_301_554 : iRow 301 554 = some (.iaload, 0, 0, 0, (some (Jvm.ClassFile.FieldType.boolean))) := rfl
set_option maxRecDepth 20000 in
theorem i_301_555 : iRow 301 555 = some (.aload_n 0, 0, 0, 0, (some (Jvm.ClassFile.FieldType.boolean))) := rfl
set_option maxRecDepth 20000 in
theorem i_301_556 : iRow 301 556 = some (.iload 4, 0, 0, 0, (some (Jvm.ClassFile.FieldType.boolean))) := rfl
set_option maxRecDepth 20000 in
theorem i_301_558 : iRow 301 558 = some (.iconst 4, 0, 0, 0, (some (Jvm.ClassFile.FieldType.boolean))) := rfl
set_option maxRecDepth 20000 in
theorem i_301_559 : iRow 301 559 = some (.iadd, 0, 0, 0, (some (Jvm.ClassFile.FieldType.boolean))) := rfl
set_option maxRecDepth 20000 in
theorem i_301_560 : iRow 301 560 = some (.iaload, 0, 0, 0, (some (Jvm.ClassFile.FieldType.boolean))) := rfl
set_option maxRecDepth 20000 in
theorem i_301_561 : iRow 301 561 = some (.aload_n 0, 0, 0, 0, (some (Jvm.ClassFile.FieldType.boolean))) := rfl
set_option maxRecDepth 20000 in
theorem i_301_562 : iRow 301 562 = some (.iload 4, 0, 0, 0, (some (Jvm.ClassFile.FieldType.boolean))) := rfl
set_option maxRecDepth 20000 in
theorem i_301_564 : iRow 301 564 = some (.iconst 5, 0, 0, 0, (some (Jvm.ClassFile.FieldType.boolean))) := rfl
set_option maxRecDepth 20000 in
theorem i_301_565 : iRow 301 565 = some (.iadd, 0, 0, 0, (some (Jvm.ClassFile.FieldType.boolean))) := rfl
set_option maxRecDepth 20000 in
theorem i_301_566 : iRow 301 566 = some (.iaload, 0, 0, 0, (some (Jvm.ClassFile.FieldType.boolean))) := rfl
set_option maxRecDepth 20000 in
theorem i_301_567 : iRow 301 567 = some (.aload_n 0, 0, 0, 0, (some (Jvm.ClassFile.FieldType.boolean))) := rfl
set_option maxRecDepth 20000 in
theorem i_301_568 : iRow 301 568 = some (.iload 4, 0, 0, 0, (some (Jvm.ClassFile.FieldType.boolean))) := rfl
set_option maxRecDepth 20000 in
theorem i_301_570 : iRow 301 570 = some (.bipush 6, 0, 0, 0, (some (Jvm.ClassFile.FieldType.boolean))) := rfl
set_option maxRecDepth 20000 in
theorem i_301_572 : iRow 301 572 = some (.iadd, 0, 0, 0, (some (Jvm.ClassFile.FieldType.boolean))) := rfl
set_option maxRecDepth 20000 in
theorem i_301_573 : iRow 301 573 = some (.iaload, 0, 0, 0, (some (Jvm.ClassFile.FieldType.boolean))) := rfl
set_option maxRecDepth 20000 in
theorem i_301_574 : iRow 301 574 = some (.aload_n 3, 0, 0, 0, (some (Jvm.ClassFile.FieldType.boolean))) := rfl
set_option maxRecDepth 20000 in
theorem i_301_575 : iRow 301 575 = some (.invokestatic 142, 160, 283, 0, (some (Jvm.ClassFile.FieldType.boolean))) := rfl
set_option maxRecDepth 20000 in
theorem i_301_578 : iRow 301 578 = some (.istore 5, 0, 0, 0, (some (Jvm.ClassFile.FieldType.boolean))) := rfl
set_option maxRecDepth 20000 in
theorem i_301_580 : iRow 301 580 = some (.aload_n 2, 0, 0, 0, (some (Jvm.ClassFile.FieldType.boolean))) := rfl
set_option maxRecDepth 20000 in
theorem i_301_581 : iRow 301 581 = some (.aload_n 0, 0, 0, 0, (some (Jvm.ClassFile.FieldType.boolean))) := rfl
set_option maxRecDepth 20000 in
theorem i_301_582 : iRow 301 582 = some (.iload 4, 0, 0, 0, (some (Jvm.ClassFile.FieldType.boolean))) := rfl
set_option maxRecDepth 20000 in
theorem i_301_584 : iRow 301 584 = some (.iconst 1, 0, 0, 0, (some (Jvm.ClassFile.FieldType.boolean))) := rfl
set_option maxRecDepth 20000 in
theorem i_301_585 : iRow 301 585 = some (.iadd, 0, 0, 0, (some (Jvm.ClassFile.FieldType.boolean))) := rfl
set_option maxRecDepth 20000 in
theorem i_301_586 : iRow 301 586 = some (.iaload, 0, 0, 0, (some (Jvm.ClassFile.FieldType.boolean))) := rfl
set_option maxRecDepth 20000 in
theorem i_301_587 : iRow 301 587 = some (.aload_n 0, 0, 0, 0, (some (Jvm.ClassFile.FieldType.boolean))) := rfl
set_option maxRecDepth 20000 in
theorem i_301_588 : iRow 301 588 = some (.iload 4, 0, 0, 0, (some (Jvm.ClassFile.FieldType.boolean))) := rfl
set_option maxRecDepth 20000 in
theorem i_301_590 : iRow 301 590 = some (.iconst 2, 0, 0, 0, (some (Jvm.ClassFile.FieldType.boolean))) := rfl
set_option maxRecDepth 20000 in
theorem i_301_591 : iRow 301 591 = some (.iadd, 0, 0, 0, (some (Jvm.ClassFile.FieldType.boolean))) := rfl
set_option maxRecDepth 20000 in
theorem i_301_592 : iRow 301 592 = some (.iaload, 0, 0, 0, (some (Jvm.ClassFile.FieldType.boolean))) := rfl
set_option maxRecDepth 20000 in
theorem i_301_593 : iRow 301 593 = some (.aload_n 0, 0, 0, 0, (some (Jvm.ClassFile.FieldType.boolean))) := rfl
set_option maxRecDepth 20000 in
theorem i_301_594 : iRow 301 594 = some (.iload 4, 0, 0, 0, (some (Jvm.ClassFile.FieldType.boolean))) := rfl
set_option maxRecDepth 20000 in
theorem i_301_596 : iRow 301 596 = some (.iconst 3, 0, 0, 0, (some (Jvm.ClassFile.FieldType.boolean))) := rfl
set_option maxRecDepth 20000 in
theorem i_301_597 : iRow 301 597 = some (.iadd, 0, 0, 0, (some (Jvm.ClassFile.FieldType.boolean))) := rfl
set_option maxRecDepth 20000 in
theorem i_301_598 : iRow 301 598 = some (.iaload, 0, 0, 0, (some (Jvm.ClassFile.FieldType.boolean))) := rfl
set_option maxRecDepth 20000 in
theorem i_301_599 : iRow 301 599 = some (.aload_n 0, 0, 0, 0, (some (Jvm.ClassFile.FieldType.boolean))) := rfl
set_option maxRecDepth 20000 in
theorem i_301_600 : iRow 301 600 = some (.iload 4, 0, 0, 0, (some (Jvm.ClassFile.FieldType.boolean))) := rfl
set_option maxRecDepth 20000 in
theorem i_301_602 : iRow 301 602 = some (.iconst 4, 0, 0, 0, (some (Jvm.ClassFile.FieldType.boolean))) := rfl
set_option maxRecDepth 20000 in
theorem i_301_603 : iRow 301 603 = some (.iadd, 0, 0, 0, (some (Jvm.ClassFile.FieldType.boolean))) := rfl
set_option maxRecDepth 20000 in
theorem i_301_604 : iRow 301 604 = some (.iaload, 0, 0, 0, (some (Jvm.ClassFile.FieldType.boolean))) := rfl
set_option maxRecDepth 20000 in
theorem i_301_605 : iRow 301 605 = some (.aload_n 0, 0, 0, 0, (some (Jvm.ClassFile.FieldType.boolean))) := rfl
set_option maxRecDepth 20000 in
theorem i_301_606 : iRow 301 606 = some (.iload 4, 0, 0, 0, (some (Jvm.ClassFile.FieldType.boolean))) := rfl
set_option maxRecDepth 20000 in
theorem i_301_608 : iRow 301 608 = some (.iconst 5, 0, 0, 0, (some (Jvm.ClassFile.FieldType.boolean))) := rfl
set_option maxRecDepth 20000 in
theorem i_301_609 : iRow 301 609 = some (.iadd, 0, 0, 0, (some (Jvm.ClassFile.FieldType.boolean))) := rfl
set_option maxRecDepth 20000 in
theorem i_301_610 : iRow 301 610 = some (.iaload, 0, 0, 0, (some (Jvm.ClassFile.FieldType.boolean))) := rfl
set_option maxRecDepth 20000 in
theorem i_301_611 : iRow 301 611 = some (.aload_n 0, 0, 0, 0, (some (Jvm.ClassFile.FieldType.boolean))) := rfl
set_option maxRecDepth 20000 in
theorem i_301_612 : iRow 301 612 = some (.iload 4, 0, 0, 0, (some (Jvm.ClassFile.FieldType.boolean))) := rfl
set_option maxRecDepth 20000 in
theorem i_301_614 : iRow 301 614 = some (.bipush 6, 0, 0, 0, (some (Jvm.ClassFile.FieldType.boolean))) := rfl
set_option maxRecDepth 20000 in
theorem i_301_616 : iRow 301 616 = some (.iadd, 0, 0, 0, (some (Jvm.ClassFile.FieldType.boolean))) := rfl
set_option maxRecDepth 20000 in
theorem i_301_617 : iRow 301 617 = some (.iaload, 0, 0, 0, (some (Jvm.ClassFile.FieldType.boolean))) := rfl
set_option maxRecDepth 20000 in
theorem i_301_618 : iRow 301 618 = some (.invokevirtual 145, 298, 209, 1, (some (Jvm.ClassFile.FieldType.boolean))) := rfl
set_option maxRecDepth 20000 in
theorem i_301_621 : iRow 301 621 = some (.istore 6, 0, 0, 0, (some (Jvm.ClassFile.FieldType.boolean))) := rfl
set_option maxRecDepth 20000 in
theorem i_301_623 : iRow 301 623 = some (.goto 816, 0, 0, 0, (some (Jvm.ClassFile.FieldType.boolean))) := rfl
set_option maxRecDepth 20000 in
theorem i_301_678 : iRow 301 678 = some (.aload_n 1, 0, 0, 0, (some (Jvm.ClassFile.FieldType.boolean))) := rfl
set_option maxRecDepth 20000 in
theorem i_301_679 : iRow 301 679 = some (.aload_n 0, 0, 0, 0, (some (Jvm.ClassFile.FieldType.boolean))) := rfl
set_option maxRecDepth 20000 in
theorem i_301_680 : iRow 301 680 = some (.iload 4, 0, 0, 0, (some (Jvm.ClassFile.FieldType.boolean))) := rfl
set_option maxRecDepth 20000 in
theorem i_301_682 : iRow 301 682 = some (.iconst 1, 0, 0, 0, (some (Jvm.ClassFile.FieldType.boolean))) := rfl
set_option maxRecDepth 20000 in
theorem i_301_683 : iRow 301 683 = some (.iadd, 0, 0, 0, (some (Jvm.ClassFile.FieldType.boolean))) := rfl
set_option maxRecDepth 20000 in
theorem i_301_684 : iRow 301 684 = some (.iaload, 0, 0, 0, (some (Jvm.ClassFile.FieldType.boolean))) := rfl
set_option maxRecDepth 20000 in
theorem i_301_685 : iRow 301 685 = some (.aload_n 0, 0, 0, 0, (some (Jvm.ClassFile.FieldType.boolean))) := rfl
set_option maxRecDepth 20000 in
theorem i_301_686 : iRow 301 686 = some (.iload 4, 0, 0, 0, (some (Jvm.ClassFile.FieldType.boolean))) := rfl
set_option maxRecDepth 20000 in
theorem i_301_688 : iRow 301 688 = some (.iconst 2, 0, 0, 0, (some (Jvm.ClassFile.FieldType.boolean))) := rfl
set_option maxRecDepth 20000 in
theorem i_301_689 : iRow 301 689 = some (.iadd, 0, 0, 0, (some (Jvm.ClassFile.FieldType.boolean))) := rfl
set_option maxRecDepth 20000 in
theorem i_301_690 : iRow 301 690 = some (.iaload, 0, 0, 0, (some (Jvm.ClassFile.FieldType.boolean))) := rfl
set_option maxRecDepth 20000 in
theorem i_301_691 : iRow 301 691 = some (.aload_n 0, 0, 0, 0, (some (Jvm.ClassFile.FieldType.boolean))) := rfl
set_option maxRecDepth 20000 in
theorem i_301_692 : iRow 301 692 = some (.iload 4, 0, 0, 0, (some (Jvm.ClassFile.FieldType.boolean))) := rfl
set_option maxRecDepth 20000 in
theorem i_301_694 : iRow 301 694 = some (.iconst 3, 0, 0, 0, (some (Jvm.ClassFile.FieldType.boolean))) := rfl
set_option maxRecDepth 20000 in
theorem i_301_695 : iRow 301 695 = some (.iadd, 0, 0, 0, (some (Jvm.ClassFile.FieldType.boolean))) := rfl
set_option maxRecDepth 20000 in
theorem i_301_696 : iRow 301 696 = some (.iaload, 0, 0, 0, (some (Jvm.ClassFile.FieldType.boolean))) := rfl
set_option maxRecDepth 20000 in
theorem i_301_697 : iRow 301 697 = some (.aload_n 0, 0, 0, 0, (some (Jvm.ClassFile.FieldType.boolean))) := rfl
set_option maxRecDepth 20000 in
theorem i_301_698 : iRow 301 698 = some (.iload 4, 0, 0, 0, (some (Jvm.ClassFile.FieldType.boolean))) := rfl
set_option maxRecDepth 20000 in
theorem i_301_700 : iRow 301 700 = some (.iconst 4, 0, 0, 0, (some (Jvm.ClassFile.FieldType.boolean))) := rfl
set_option maxRecDepth 20000 in
theorem i_301_701 : iRow 301 701 = some (.iadd, 0, 0, 0, (some (Jvm.ClassFile.FieldType.boolean))) := rfl
set_option maxRecDepth 20000 in
theorem i_301_702 : iRow 301 702 = some (.iaload, 0, 0, 0, (some (Jvm.ClassFile.FieldType.boolean))) := rfl
set_option maxRecDepth 20000 in
theorem i_301_703 : iRow 301 703 = some (.aload_n 3, 0, 0, 0, (some (Jvm.ClassFile.FieldType.boolean))) := rfl
set_option maxRecDepth 20000 in
theorem i_301_704 : iRow 301 704 = some (.invokestatic 150, 168, 285, 0, (some (Jvm.ClassFile.FieldType.boolean))) := rfl
set_option maxRecDepth 20000 in
theorem i_301_707 : iRow 301 707 = some (.istore 5, 0, 0, 0, (some (Jvm.ClassFile.FieldType.boolean))) := rfl
set_option maxRecDepth 20000 in
theorem i_301_709 : iRow 301 709 = some (.aload_n 2, 0, 0, 0, (some (Jvm.ClassFile.FieldType.boolean))) := rfl
set_option maxRecDepth 20000 in
theorem i_301_710 : iRow 301 710 = some (.aload_n 0, 0, 0, 0, (some (Jvm.ClassFile.FieldType.boolean))) := rfl
set_option maxRecDepth 20000 in
theorem i_301_711 : iRow 301 711 = some (.iload 4, 0, 0, 0, (some (Jvm.ClassFile.FieldType.boolean))) := rfl
set_option maxRecDepth 20000 in
theorem i_301_713 : iRow 301 713 = some (.iconst 1, 0, 0, 0, (some (Jvm.ClassFile.FieldType.boolean))) := rfl
set_option maxRecDepth 20000 in
theorem i_301_714 : iRow 301 714 = some (.iadd, 0, 0, 0, (some (Jvm.ClassFile.FieldType.boolean))) := rfl
set_option maxRecDepth 20000 in
theorem i_301_715 : iRow 301 715 = some (.iaload, 0, 0, 0, (some (Jvm.ClassFile.FieldType.boolean))) := rfl
set_option maxRecDepth 20000 in
theorem i_301_716 : iRow 301 716 = some (.aload_n 0, 0, 0, 0, (some (Jvm.ClassFile.FieldType.boolean))) := rfl
set_option maxRecDepth 20000 in
theorem i_301_717 : iRow 301 717 = some (.iload 4, 0, 0, 0, (some (Jvm.ClassFile.FieldType.boolean))) := rfl
set_option maxRecDepth 20000 in
theorem i_301_719 : iRow 301 719 = some (.iconst 2, 0, 0, 0, (some (Jvm.ClassFile.FieldType.boolean))) := rfl
set_option maxRecDepth 20000 in
theorem i_301_720 : iRow 301 720 = some (.iadd, 0, 0, 0, (some (Jvm.ClassFile.FieldType.boolean))) := rfl
set_option maxRecDepth 20000 in
theorem i_301_721 : iRow 301 721 = some (.iaload, 0, 0, 0, (some (Jvm.ClassFile.FieldType.boolean))) := rfl
set_option maxRecDepth 20000 in
theorem i_301_722 : iRow 301 722 = some (.aload_n 0, 0, 0, 0, (some (Jvm.ClassFile.FieldType.boolean))) := rfl
set_option maxRecDepth 20000 in
theorem i_301_723 : iRow 301 723 = some (.iload 4, 0, 0, 0, (some (Jvm.ClassFile.FieldType.boolean))) := rfl
set_option maxRecDepth 20000 in
theorem i_301_725 : iRow 301 725 = some (.iconst 3, 0, 0, 0, (some (Jvm.ClassFile.FieldType.boolean))) := rfl
set_option maxRecDepth 20000 in
theorem i_301_726 : iRow 301 726 = some (.iadd, 0, 0, 0, (some (Jvm.ClassFile.FieldType.boolean))) := rfl
set_option maxRecDepth 20000 in
theorem i_301_727 : iRow 301 727 = some (.iaload, 0, 0, 0, (some (Jvm.ClassFile.FieldType.boolean))) := rfl
set_option maxRecDepth 20000 in
theorem i_301_728 : iRow 301 728 = some (.aload_n 0, 0, 0, 0, (some (Jvm.ClassFile.FieldType.boolean))) := rfl
set_option maxRecDepth 20000 in
theorem i_301_729 : iRow 301 729 = some (.iload 4, 0, 0, 0, (some (Jvm.ClassFile.FieldType.boolean))) := rfl
set_option maxRecDepth 20000 in
theorem i_301_731 : iRow 301 731 = some (.iconst 4, 0, 0, 0, (some (Jvm.ClassFile.FieldType.boolean))) := rfl
set_option maxRecDepth 20000 in
theorem i_301_732 : iRow 301 732 = some (.iadd, 0, 0, 0, (some (Jvm.ClassFile.FieldType.boolean))) := rfl
set_option maxRecDepth 20000 in
theorem i_301_733 : iRow 301 733 = some (.iaload, 0, 0, 0, (some (Jvm.ClassFile.FieldType.boolean))) := rfl
set_option maxRecDepth 20000 in
theorem i_301_734 : iRow 301 734 = some (.invokevirtual 153, 365, 274, 1, (some (Jvm.ClassFile.FieldType.boolean))) := rfl
set_option maxRecDepth 20000 in
theorem i_301_737 : iRow 301 737 = some (.istore 6, 0, 0, 0, (some (Jvm.ClassFile.FieldType.boolean))) := rfl
set_option maxRecDepth 20000 in
theorem i_301_739 : iRow 301 739 = some (.goto 700, 0, 0, 0, (some (Jvm.ClassFile.FieldType.boolean))) := rfl
set_option maxRecDepth 20000 in
theorem i_301_1033 : iRow 301 1033 = some (.aload_n 1, 0, 0, 0, (some (Jvm.ClassFile.FieldType.boolean))) := rfl
set_option maxRecDepth 20000 in
theorem i_301_1034 : iRow 301 1034 = some (.aload_n 0, 0, 0, 0, (some (Jvm.ClassFile.FieldType.boolean))) := rfl
set_option maxRecDepth 20000 in
theorem i_301_1035 : iRow 301 1035 = some (.iload 4, 0, 0, 0, (some (Jvm.ClassFile.FieldType.boolean))) := rfl
set_option maxRecDepth 20000 in
theorem i_301_1037 : iRow 301 1037 = some (.iconst 1, 0, 0, 0, (some (Jvm.ClassFile.FieldType.boolean))) := rfl
set_option maxRecDepth 20000 in
theorem i_301_1038 : iRow 301 1038 = some (.iadd, 0, 0, 0, (some (Jvm.ClassFile.FieldType.boolean))) := rfl
set_option maxRecDepth 20000 in
theorem i_301_1039 : iRow 301 1039 = some (.iaload, 0, 0, 0, (some (Jvm.ClassFile.FieldType.boolean))) := rfl
set_option maxRecDepth 20000 in
theorem i_301_1040 : iRow 301 1040 = some (.aload_n 3, 0, 0, 0, (some (Jvm.ClassFile.FieldType.boolean))) := rfl
set_option maxRecDepth 20000 in
theorem i_301_1041 : iRow 301 1041 = some (.invokestatic 184, 219, 293, 0, (some (Jvm.ClassFile.FieldType.boolean))) := rfl
set_option maxRecDepth 20000 in
theorem i_301_1044 : iRow 301 1044 = some (.istore 5, 0, 0, 0, (some (Jvm.ClassFile.FieldType.boolean))) := rfl
set_option maxRecDepth 20000 in
theorem i_301_1046 : iRow 301 1046 = some (.aload_n 2, 0, 0, 0, (some (Jvm.ClassFile.FieldType.boolean))) := rfl
set_option maxRecDepth 20000 in
theorem i_301_1047 : iRow 301 1047 = some (.aload_n 0, 0, 0, 0, (some (Jvm.ClassFile.FieldType.boolean))) := rfl
set_option maxRecDepth 20000 in
theorem i_301_1048 : iRow 301 1048 = some (.iload 4, 0, 0, 0, (some (Jvm.ClassFile.FieldType.boolean))) := rfl
set_option maxRecDepth 20000 in
theorem i_301_1050 : iRow 301 1050 = some (.iconst 1, 0, 0, 0, (some (Jvm.ClassFile.FieldType.boolean))) := rfl
set_option maxRecDepth 20000 in
theorem i_301_1051 : iRow 301 1051 = some (.iadd, 0, 0, 0, (some (Jvm.ClassFile.FieldType.boolean))) := rfl
set_option maxRecDepth 20000 in
theorem i_301_1052 : iRow 301 1052 = some (.iaload, 0, 0, 0, (some (Jvm.ClassFile.FieldType.boolean))) := rfl
set_option maxRecDepth 20000 in
theorem i_301_1053 : iRow 301 1053 = some (.invokevirtual 186, 354, 263, 1, (some (Jvm.ClassFile.FieldType.boolean))) := rfl
set_option maxRecDepth 20000 in
theorem i_301_1056 : iRow 301 1056 = some (.istore 6, 0, 0, 0, (some (Jvm.ClassFile.FieldType.boolean))) := rfl
set_option maxRecDepth 20000 in
theorem i_301_1058 : iRow 301 1058 = some (.aload_n 2, 0, 0, 0, (some (Jvm.ClassFile.FieldType.boolean))) := rfl
set_option maxRecDepth 20000 in
theorem i_301_1059 : iRow 301 1059 = some (.invokevirtual 187, 253, 167, 1, (some (Jvm.ClassFile.FieldType.boolean))) := rfl
set_option maxRecDepth 20000 in
theorem i_301_1062 : iRow 301 1062 = some (.iload 5, 0, 0, 0, (some (Jvm.ClassFile.FieldType.boolean))) := rfl
set_option maxRecDepth 20000 in
theorem i_301_1064 : iRow 301 1064 = some (.if_icmp .eq 5, 0, 0, 0, (some (Jvm.ClassFile.FieldType.boolean))) := rfl
set_option maxRecDepth 20000 in
theorem i_301_1067 : iRow 301 1067 = some (.iconst 0, 0, 0, 0, (some (Jvm.ClassFile.FieldType.boolean))) := rfl
set_option maxRecDepth 20000 in
theorem i_301_1068 : iRow 301 1068 = some (.ireturn, 0, 0, 0, (some (Jvm.ClassFile.FieldType.boolean))) := rfl
set_option maxRecDepth 20000 in
theorem i_301_1069 : iRow 301 1069 = some (.iload 5, 0, 0, 0, (some (Jvm.ClassFile.FieldType.boolean))) := rfl
set_option maxRecDepth 20000 in
theorem i_301_1071 : iRow 301 1071 = some (.ifCond .ne 15, 0, 0, 0, (some (Jvm.ClassFile.FieldType.boolean))) := rfl
set_option maxRecDepth 20000 in
theorem i_301_1074 : iRow 301 1074 = some (.aload_n 3, 0, 0, 0, (some (Jvm.ClassFile.FieldType.boolean))) := rfl
set_option maxRecDepth 20000 in
theorem i_301_1075 : iRow 301 1075 = some (.iconst 0, 0, 0, 0, (some (Jvm.ClassFile.FieldType.boolean))) := rfl
set_option maxRecDepth 20000 in
theorem i_301_1076 : iRow 301 1076 = some (.laload, 0, 0, 0, (some (Jvm.ClassFile.FieldType.boolean))) := rfl
set_option maxRecDepth 20000 in
theorem i_301_1077 : iRow 301 1077 = some (.iload 6, 0, 0, 0, (some (Jvm.ClassFile.FieldType.boolean))) := rfl
set_option maxRecDepth 20000 in
theorem i_301_1079 : iRow 301 1079 = some (.i2l, 0, 0, 0, (some (Jvm.ClassFile.FieldType.boolean))) := rfl
set_option maxRecDepth 20000 in
theorem i_301_1080 : iRow 301 1080 = some (.lcmp, 0, 0, 0, (some (Jvm.ClassFile.FieldType.boolean))) := rfl
set_option maxRecDepth 20000 in
theorem i_301_1081 : iRow 301 1081 = some (.ifCond .eq 5, 0, 0, 0, (some (Jvm.ClassFile.FieldType.boolean))) := rfl
set_option maxRecDepth 20000 in
theorem i_301_1084 : iRow 301 1084 = some (.iconst 0, 0, 0, 0, (some (Jvm.ClassFile.FieldType.boolean))) := rfl
set_option maxRecDepth 20000 in
theorem i_301_1085 : iRow 301 1085 = some (.ireturn, 0, 0, 0, (some (Jvm.ClassFile.FieldType.boolean))) := rfl
set_option maxRecDepth 20000 in
theorem i_301_1086 : iRow 301 1086 = some (.goto 353, 0, 0, 0, (some (Jvm.ClassFile.FieldType.boolean))) := rfl
set_option maxRecDepth 20000 in
theorem i_301_1390 : iRow 301 1390 = some (.aload_n 1, 0, 0, 0, (some (Jvm.ClassFile.FieldType.boolean))) := rfl
set_option maxRecDepth 20000 in
theorem i_301_1391 : iRow 301 1391 = some (.invokevirtual 216, 75, 70, 1, (some (Jvm.ClassFile.FieldType.boolean))) := rfl
set_option maxRecDepth 20000 in
theorem i_301_1394 : iRow 301 1394 = some (.aload_n 2, 0, 0, 0, (some (Jvm.ClassFile.FieldType.boolean))) := rfl
set_option maxRecDepth 20000 in
theorem i_301_1395 : iRow 301 1395 = some (.invokevirtual 219, 256, 169, 1, (some (Jvm.ClassFile.FieldType.boolean))) := rfl
set_option maxRecDepth 20000 in
theorem i_301_1398 : iRow 301 1398 = some (.goto 41, 0, 0, 0, (some (Jvm.ClassFile.FieldType.boolean))) := rfl
set_option maxRecDepth 20000 in
theorem i_301_1401 : iRow 301 1401 = some (.aload_n 1, 0, 0, 0, (some (Jvm.ClassFile.FieldType.boolean))) := rfl
set_option maxRecDepth 20000 in
theorem i_301_1402 : iRow 301 1402 = some (.invokevirtual 220, 77, 72, 1, (some (Jvm.ClassFile.FieldType.boolean))) := rfl
set_option maxRecDepth 20000 in
theorem i_301_1405 : iRow 301 1405 = some (.pop, 0, 0, 0, (some (Jvm.ClassFile.FieldType.boolean))) := rfl
set_option maxRecDepth 20000 in
theorem i_301_1406 : iRow 301 1406 = some (.aload_n 2, 0, 0, 0, (some (Jvm.ClassFile.FieldType.boolean))) := rfl
set_option maxRecDepth 20000 in
theorem i_301_1407 : iRow 301 1407 = some (.invokevirtual 224, 257, 170, 1, (some (Jvm.ClassFile.FieldType.boolean))) := rfl
set_option maxRecDepth 20000 in
theorem i_301_1410 : iRow 301 1410 = some (.pop, 0, 0, 0, (some (Jvm.ClassFile.FieldType.boolean))) := rfl
set_option maxRecDepth 20000 in
theorem i_301_1411 : iRow 301 1411 = some (.goto 28, 0, 0, 0, (some (Jvm.ClassFile.FieldType.boolean))) := rfl
set_option maxRecDepth 20000 in
theorem i_301_1439 : iRow 301 1439 = some (.iinc 4 7, 0, 0, 0, (some (Jvm.ClassFile.FieldType.boolean))) := rfl
set_option maxRecDepth 20000 in
theorem i_301_1442 : iRow 301 1442 = some (.goto (-1419), 0, 0, 0, (some (Jvm.ClassFile.FieldType.boolean))) := rfl
def j_tape (es : PH) : Prop := ∀ k, k < 400 → (gA es 2 k).toInt = zU8 (gA es 82 k).toInt
def c_tape : List aMod := [(2, 0, 0, 400), (82, 0, 0, 400)]
theorem kp_tape {Mo : List aMod} {es es' : PH} (h : fr Mo es es') (hs : sh es) (hM : Mo.all (mFree c_tape) = true) (hj : j_tape es) : j_tape es' := by
  have q0 := (fun k h1 h2 => fr_gA h hs (p := 2) (t := 0) (n := 400) rfl (by decide) (mIn_free hM (lo := 0) (hi := 400) (by decide) h1 h2) : ∀ k, 0 ≤ k → k < 400 → gA es' 2 k = gA es 2 k)
  have q1 := (fun k h1 h2 => fr_gA h hs (p := 82) (t := 2) (n := 400) rfl (by decide) (mIn_free hM (lo := 0) (hi := 400) (by decide) h1 h2) : ∀ k, 0 ≤ k → k < 400 → gA es' 82 k = gA es 82 k)
  intro k hk
  rw [q0 k (Nat.zero_le k) hk, q1 k (Nat.zero_le k) hk]
  exact hj k hk
def j_size (es : PH) : Prop := gI es 1 1 = gI es 79 5
def c_size : List aMod := [(1, 3, 0, 1), (79, 7, 0, 1)]
theorem kp_size {Mo : List aMod} {es es' : PH} (h : fr Mo es es') (hs : sh es) (hM : Mo.all (mFree c_size) = true) (hj : j_size es) : j_size es' := by
  have q0 := (fr_gI h hs (p := 1) (b := 1) rfl (mIn_free hM (lo := 0) (hi := 1) (by decide) (Nat.le_refl 0) (by omega)) : gI es' 1 1 = gI es 1 1)
  have q1 := (fr_gI h hs (p := 79) (b := 5) rfl (mIn_free hM (lo := 0) (hi := 1) (by decide) (Nat.le_refl 0) (by omega)) : gI es' 79 5 = gI es 79 5)
  show gI es' 1 1 = gI es' 79 5
  rw [q0, q1]
  exact hj
def j_flag (es : PH) : Prop := gI es 0 9 = gI es 79 3
def c_flag : List aMod := [(0, 11, 0, 1), (79, 5, 0, 1)]
theorem kp_flag {Mo : List aMod} {es es' : PH} (h : fr Mo es es') (hs : sh es) (hM : Mo.all (mFree c_flag) = true) (hj : j_flag es) : j_flag es' := by
  have q0 := (fr_gI h hs (p := 0) (b := 9) rfl (mIn_free hM (lo := 0) (hi := 1) (by decide) (Nat.le_refl 0) (by omega)) : gI es' 0 9 = gI es 0 9)
  have q1 := (fr_gI h hs (p := 79) (b := 3) rfl (mIn_free hM (lo := 0) (hi := 1) (by decide) (Nat.le_refl 0) (by omega)) : gI es' 79 3 = gI es 79 3)
  show gI es' 0 9 = gI es' 79 3
  rw [q0, q1]
  exact hj
def j_kinds (es : PH) : Prop := gI es 7 0 = gA es 80 0
def c_kinds : List aMod := [(7, 2, 0, 1), (80, 0, 0, 1)]
theorem kp_kinds {Mo : List aMod} {es es' : PH} (h : fr Mo es es') (hs : sh es) (hM : Mo.all (mFree c_kinds) = true) (hj : j_kinds es) : j_kinds es' := by
  have q0 := (fr_gI h hs (p := 7) (b := 0) rfl (mIn_free hM (lo := 0) (hi := 1) (by decide) (Nat.le_refl 0) (by omega)) : gI es' 7 0 = gI es 7 0)
  have q1 := (fun k h1 h2 => fr_gA h hs (p := 80) (t := 0) (n := 2125) (sp := tS80) rfl (by decide) (mIn_free hM (lo := 0) (hi := 1) (by decide) h1 h2) : ∀ k, 0 ≤ k → k < 1 → gA es' 80 k = gA es 80 k)
  show gI es' 7 0 = gA es' 80 0
  rw [q0, q1 0 (Nat.le_refl 0) (by omega)]
  exact hj
def j_kindsI (es : PH) : Prop := (gI es 79 3).toInt ≠ 0 → gI es 18 0 = gA es 81 0
def c_kindsI : List aMod := [(18, 2, 0, 1), (81, 0, 0, 1), (79, 5, 0, 1)]
theorem kp_kindsI {Mo : List aMod} {es es' : PH} (h : fr Mo es es') (hs : sh es) (hM : Mo.all (mFree c_kindsI) = true) (hj : j_kindsI es) : j_kindsI es' := by
  have q0 := (fr_gI h hs (p := 18) (b := 0) rfl (mIn_free hM (lo := 0) (hi := 1) (by decide) (Nat.le_refl 0) (by omega)) : gI es' 18 0 = gI es 18 0)
  have q1 := (fun k h1 h2 => fr_gA h hs (p := 81) (t := 0) (n := 1284) (sp := tS81) rfl (by decide) (mIn_free hM (lo := 0) (hi := 1) (by decide) h1 h2) : ∀ k, 0 ≤ k → k < 1 → gA es' 81 k = gA es 81 k)
  have q2 := (fr_gI h hs (p := 79) (b := 3) rfl (mIn_free hM (lo := 0) (hi := 1) (by decide) (Nat.le_refl 0) (by omega)) : gI es' 79 3 = gI es 79 3)
  intro hf
  rw [q2] at hf
  rw [q0, q1 0 (Nat.le_refl 0) (by omega)]
  exact hj hf
def j_lines (es : PH) : Prop := lnT (gA es 9) (gA es 10) (gA es 80)
def c_lines : List aMod := [(9, 0, 0, 5), (10, 0, 0, 60), (80, 0, 49, 119)]
theorem kp_lines {Mo : List aMod} {es es' : PH} (h : fr Mo es es') (hs : sh es) (hM : Mo.all (mFree c_lines) = true) (hj : j_lines es) : j_lines es' := by
  have q0 := (fun k h1 h2 => fr_gA h hs (p := 9) (t := 0) (n := 5) rfl (by decide) (mIn_free hM (lo := 0) (hi := 5) (by decide) h1 h2) : ∀ k, 0 ≤ k → k < 5 → gA es' 9 k = gA es 9 k)
  have q1 := (fun k h1 h2 => fr_gA h hs (p := 10) (t := 0) (n := 60) rfl (by decide) (mIn_free hM (lo := 0) (hi := 60) (by decide) h1 h2) : ∀ k, 0 ≤ k → k < 60 → gA es' 10 k = gA es 10 k)
  have q2 := (fun k h1 h2 => fr_gA h hs (p := 80) (t := 0) (n := 2125) (sp := tS80) rfl (by decide) (mIn_free hM (lo := 49) (hi := 119) (by decide) h1 h2) : ∀ k, 49 ≤ k → k < 119 → gA es' 80 k = gA es 80 k)
  exact lnT_c hj (fun k hk => q0 k (Nat.zero_le k) hk) (fun k hk => q1 k (Nat.zero_le k) hk) q2
def j_linesI (es : PH) : Prop := (gI es 79 3).toInt ≠ 0 → lnT (gA es 20) (gA es 21) (gA es 81)
def c_linesI : List aMod := [(20, 0, 0, 5), (21, 0, 0, 60), (81, 0, 49, 119), (79, 5, 0, 1)]
theorem kp_linesI {Mo : List aMod} {es es' : PH} (h : fr Mo es es') (hs : sh es) (hM : Mo.all (mFree c_linesI) = true) (hj : j_linesI es) : j_linesI es' := by
  have q0 := (fun k h1 h2 => fr_gA h hs (p := 20) (t := 0) (n := 5) rfl (by decide) (mIn_free hM (lo := 0) (hi := 5) (by decide) h1 h2) : ∀ k, 0 ≤ k → k < 5 → gA es' 20 k = gA es 20 k)
  have q1 := (fun k h1 h2 => fr_gA h hs (p := 21) (t := 0) (n := 60) rfl (by decide) (mIn_free hM (lo := 0) (hi := 60) (by decide) h1 h2) : ∀ k, 0 ≤ k → k < 60 → gA es' 21 k = gA es 21 k)
  have q2 := (fun k h1 h2 => fr_gA h hs (p := 81) (t := 0) (n := 1284) (sp := tS81) rfl (by decide) (mIn_free hM (lo := 49) (hi := 119) (by decide) h1 h2) : ∀ k, 49 ≤ k → k < 119 → gA es' 81 k = gA es 81 k)
  have q3 := (fr_gI h hs (p := 79) (b := 3) rfl (mIn_free hM (lo := 0) (hi := 1) (by decide) (Nat.le_refl 0) (by omega)) : gI es' 79 3 = gI es 79 3)
  intro hf
  rw [q3] at hf
  exact lnT_c (hj hf) (fun k hk => q0 k (Nat.zero_le k) hk) (fun k hk => q1 k (Nat.zero_le k) hk) q2
def j_start (es : PH) : Prop := stT (gA es 11) (gA es 80)
def c_start : List aMod := [(11, 0, 0, 36), (80, 0, 13, 49)]
theorem kp_start {Mo : List aMod} {es es' : PH} (h : fr Mo es es') (hs : sh es) (hM : Mo.all (mFree c_start) = true) (hj : j_start es) : j_start es' := by
  have q0 := (fun k h1 h2 => fr_gA h hs (p := 11) (t := 0) (n := 36) rfl (by decide) (mIn_free hM (lo := 0) (hi := 36) (by decide) h1 h2) : ∀ k, 0 ≤ k → k < 36 → gA es' 11 k = gA es 11 k)
  have q1 := (fun k h1 h2 => fr_gA h hs (p := 80) (t := 0) (n := 2125) (sp := tS80) rfl (by decide) (mIn_free hM (lo := 13) (hi := 49) (by decide) h1 h2) : ∀ k, 13 ≤ k → k < 49 → gA es' 80 k = gA es 80 k)
  exact stT_c hj (fun k hk => q0 k (Nat.zero_le k) hk) q1
def j_startI (es : PH) : Prop := (gI es 79 3).toInt ≠ 0 → stT (gA es 22) (gA es 81)
def c_startI : List aMod := [(22, 0, 0, 36), (81, 0, 13, 49), (79, 5, 0, 1)]
theorem kp_startI {Mo : List aMod} {es es' : PH} (h : fr Mo es es') (hs : sh es) (hM : Mo.all (mFree c_startI) = true) (hj : j_startI es) : j_startI es' := by
  have q0 := (fun k h1 h2 => fr_gA h hs (p := 22) (t := 0) (n := 36) rfl (by decide) (mIn_free hM (lo := 0) (hi := 36) (by decide) h1 h2) : ∀ k, 0 ≤ k → k < 36 → gA es' 22 k = gA es 22 k)
  have q1 := (fun k h1 h2 => fr_gA h hs (p := 81) (t := 0) (n := 1284) (sp := tS81) rfl (by decide) (mIn_free hM (lo := 13) (hi := 49) (by decide) h1 h2) : ∀ k, 13 ≤ k → k < 49 → gA es' 81 k = gA es 81 k)
  have q2 := (fr_gI h hs (p := 79) (b := 3) rfl (mIn_free hM (lo := 0) (hi := 1) (by decide) (Nat.le_refl 0) (by omega)) : gI es' 79 3 = gI es 79 3)
  intro hf
  rw [q2] at hf
  exact stT_c (hj hf) (fun k hk => q0 k (Nat.zero_le k) hk) q1
def j_books (es : PH) : Prop := gI es 7 5 = gA es 80 1
def c_books : List aMod := [(7, 7, 0, 1), (80, 0, 1, 2)]
theorem kp_books {Mo : List aMod} {es es' : PH} (h : fr Mo es es') (hs : sh es) (hM : Mo.all (mFree c_books) = true) (hj : j_books es) : j_books es' := by
  have q0 := (fr_gI h hs (p := 7) (b := 5) rfl (mIn_free hM (lo := 0) (hi := 1) (by decide) (Nat.le_refl 0) (by omega)) : gI es' 7 5 = gI es 7 5)
  have q1 := (fun k h1 h2 => fr_gA h hs (p := 80) (t := 0) (n := 2125) (sp := tS80) rfl (by decide) (mIn_free hM (lo := 1) (hi := 2) (by decide) h1 h2) : ∀ k, 1 ≤ k → k < 2 → gA es' 80 k = gA es 80 k)
  show gI es' 7 5 = gA es' 80 1
  rw [q0, q1 1 (Nat.le_refl 1) (by omega)]
  exact hj
def j_booksI (es : PH) : Prop := (gI es 79 3).toInt ≠ 0 → gI es 18 5 = gA es 81 1
def c_booksI : List aMod := [(18, 7, 0, 1), (81, 0, 1, 2), (79, 5, 0, 1)]
theorem kp_booksI {Mo : List aMod} {es es' : PH} (h : fr Mo es es') (hs : sh es) (hM : Mo.all (mFree c_booksI) = true) (hj : j_booksI es) : j_booksI es' := by
  have q0 := (fr_gI h hs (p := 18) (b := 5) rfl (mIn_free hM (lo := 0) (hi := 1) (by decide) (Nat.le_refl 0) (by omega)) : gI es' 18 5 = gI es 18 5)
  have q1 := (fun k h1 h2 => fr_gA h hs (p := 81) (t := 0) (n := 1284) (sp := tS81) rfl (by decide) (mIn_free hM (lo := 1) (hi := 2) (by decide) h1 h2) : ∀ k, 1 ≤ k → k < 2 → gA es' 81 k = gA es 81 k)
  have q2 := (fr_gI h hs (p := 79) (b := 3) rfl (mIn_free hM (lo := 0) (hi := 1) (by decide) (Nat.le_refl 0) (by omega)) : gI es' 79 3 = gI es 79 3)
  intro hf
  rw [q2] at hf
  rw [q0, q1 1 (Nat.le_refl 1) (by omega)]
  exact hj hf
def j_stK (es : PH) : Prop := ∀ k, k < 36 → (gA es 11 k).toInt ≤ 2 * (gI es 7 0).toInt
def c_stK : List aMod := [(11, 0, 0, 36), (7, 2, 0, 1)]
theorem kp_stK {Mo : List aMod} {es es' : PH} (h : fr Mo es es') (hs : sh es) (hM : Mo.all (mFree c_stK) = true) (hj : j_stK es) : j_stK es' := by
  have q0 := (fun k h1 h2 => fr_gA h hs (p := 11) (t := 0) (n := 36) rfl (by decide) (mIn_free hM (lo := 0) (hi := 36) (by decide) h1 h2) : ∀ k, 0 ≤ k → k < 36 → gA es' 11 k = gA es 11 k)
  have q1 := (fr_gI h hs (p := 7) (b := 0) rfl (mIn_free hM (lo := 0) (hi := 1) (by decide) (Nat.le_refl 0) (by omega)) : gI es' 7 0 = gI es 7 0)
  intro k hk
  rw [q0 k (Nat.zero_le k) hk, q1]
  exact hj k hk
def j_stKI (es : PH) : Prop := (gI es 79 3).toInt ≠ 0 → ∀ k, k < 36 → (gA es 22 k).toInt ≤ 2 * (gI es 18 0).toInt
def c_stKI : List aMod := [(22, 0, 0, 36), (18, 2, 0, 1), (79, 5, 0, 1)]
theorem kp_stKI {Mo : List aMod} {es es' : PH} (h : fr Mo es es') (hs : sh es) (hM : Mo.all (mFree c_stKI) = true) (hj : j_stKI es) : j_stKI es' := by
  have q0 := (fun k h1 h2 => fr_gA h hs (p := 22) (t := 0) (n := 36) rfl (by decide) (mIn_free hM (lo := 0) (hi := 36) (by decide) h1 h2) : ∀ k, 0 ≤ k → k < 36 → gA es' 22 k = gA es 22 k)
  have q1 := (fr_gI h hs (p := 18) (b := 0) rfl (mIn_free hM (lo := 0) (hi := 1) (by decide) (Nat.le_refl 0) (by omega)) : gI es' 18 0 = gI es 18 0)
  have q2 := (fr_gI h hs (p := 79) (b := 3) rfl (mIn_free hM (lo := 0) (hi := 1) (by decide) (Nat.le_refl 0) (by omega)) : gI es' 79 3 = gI es 79 3)
  intro hf k hk
  rw [q2] at hf
  rw [q0 k (Nat.zero_le k) hk, q1]
  exact hj hf k hk
def j_notes (es : PH) : Prop := bkT (gA es 12) (gA es 13) (gA es 14) (gA es 80) (gI es 7 5).toInt
def c_notes : List aMod := [(12, 0, 0, 3), (13, 0, 0, 3), (14, 0, 0, 288), (80, 0, 119, 413), (7, 7, 0, 1)]
theorem kp_notes {Mo : List aMod} {es es' : PH} (h : fr Mo es es') (hs : sh es) (hM : Mo.all (mFree c_notes) = true) (hj : j_notes es) : j_notes es' := by
  have q0 := (fun k h1 h2 => fr_gA h hs (p := 12) (t := 0) (n := 3) rfl (by decide) (mIn_free hM (lo := 0) (hi := 3) (by decide) h1 h2) : ∀ k, 0 ≤ k → k < 3 → gA es' 12 k = gA es 12 k)
  have q1 := (fun k h1 h2 => fr_gA h hs (p := 13) (t := 0) (n := 3) rfl (by decide) (mIn_free hM (lo := 0) (hi := 3) (by decide) h1 h2) : ∀ k, 0 ≤ k → k < 3 → gA es' 13 k = gA es 13 k)
  have q2 := (fun k h1 h2 => fr_gA h hs (p := 14) (t := 0) (n := 288) rfl (by decide) (mIn_free hM (lo := 0) (hi := 288) (by decide) h1 h2) : ∀ k, 0 ≤ k → k < 288 → gA es' 14 k = gA es 14 k)
  have q3 := (fun k h1 h2 => fr_gA h hs (p := 80) (t := 0) (n := 2125) (sp := tS80) rfl (by decide) (mIn_free hM (lo := 119) (hi := 413) (by decide) h1 h2) : ∀ k, 119 ≤ k → k < 413 → gA es' 80 k = gA es 80 k)
  have q4 := (fr_gI h hs (p := 7) (b := 5) rfl (mIn_free hM (lo := 0) (hi := 1) (by decide) (Nat.le_refl 0) (by omega)) : gI es' 7 5 = gI es 7 5)
  show bkT _ _ _ _ (gI es' 7 5).toInt
  rw [q4]
  exact bkT_c hj (fun k hk => q0 k (Nat.zero_le k) hk) (fun k hk => q1 k (Nat.zero_le k) hk) (fun k hk => q2 k (Nat.zero_le k) hk) q3
def j_notesI (es : PH) : Prop := (gI es 79 3).toInt ≠ 0 → bkT (gA es 23) (gA es 24) (gA es 25) (gA es 81) (gI es 18 5).toInt
def c_notesI : List aMod := [(23, 0, 0, 3), (24, 0, 0, 3), (25, 0, 0, 288), (81, 0, 119, 413), (18, 7, 0, 1), (79, 5, 0, 1)]
theorem kp_notesI {Mo : List aMod} {es es' : PH} (h : fr Mo es es') (hs : sh es) (hM : Mo.all (mFree c_notesI) = true) (hj : j_notesI es) : j_notesI es' := by
  have q0 := (fun k h1 h2 => fr_gA h hs (p := 23) (t := 0) (n := 3) rfl (by decide) (mIn_free hM (lo := 0) (hi := 3) (by decide) h1 h2) : ∀ k, 0 ≤ k → k < 3 → gA es' 23 k = gA es 23 k)
  have q1 := (fun k h1 h2 => fr_gA h hs (p := 24) (t := 0) (n := 3) rfl (by decide) (mIn_free hM (lo := 0) (hi := 3) (by decide) h1 h2) : ∀ k, 0 ≤ k → k < 3 → gA es' 24 k = gA es 24 k)
  have q2 := (fun k h1 h2 => fr_gA h hs (p := 25) (t := 0) (n := 288) rfl (by decide) (mIn_free hM (lo := 0) (hi := 288) (by decide) h1 h2) : ∀ k, 0 ≤ k → k < 288 → gA es' 25 k = gA es 25 k)
  have q3 := (fun k h1 h2 => fr_gA h hs (p := 81) (t := 0) (n := 1284) (sp := tS81) rfl (by decide) (mIn_free hM (lo := 119) (hi := 413) (by decide) h1 h2) : ∀ k, 119 ≤ k → k < 413 → gA es' 81 k = gA es 81 k)
  have q4 := (fr_gI h hs (p := 18) (b := 5) rfl (mIn_free hM (lo := 0) (hi := 1) (by decide) (Nat.le_refl 0) (by omega)) : gI es' 18 5 = gI es 18 5)
  have q5 := (fr_gI h hs (p := 79) (b := 3) rfl (mIn_free hM (lo := 0) (hi := 1) (by decide) (Nat.le_refl 0) (by omega)) : gI es' 79 3 = gI es 79 3)
  intro hf
  rw [q5] at hf
  rw [q4]
  exact bkT_c (hj hf) (fun k hk => q0 k (Nat.zero_le k) hk) (fun k hk => q1 k (Nat.zero_le k) hk) (fun k hk => q2 k (Nat.zero_le k) hk) q3
/-- what holds between both sides, ahead of every call -/
def J (es : PH) : Prop := j_tape es ∧ j_size es ∧ j_flag es ∧ j_kinds es ∧ j_kindsI es ∧ j_lines es ∧ j_linesI es ∧ j_start es ∧ j_startI es ∧ j_books es ∧ j_booksI es ∧ j_stK es ∧ j_stKI es ∧ j_notes es ∧ j_notesI es
theorem jMo_free : lawMoJ.all (mFree jProt) = true := by decide +kernel
theorem J_fr {es es' : PH} (hT : hOK tT es) (hf : fr lawMoJ es es') (hJ : J es) : J es' := by
  have hs := sh_of hT
  obtain ⟨j0, j1, j2, j3, j4, j5, j6, j7, j8, j9, j10, j11, j12, j13, j14⟩ := hJ
  exact ⟨kp_tape hf hs (free_sub jMo_free (by decide)) j0, kp_size hf hs (free_sub jMo_free (by decide)) j1, kp_flag hf hs (free_sub jMo_free (by decide)) j2, kp_kinds hf hs (free_sub jMo_free (by decide)) j3, kp_kindsI hf hs (free_sub jMo_free (by decide)) j4, kp_lines hf hs (free_sub jMo_free (by decide)) j5, kp_linesI hf hs (free_sub jMo_free (by decide)) j6, kp_start hf hs (free_sub jMo_free (by decide)) j7, kp_startI hf hs (free_sub jMo_free (by decide)) j8, kp_books hf hs (free_sub jMo_free (by decide)) j9, kp_booksI hf hs (free_sub jMo_free (by decide)) j10, kp_stK hf hs (free_sub jMo_free (by decide)) j11, kp_stKI hf hs (free_sub jMo_free (by decide)) j12, kp_notes hf hs (free_sub jMo_free (by decide)) j13, kp_notesI hf hs (free_sub jMo_free (by decide)) j14⟩
theorem J_start {es : PH} (h : startF es) : J es := by
  obtain ⟨f0, f1, f2, f3, f4, f5, f6, f7, f8, f9, f10, f11, f12, f13⟩ := h
  exact ⟨(fun k hk => by rw [f0 k hk, f1 k hk]; rfl : j_tape es), (by show gI es 1 1 = gI es 79 5; rw [f2, f3] : j_size es), (by show gI es 0 9 = gI es 79 3; rw [f4, f5] : j_flag es), (by show gI es 7 0 = gA es 80 0; rw [f6, f7] : j_kinds es), (fun hf => by rw [f5] at hf; exact absurd rfl hf : j_kindsI es), (fun k hk => by rw [f8 k hk, show 49 + 14 * k + 1 = 50 + 14 * k by omega, f9 k hk]; exact ⟨rfl, by decide, fun n hn => absurd (show (n : Int) < 0 from hn) (by omega)⟩ : j_lines es), (fun hf => by rw [f5] at hf; exact absurd rfl hf : j_linesI es), (fun k hk => by rw [f10 k hk, f11 k hk]; rfl : j_start es), (fun hf => by rw [f5] at hf; exact absurd rfl hf : j_startI es), (by show gI es 7 5 = gA es 80 1; rw [f12, f13] : j_books es), (fun hf => by rw [f5] at hf; exact absurd rfl hf : j_booksI es), (fun k hk => by rw [f10 k hk, f6]; decide : j_stK es), (fun hf => by rw [f5] at hf; exact absurd rfl hf : j_stKI es), (fun b hb hn => by rw [f12] at hn; exact absurd (show (b : Int) < 0 from hn) (by omega) : j_notes es), (fun hf => by rw [f5] at hf; exact absurd rfl hf : j_notesI es)⟩
theorem s_l0a {O : pOut} {d kc ks : Nat} {Q : pRes → Prop} {es : PH} {xs : Nat → Int32} {n0 : Nat} {i : Int} {x5 x6 x7 : Option Value} (hs_es : sh es) (h_i : 0 ≤ i ∧ i + 7 ≤ (n0 : Int)) (hn0 : n0 ≤ 3584) (hO : O 7 = some (n0, xs))
    (K1 : ∀ v1 : Int, v1 = (xs (i + 1).toNat).toInt → ∀ v2 : Int, v2 = (xs (i + 2).toNat).toInt → ∀ v3 : Int, v3 = (xs (i + 3).toNat).toInt → ∀ v4 : Int, v4 = (xs (i + 4).toNat).toInt → ∀ v5 : Int, v5 = (xs (i + 5).toNat).toInt → aW O d 301 kc ks Q (219, [some (.ref 7), some (.ref 64), some (.ref 143), some (.ref 171), some (.int (zI i)), x5, x6, x7], [.int (zI v5), .int (zI v4), .int (zI v3), .int (zI v2), .int (zI v1), .ref 64], es)) :
    aW O d 301 kc ks Q (188, [some (.ref 7), some (.ref 64), some (.ref 143), some (.ref 171), some (.int (zI i)), x5, x6, x7], [], es) := by
  refine x0 (r := (189, [some (.ref 7), some (.ref 64), some (.ref 143), some (.ref 171), some (.int (zI i)), x5, x6, x7], [.ref 64], es)) i_301_188 rfl ?_
  refine x0 (r := (190, [some (.ref 7), some (.ref 64), some (.ref 143), some (.ref 171), some (.int (zI i)), x5, x6, x7], [.ref 7, .ref 64], es)) i_301_189 rfl ?_
  refine x0 (r := (192, [some (.ref 7), some (.ref 64), some (.ref 143), some (.ref 171), some (.int (zI i)), x5, x6, x7], [.int (zI i), .ref 7, .ref 64], es)) i_301_190 rfl ?_
  refine x0 (r := (193, [some (.ref 7), some (.ref 64), some (.ref 143), some (.ref 171), some (.int (zI i)), x5, x6, x7], [.int (zI 1), .int (zI i), .ref 7, .ref 64], es)) i_301_192 (by rfl) ?_
  refine x_iadd i_301_193 ?_
  refine x_oald (n := n0) (g := xs) i_301_194 hO (by unfold i32 iLO iHI; omega) (by omega) (by omega) ?_
  obtain ⟨v1, e_v1⟩ : ∃ z : Int, z = (xs (i + 1).toNat).toInt := ⟨_, rfl⟩
  rw [← e_v1]
  have r_v1 : iLO ≤ v1 ∧ v1 ≤ iHI := by rw [e_v1]; exact i32_rng _
  unfold iLO iHI at r_v1
  refine x0 (r := (196, [some (.ref 7), some (.ref 64), some (.ref 143), some (.ref 171), some (.int (zI i)), x5, x6, x7], [.ref 7, .int (zI v1), .ref 64], es)) i_301_195 rfl ?_
  refine x0 (r := (198, [some (.ref 7), some (.ref 64), some (.ref 143), some (.ref 171), some (.int (zI i)), x5, x6, x7], [.int (zI i), .ref 7, .int (zI v1), .ref 64], es)) i_301_196 rfl ?_
  refine x0 (r := (199, [some (.ref 7), some (.ref 64), some (.ref 143), some (.ref 171), some (.int (zI i)), x5, x6, x7], [.int (zI 2), .int (zI i), .ref 7, .int (zI v1), .ref 64], es)) i_301_198 (by rfl) ?_
  refine x_iadd i_301_199 ?_
  refine x_oald (n := n0) (g := xs) i_301_200 hO (by unfold i32 iLO iHI; omega) (by omega) (by omega) ?_
  obtain ⟨v2, e_v2⟩ : ∃ z : Int, z = (xs (i + 2).toNat).toInt := ⟨_, rfl⟩
  rw [← e_v2]
  have r_v2 : iLO ≤ v2 ∧ v2 ≤ iHI := by rw [e_v2]; exact i32_rng _
  unfold iLO iHI at r_v2
  refine x0 (r := (202, [some (.ref 7), some (.ref 64), some (.ref 143), some (.ref 171), some (.int (zI i)), x5, x6, x7], [.ref 7, .int (zI v2), .int (zI v1), .ref 64], es)) i_301_201 rfl ?_
  refine x0 (r := (204, [some (.ref 7), some (.ref 64), some (.ref 143), some (.ref 171), some (.int (zI i)), x5, x6, x7], [.int (zI i), .ref 7, .int (zI v2), .int (zI v1), .ref 64], es)) i_301_202 rfl ?_
  refine x0 (r := (205, [some (.ref 7), some (.ref 64), some (.ref 143), some (.ref 171), some (.int (zI i)), x5, x6, x7], [.int (zI 3), .int (zI i), .ref 7, .int (zI v2), .int (zI v1), .ref 64], es)) i_301_204 (by rfl) ?_
  refine x_iadd i_301_205 ?_
  refine x_oald (n := n0) (g := xs) i_301_206 hO (by unfold i32 iLO iHI; omega) (by omega) (by omega) ?_
  obtain ⟨v3, e_v3⟩ : ∃ z : Int, z = (xs (i + 3).toNat).toInt := ⟨_, rfl⟩
  rw [← e_v3]
  have r_v3 : iLO ≤ v3 ∧ v3 ≤ iHI := by rw [e_v3]; exact i32_rng _
  unfold iLO iHI at r_v3
  refine x0 (r := (208, [some (.ref 7), some (.ref 64), some (.ref 143), some (.ref 171), some (.int (zI i)), x5, x6, x7], [.ref 7, .int (zI v3), .int (zI v2), .int (zI v1), .ref 64], es)) i_301_207 rfl ?_
  refine x0 (r := (210, [some (.ref 7), some (.ref 64), some (.ref 143), some (.ref 171), some (.int (zI i)), x5, x6, x7], [.int (zI i), .ref 7, .int (zI v3), .int (zI v2), .int (zI v1), .ref 64], es)) i_301_208 rfl ?_
  refine x0 (r := (211, [some (.ref 7), some (.ref 64), some (.ref 143), some (.ref 171), some (.int (zI i)), x5, x6, x7], [.int (zI 4), .int (zI i), .ref 7, .int (zI v3), .int (zI v2), .int (zI v1), .ref 64], es)) i_301_210 (by rfl) ?_
  refine x_iadd i_301_211 ?_
  refine x_oald (n := n0) (g := xs) i_301_212 hO (by unfold i32 iLO iHI; omega) (by omega) (by omega) ?_
  obtain ⟨v4, e_v4⟩ : ∃ z : Int, z = (xs (i + 4).toNat).toInt := ⟨_, rfl⟩
  rw [← e_v4]
  have r_v4 : iLO ≤ v4 ∧ v4 ≤ iHI := by rw [e_v4]; exact i32_rng _
  unfold iLO iHI at r_v4
  refine x0 (r := (214, [some (.ref 7), some (.ref 64), some (.ref 143), some (.ref 171), some (.int (zI i)), x5, x6, x7], [.ref 7, .int (zI v4), .int (zI v3), .int (zI v2), .int (zI v1), .ref 64], es)) i_301_213 rfl ?_
  refine x0 (r := (216, [some (.ref 7), some (.ref 64), some (.ref 143), some (.ref 171), some (.int (zI i)), x5, x6, x7], [.int (zI i), .ref 7, .int (zI v4), .int (zI v3), .int (zI v2), .int (zI v1), .ref 64], es)) i_301_214 rfl ?_
  refine x0 (r := (217, [some (.ref 7), some (.ref 64), some (.ref 143), some (.ref 171), some (.int (zI i)), x5, x6, x7], [.int (zI 5), .int (zI i), .ref 7, .int (zI v4), .int (zI v3), .int (zI v2), .int (zI v1), .ref 64], es)) i_301_216 (by rfl) ?_
  refine x_iadd i_301_217 ?_
  refine x_oald (n := n0) (g := xs) i_301_218 hO (by unfold i32 iLO iHI; omega) (by omega) (by omega) ?_
  obtain ⟨v5, e_v5⟩ : ∃ z : Int, z = (xs (i + 5).toNat).toInt := ⟨_, rfl⟩
  rw [← e_v5]
  have r_v5 : iLO ≤ v5 ∧ v5 ≤ iHI := by rw [e_v5]; exact i32_rng _
  unfold iLO iHI at r_v5
  exact K1 v1 e_v1 v2 e_v2 v3 e_v3 v4 e_v4 v5 e_v5
theorem s_l0b {O : pOut} {d kc ks : Nat} {Q : pRes → Prop} {es : PH} {xs : Nat → Int32} {n0 : Nat} {i k : Int} {x5 x6 x7 : Option Value} (hs_es : sh es) (h_i : 0 ≤ i ∧ i + 7 ≤ (n0 : Int)) (hn0 : n0 ≤ 3584) (hO : O 7 = some (n0, xs))
    (K1 : ∀ v1 : Int, v1 = (xs (i + 1).toNat).toInt → ∀ v2 : Int, v2 = (xs (i + 2).toNat).toInt → ∀ v3 : Int, v3 = (xs (i + 3).toNat).toInt → ∀ v4 : Int, v4 = (xs (i + 4).toNat).toInt → ∀ v5 : Int, v5 = (xs (i + 5).toNat).toInt → aW O d 301 kc ks Q (254, [some (.ref 7), some (.ref 64), some (.ref 143), some (.ref 171), some (.int (zI i)), x5, x6, x7], [.int (zI v5), .int (zI v4), .int (zI v3), .int (zI v2), .int (zI v1), .ref 143], es)) :
    aW O d 301 kc ks Q (222, [some (.ref 7), some (.ref 64), some (.ref 143), some (.ref 171), some (.int (zI i)), x5, x6, x7], [.int (zI k)], es) := by
  refine x0 (r := (223, [some (.ref 7), some (.ref 64), some (.ref 143), some (.ref 171), some (.int (zI i)), x5, x6, x7], [], es)) i_301_222 rfl ?_
  refine x0 (r := (224, [some (.ref 7), some (.ref 64), some (.ref 143), some (.ref 171), some (.int (zI i)), x5, x6, x7], [.ref 143], es)) i_301_223 rfl ?_
  refine x0 (r := (225, [some (.ref 7), some (.ref 64), some (.ref 143), some (.ref 171), some (.int (zI i)), x5, x6, x7], [.ref 7, .ref 143], es)) i_301_224 rfl ?_
  refine x0 (r := (227, [some (.ref 7), some (.ref 64), some (.ref 143), some (.ref 171), some (.int (zI i)), x5, x6, x7], [.int (zI i), .ref 7, .ref 143], es)) i_301_225 rfl ?_
  refine x0 (r := (228, [some (.ref 7), some (.ref 64), some (.ref 143), some (.ref 171), some (.int (zI i)), x5, x6, x7], [.int (zI 1), .int (zI i), .ref 7, .ref 143], es)) i_301_227 (by rfl) ?_
  refine x_iadd i_301_228 ?_
  refine x_oald (n := n0) (g := xs) i_301_229 hO (by unfold i32 iLO iHI; omega) (by omega) (by omega) ?_
  obtain ⟨v1, e_v1⟩ : ∃ z : Int, z = (xs (i + 1).toNat).toInt := ⟨_, rfl⟩
  rw [← e_v1]
  have r_v1 : iLO ≤ v1 ∧ v1 ≤ iHI := by rw [e_v1]; exact i32_rng _
  unfold iLO iHI at r_v1
  refine x0 (r := (231, [some (.ref 7), some (.ref 64), some (.ref 143), some (.ref 171), some (.int (zI i)), x5, x6, x7], [.ref 7, .int (zI v1), .ref 143], es)) i_301_230 rfl ?_
  refine x0 (r := (233, [some (.ref 7), some (.ref 64), some (.ref 143), some (.ref 171), some (.int (zI i)), x5, x6, x7], [.int (zI i), .ref 7, .int (zI v1), .ref 143], es)) i_301_231 rfl ?_
  refine x0 (r := (234, [some (.ref 7), some (.ref 64), some (.ref 143), some (.ref 171), some (.int (zI i)), x5, x6, x7], [.int (zI 2), .int (zI i), .ref 7, .int (zI v1), .ref 143], es)) i_301_233 (by rfl) ?_
  refine x_iadd i_301_234 ?_
  refine x_oald (n := n0) (g := xs) i_301_235 hO (by unfold i32 iLO iHI; omega) (by omega) (by omega) ?_
  obtain ⟨v2, e_v2⟩ : ∃ z : Int, z = (xs (i + 2).toNat).toInt := ⟨_, rfl⟩
  rw [← e_v2]
  have r_v2 : iLO ≤ v2 ∧ v2 ≤ iHI := by rw [e_v2]; exact i32_rng _
  unfold iLO iHI at r_v2
  refine x0 (r := (237, [some (.ref 7), some (.ref 64), some (.ref 143), some (.ref 171), some (.int (zI i)), x5, x6, x7], [.ref 7, .int (zI v2), .int (zI v1), .ref 143], es)) i_301_236 rfl ?_
  refine x0 (r := (239, [some (.ref 7), some (.ref 64), some (.ref 143), some (.ref 171), some (.int (zI i)), x5, x6, x7], [.int (zI i), .ref 7, .int (zI v2), .int (zI v1), .ref 143], es)) i_301_237 rfl ?_
  refine x0 (r := (240, [some (.ref 7), some (.ref 64), some (.ref 143), some (.ref 171), some (.int (zI i)), x5, x6, x7], [.int (zI 3), .int (zI i), .ref 7, .int (zI v2), .int (zI v1), .ref 143], es)) i_301_239 (by rfl) ?_
  refine x_iadd i_301_240 ?_
  refine x_oald (n := n0) (g := xs) i_301_241 hO (by unfold i32 iLO iHI; omega) (by omega) (by omega) ?_
  obtain ⟨v3, e_v3⟩ : ∃ z : Int, z = (xs (i + 3).toNat).toInt := ⟨_, rfl⟩
  rw [← e_v3]
  have r_v3 : iLO ≤ v3 ∧ v3 ≤ iHI := by rw [e_v3]; exact i32_rng _
  unfold iLO iHI at r_v3
  refine x0 (r := (243, [some (.ref 7), some (.ref 64), some (.ref 143), some (.ref 171), some (.int (zI i)), x5, x6, x7], [.ref 7, .int (zI v3), .int (zI v2), .int (zI v1), .ref 143], es)) i_301_242 rfl ?_
  refine x0 (r := (245, [some (.ref 7), some (.ref 64), some (.ref 143), some (.ref 171), some (.int (zI i)), x5, x6, x7], [.int (zI i), .ref 7, .int (zI v3), .int (zI v2), .int (zI v1), .ref 143], es)) i_301_243 rfl ?_
  refine x0 (r := (246, [some (.ref 7), some (.ref 64), some (.ref 143), some (.ref 171), some (.int (zI i)), x5, x6, x7], [.int (zI 4), .int (zI i), .ref 7, .int (zI v3), .int (zI v2), .int (zI v1), .ref 143], es)) i_301_245 (by rfl) ?_
  refine x_iadd i_301_246 ?_
  refine x_oald (n := n0) (g := xs) i_301_247 hO (by unfold i32 iLO iHI; omega) (by omega) (by omega) ?_
  obtain ⟨v4, e_v4⟩ : ∃ z : Int, z = (xs (i + 4).toNat).toInt := ⟨_, rfl⟩
  rw [← e_v4]
  have r_v4 : iLO ≤ v4 ∧ v4 ≤ iHI := by rw [e_v4]; exact i32_rng _
  unfold iLO iHI at r_v4
  refine x0 (r := (249, [some (.ref 7), some (.ref 64), some (.ref 143), some (.ref 171), some (.int (zI i)), x5, x6, x7], [.ref 7, .int (zI v4), .int (zI v3), .int (zI v2), .int (zI v1), .ref 143], es)) i_301_248 rfl ?_
  refine x0 (r := (251, [some (.ref 7), some (.ref 64), some (.ref 143), some (.ref 171), some (.int (zI i)), x5, x6, x7], [.int (zI i), .ref 7, .int (zI v4), .int (zI v3), .int (zI v2), .int (zI v1), .ref 143], es)) i_301_249 rfl ?_
  refine x0 (r := (252, [some (.ref 7), some (.ref 64), some (.ref 143), some (.ref 171), some (.int (zI i)), x5, x6, x7], [.int (zI 5), .int (zI i), .ref 7, .int (zI v4), .int (zI v3), .int (zI v2), .int (zI v1), .ref 143], es)) i_301_251 (by rfl) ?_
  refine x_iadd i_301_252 ?_
  refine x_oald (n := n0) (g := xs) i_301_253 hO (by unfold i32 iLO iHI; omega) (by omega) (by omega) ?_
  obtain ⟨v5, e_v5⟩ : ∃ z : Int, z = (xs (i + 5).toNat).toInt := ⟨_, rfl⟩
  rw [← e_v5]
  have r_v5 : iLO ≤ v5 ∧ v5 ≤ iHI := by rw [e_v5]; exact i32_rng _
  unfold iLO iHI at r_v5
  exact K1 v1 e_v1 v2 e_v2 v3 e_v3 v4 e_v4 v5 e_v5
theorem s_l0c {O : pOut} {d kc ks : Nat} {Q : pRes → Prop} {es : PH} {xs : Nat → Int32} {n0 : Nat} {i b : Int} {x5 x6 x7 : Option Value} (hs_es : sh es) (h_i : 0 ≤ i ∧ i + 7 ≤ (n0 : Int)) (hn0 : n0 ≤ 3584) (hO : O 7 = some (n0, xs)) (h_b : -2147483648 ≤ b ∧ b ≤ 2147483647)
    (K1 : aW O d 301 kc ks Q (23, [some (.ref 7), some (.ref 64), some (.ref 143), some (.ref 171), some (.int (zI (i + 7))), x5, x6, x7], [], es)) :
    aW O d 301 kc ks Q (257, [some (.ref 7), some (.ref 64), some (.ref 143), some (.ref 171), some (.int (zI i)), x5, x6, x7], [.int (zI b)], es) := by
  refine x0 (r := (258, [some (.ref 7), some (.ref 64), some (.ref 143), some (.ref 171), some (.int (zI i)), x5, x6, x7], [], es)) i_301_257 rfl ?_
  refine x0 (r := (1439, [some (.ref 7), some (.ref 64), some (.ref 143), some (.ref 171), some (.int (zI i)), x5, x6, x7], [], es)) i_301_258 rfl ?_
  refine x_iinc (x := i) i_301_1439 rfl (by show 4 < 8; decide) ?_
  show aW _ _ _ _ _ _ (1442, [some (.ref 7), some (.ref 64), some (.ref 143), some (.ref 171), some (.int (zI (i + 7))), x5, x6, x7], [], es)
  refine x0 (r := (23, [some (.ref 7), some (.ref 64), some (.ref 143), some (.ref 171), some (.int (zI (i + 7))), x5, x6, x7], [], es)) i_301_1442 rfl ?_
  exact K1
theorem lh_0 {xs : Nat → Int32} {n : Nat} (hn : n ≤ 3584) {i : Int} {es : PH} {kc ks : Nat} {x5 x6 x7 : Option Value} (h0 : 0 ≤ i) (h7 : i + 7 ≤ (n : Int)) (hT : hOK tT es) (hI : gInv es) (hJ : J es) (K : lawK J xs n i kc ks) : aW (pO0 xs n) 41 301 kc ks lawQ (188, lawL i x5 x6 x7, [], es) := by
  refine s_l0a (d := 41) (n0 := n) (xs := xs) (sh_of hT) ⟨h0, h7⟩ hn rfl (fun v1 e_v1 v2 e_v2 v3 e_v3 v4 e_v4 v5 e_v5 => ?_)
  have b_v1 : i32 v1 := by rw [e_v1]; exact i32_rng _
  have b_v2 : i32 v2 := by rw [e_v2]; exact i32_rng _
  have b_v3 : i32 v3 := by rw [e_v3]; exact i32_rng _
  have b_v4 : i32 v4 := by rw [e_v4]; exact i32_rng _
  have b_v5 : i32 v5 := by rw [e_v5]; exact i32_rng _
  have hJ0 := hJ
  obtain ⟨j_tape_, j_size_, j_flag_, j_kinds_, j_kindsI_, j_lines_, j_linesI_, j_start_, j_startI_, j_books_, j_booksI_, j_stK_, j_stKI_, j_notes_, j_notesI_⟩ := hJ0
  have hz2 : 0 ≤ (gI es 79 5).toInt ∧ (gI es 79 5).toInt ≤ 400 := gI_bd hT (p := 79) (b := 5) rfl rfl
  have hsz : gI es 1 1 = gI es 79 5 := j_size_
  have hz1 : 0 ≤ (gI es 1 1).toInt ∧ (gI es 1 1).toInt ≤ 400 := by rw [hsz]; exact hz2
  refine x_call (vs := [.ref 64, .int (zI v1), .int (zI v2), .int (zI v3), .int (zI v4), .int (zI v5)]) (rs := []) i_301_219 rfl (fun _ => rfl) rfl rfl rfl rfl rfl (pCall_v (p := 0) (sh_of hT) rfl rfl rfl rfl rfl (by decide) rfl rfl rfl rfl rfl) ?_
  show aW _ _ _ _ _ _ (0, [some (.ref 64), some (.int (zI v1)), some (.int (zI v2)), some (.int (zI v3)), some (.int (zI v4)), some (.int (zI v5))], [], es)
  refine aW_sh (aW_and (bs_11 hn (by decide) b_v1 b_v2 b_v3 b_v4 b_v5 hT hI) (fn_xfeed (O := pO0 xs n) (d := 38) b_v1 b_v2 b_v3 b_v4 b_v5 (sh_of hT) hz1)) (fun r es1 c1 k1 hp => ?_)
  obtain ⟨⟨hT1, hI1, hf1, hc1, hk1⟩, hp1⟩ : (hOK tT es1 ∧ gInv es1 ∧ fr kc_3.2.2.2.2.2.1 es es1 ∧ c1 ≤ 0 ∧ k1 ≤ 0) ∧ xfP (wsel v1 v2 v3 v4 v5) es r es1 := hp
  obtain ⟨hs1, hp1⟩ := hp1
  have hp1a : (r = .inl (some (.int (zI (-1)))) ∧ 380 < (gI es 1 1).toInt ∧ es1 = es) ∨ (r = .inl (some (.int (zI ((gI es 1 1).toInt + 20)))) ∧ (gI es 1 1).toInt ≤ 380 ∧ fdP (wsel v1 v2 v3 v4 v5) es 5 es1) := by
    rcases hp1 with ⟨a, b, c⟩ | ⟨a, b, c⟩
    · exact Or.inl ⟨b, a, c⟩
    · exact Or.inr ⟨b, a, c⟩
  have hk' : ∃ k : Int, r = .inl (some (.int (zI k))) ∧ ((k = -1 ∧ 380 < (gI es 1 1).toInt ∧ es1 = es) ∨ (k = (gI es 1 1).toInt + 20 ∧ (gI es 1 1).toInt ≤ 380 ∧ fdP (wsel v1 v2 v3 v4 v5) es 5 es1)) := by
    rcases hp1a with ⟨q, q'⟩ | ⟨q, q'⟩
    · exact ⟨-1, q, Or.inl ⟨rfl, q'⟩⟩
    · exact ⟨(gI es 1 1).toInt + 20, q, Or.inr (⟨rfl, q'⟩)⟩
  obtain ⟨k, rfl, hk⟩ := hk'
  have hkr : -2147483648 ≤ k ∧ k ≤ 2147483647 := by rcases hk with ⟨h, -⟩ | ⟨h, h', -⟩ <;> omega
  have e79 : gI es1 79 5 = gI es 79 5 := keepI hf1 (sh_of hT) (p := 79) (b := 5) rfl (by decide)
  have hz3 : 0 ≤ (gI es1 79 5).toInt ∧ (gI es1 79 5).toInt ≤ 400 := by rw [e79]; exact hz2
  have hT12 : (gI es 1 1).toInt = (gI es1 79 5).toInt := by rw [e79, hsz]
  show aW _ _ _ _ _ _ (222, [some (.ref 7), some (.ref 64), some (.ref 143), some (.ref 171), some (.int (zI i)), x5, x6, x7], [.int (zI k)], es1)
  refine s_l0b (d := 41) (n0 := n) (xs := xs) (sh_of hT1) ⟨h0, h7⟩ hn rfl (fun wv1 e_wv1 wv2 e_wv2 wv3 e_wv3 wv4 e_wv4 wv5 e_wv5 => ?_)
  rw [show wv1 = v1 from by rw [e_wv1, e_v1]]
  rw [show wv2 = v2 from by rw [e_wv2, e_v2]]
  rw [show wv3 = v3 from by rw [e_wv3, e_v3]]
  rw [show wv4 = v4 from by rw [e_wv4, e_v4]]
  rw [show wv5 = v5 from by rw [e_wv5, e_v5]]
  refine x_call (vs := [.ref 143, .int (zI v1), .int (zI v2), .int (zI v3), .int (zI v4), .int (zI v5)]) (rs := []) i_301_254 rfl (fun _ => rfl) rfl rfl rfl rfl rfl (pCall_v (p := 79) (sh_of hT1) rfl rfl rfl rfl rfl (by decide) rfl rfl rfl rfl rfl) ?_
  show aW _ _ _ _ _ _ (0, [some (.ref 143), some (.int (zI v1)), some (.int (zI v2)), some (.int (zI v3)), some (.int (zI v4)), some (.int (zI v5)), none], [], es1)
  refine aW_sh (aW_and (bs_171 hn (by decide) b_v1 b_v2 b_v3 b_v4 b_v5 hT1 hI1) (fn_mfeed (O := pO0 xs n) (d := 40) (sh_of hT1) hz3)) (fun r2 es2 c2 k2 hq => ?_)
  obtain ⟨⟨hT2, hI2, hf2, hc2, hk2⟩, hp2⟩ : (hOK tT es2 ∧ gInv es2 ∧ fr kc_307.2.2.2.2.2.1 es1 es2 ∧ c2 ≤ 0 ∧ k2 ≤ 0) ∧ mfP (wsel v1 v2 v3 v4 v5) es1 r2 es2 := hq
  obtain ⟨hs2, hp2⟩ := hp2
  have hp2a : (r2 = .inl (some (.int (zI (-1)))) ∧ 380 < (gI es1 79 5).toInt ∧ gA es2 82 = gA es1 82 ∧ gI es2 79 5 = gI es1 79 5) ∨ (r2 = .inl (some (.int (zI ((gI es1 79 5).toInt + 20)))) ∧ (gI es1 79 5).toInt ≤ 380 ∧ (gI es2 79 5).toInt = (gI es1 79 5).toInt + 20 ∧ (∀ j, j < 20 → gA es2 82 ((gI es1 79 5).toInt.toNat + j) = rByte (zI ((wsel v1 v2 v3 v4 v5) (j / 4))) (j % 4)) ∧ ∀ i, (i < (gI es1 79 5).toInt.toNat ∨ (gI es1 79 5).toInt.toNat + 20 ≤ i) → gA es2 82 i = gA es1 82 i) := by
    rcases hp2 with ⟨a, b, c⟩ | ⟨a, b, c⟩
    · exact Or.inl ⟨b, a, c⟩
    · exact Or.inr ⟨b, a, c⟩
  have hb' : ∃ b : Int, r2 = .inl (some (.int (zI b))) ∧ ((b = -1 ∧ 380 < (gI es1 79 5).toInt ∧ gA es2 82 = gA es1 82 ∧ gI es2 79 5 = gI es1 79 5) ∨ (b = (gI es1 79 5).toInt + 20 ∧ (gI es1 79 5).toInt ≤ 380 ∧ (gI es2 79 5).toInt = (gI es1 79 5).toInt + 20 ∧ (∀ j, j < 20 → gA es2 82 ((gI es1 79 5).toInt.toNat + j) = rByte (zI ((wsel v1 v2 v3 v4 v5) (j / 4))) (j % 4)) ∧ ∀ i, (i < (gI es1 79 5).toInt.toNat ∨ (gI es1 79 5).toInt.toNat + 20 ≤ i) → gA es2 82 i = gA es1 82 i)) := by
    rcases hp2a with ⟨q, q'⟩ | ⟨q, q'⟩
    · exact ⟨-1, q, Or.inl ⟨rfl, q'⟩⟩
    · exact ⟨(gI es1 79 5).toInt + 20, q, Or.inr (⟨rfl, q'⟩)⟩
  obtain ⟨b, rfl, hb⟩ := hb'
  have hbr : -2147483648 ≤ b ∧ b ≤ 2147483647 := by rcases hb with ⟨h, -⟩ | ⟨h, h', -⟩ <;> omega
  have hJ2 : J es2 := by
    have n_tape : j_tape es2 := by
      intro i hi9
      have a2 : gA es2 2 i = gA es1 2 i := keepA hf2 (sh_of hT1) (p := 2) (t := 0) (n := 400) rfl (by decide) (by decide) i hi9
      have a82 : gA es1 82 i = gA es 82 i := keepA hf1 (sh_of hT) (p := 82) (t := 2) (n := 400) rfl (by decide) (by decide) i hi9
      rw [a2]
      rcases hk with ⟨-, h1, h3⟩ | ⟨-, h1, h3⟩
      · rcases hb with ⟨-, g1, g3, -⟩ | ⟨-, g1, -⟩
        · rw [g3, a82, h3]; exact j_tape_ i hi9
        · exfalso; omega
      · rcases hb with ⟨-, g1, -⟩ | ⟨-, g1, g3, g4, g5⟩
        · exfalso; omega
        · obtain ⟨-, f2, f3, f4⟩ := h3
          by_cases hin : (gI es 1 1).toInt.toNat ≤ i ∧ i < (gI es 1 1).toInt.toNat + 20
          · have c3 := f3 (i - (gI es 1 1).toInt.toNat) (by omega)
            have d4 := g4 (i - (gI es 1 1).toInt.toNat) (by omega)
            rw [show (gI es 1 1).toInt.toNat + (i - (gI es 1 1).toInt.toNat) = i by omega] at c3
            rw [show (gI es1 79 5).toInt.toNat + (i - (gI es 1 1).toInt.toNat) = i by omega] at d4
            rw [c3, d4]
            exact byte_zU _ _ (by omega)
          · rw [f4 i (by omega), g5 i (by omega), a82]
            exact j_tape_ i hi9
    have n_size : j_size es2 := by
      have a : gI es2 1 1 = gI es1 1 1 := keepI hf2 (sh_of hT1) (p := 1) (b := 1) rfl (by decide)
      show gI es2 1 1 = gI es2 79 5
      apply Int32.toInt_inj.mp
      rw [a]
      rcases hk with ⟨-, h1, h3⟩ | ⟨-, h1, h3⟩
      · rcases hb with ⟨-, g1, -, g3⟩ | ⟨-, g1, -⟩
        · rw [g3, h3, hsz]
        · exfalso; omega
      · rcases hb with ⟨-, g1, -⟩ | ⟨-, g1, g3, -⟩
        · exfalso; omega
        · have f2 := h3.2.1
          omega
    exact ⟨n_tape, n_size, kp_flag hf2 (sh_of hT1) (by decide) (kp_flag hf1 (sh_of hT) (by decide) j_flag_), kp_kinds hf2 (sh_of hT1) (by decide) (kp_kinds hf1 (sh_of hT) (by decide) j_kinds_), kp_kindsI hf2 (sh_of hT1) (by decide) (kp_kindsI hf1 (sh_of hT) (by decide) j_kindsI_), kp_lines hf2 (sh_of hT1) (by decide) (kp_lines hf1 (sh_of hT) (by decide) j_lines_), kp_linesI hf2 (sh_of hT1) (by decide) (kp_linesI hf1 (sh_of hT) (by decide) j_linesI_), kp_start hf2 (sh_of hT1) (by decide) (kp_start hf1 (sh_of hT) (by decide) j_start_), kp_startI hf2 (sh_of hT1) (by decide) (kp_startI hf1 (sh_of hT) (by decide) j_startI_), kp_books hf2 (sh_of hT1) (by decide) (kp_books hf1 (sh_of hT) (by decide) j_books_), kp_booksI hf2 (sh_of hT1) (by decide) (kp_booksI hf1 (sh_of hT) (by decide) j_booksI_), kp_stK hf2 (sh_of hT1) (by decide) (kp_stK hf1 (sh_of hT) (by decide) j_stK_), kp_stKI hf2 (sh_of hT1) (by decide) (kp_stKI hf1 (sh_of hT) (by decide) j_stKI_), kp_notes hf2 (sh_of hT1) (by decide) (kp_notes hf1 (sh_of hT) (by decide) j_notes_), kp_notesI hf2 (sh_of hT1) (by decide) (kp_notesI hf1 (sh_of hT) (by decide) j_notesI_)⟩
  have fin : ∀ y5 y6 y7, aW (pO0 xs n) 41 301 (kc + c1 + c2) (ks + k1 + k2) lawQ (23, lawL (i + 7) y5 y6 y7, [], es2) := fun y5 y6 y7 => K es2 _ _ y5 y6 y7 hT2 hI2 hJ2 (by omega) (by omega)
  show aW _ _ _ _ _ _ (257, [some (.ref 7), some (.ref 64), some (.ref 143), some (.ref 171), some (.int (zI i)), x5, x6, x7], [.int (zI b)], es2)
  have t9 : k = b := by rcases hk with ⟨h, h', -⟩ | ⟨h, h', -⟩ <;> rcases hb with ⟨q, q', -⟩ | ⟨q, q', -⟩ <;> omega
  exact s_l0c (O := pO0 xs n) (d := 41) (n0 := n) (xs := xs) (sh_of hT2) ⟨h0, h7⟩ hn rfl hbr (fin _ _ _)
theorem s_l1a {O : pOut} {d kc ks : Nat} {Q : pRes → Prop} {es : PH} {xs : Nat → Int32} {n0 : Nat} {i : Int} {x5 x6 x7 : Option Value} (hs_es : sh es) (h_i : 0 ≤ i ∧ i + 7 ≤ (n0 : Int)) (hn0 : n0 ≤ 3584) (hO : O 7 = some (n0, xs))
    (K1 : ∀ v1 : Int, v1 = (xs (i + 1).toNat).toInt → aW O d 301 kc ks Q (268, [some (.ref 7), some (.ref 64), some (.ref 143), some (.ref 171), some (.int (zI i)), x5, x6, x7], [.int (zI v1), .ref 64], es)) :
    aW O d 301 kc ks Q (261, [some (.ref 7), some (.ref 64), some (.ref 143), some (.ref 171), some (.int (zI i)), x5, x6, x7], [], es) := by
  refine x0 (r := (262, [some (.ref 7), some (.ref 64), some (.ref 143), some (.ref 171), some (.int (zI i)), x5, x6, x7], [.ref 64], es)) i_301_261 rfl ?_
  refine x0 (r := (263, [some (.ref 7), some (.ref 64), some (.ref 143), some (.ref 171), some (.int (zI i)), x5, x6, x7], [.ref 7, .ref 64], es)) i_301_262 rfl ?_
  refine x0 (r := (265, [some (.ref 7), some (.ref 64), some (.ref 143), some (.ref 171), some (.int (zI i)), x5, x6, x7], [.int (zI i), .ref 7, .ref 64], es)) i_301_263 rfl ?_
  refine x0 (r := (266, [some (.ref 7), some (.ref 64), some (.ref 143), some (.ref 171), some (.int (zI i)), x5, x6, x7], [.int (zI 1), .int (zI i), .ref 7, .ref 64], es)) i_301_265 (by rfl) ?_
  refine x_iadd i_301_266 ?_
  refine x_oald (n := n0) (g := xs) i_301_267 hO (by unfold i32 iLO iHI; omega) (by omega) (by omega) ?_
  obtain ⟨v1, e_v1⟩ : ∃ z : Int, z = (xs (i + 1).toNat).toInt := ⟨_, rfl⟩
  rw [← e_v1]
  have r_v1 : iLO ≤ v1 ∧ v1 ≤ iHI := by rw [e_v1]; exact i32_rng _
  unfold iLO iHI at r_v1
  exact K1 v1 e_v1
theorem s_l1b {O : pOut} {d kc ks : Nat} {Q : pRes → Prop} {es : PH} {xs : Nat → Int32} {n0 : Nat} {i k : Int} {x5 x6 x7 : Option Value} (hs_es : sh es) (h_i : 0 ≤ i ∧ i + 7 ≤ (n0 : Int)) (hn0 : n0 ≤ 3584) (hO : O 7 = some (n0, xs))
    (K1 : ∀ v1 : Int, v1 = (xs (i + 1).toNat).toInt → aW O d 301 kc ks Q (279, [some (.ref 7), some (.ref 64), some (.ref 143), some (.ref 171), some (.int (zI i)), x5, x6, x7], [.int (zI v1), .ref 143], es)) :
    aW O d 301 kc ks Q (271, [some (.ref 7), some (.ref 64), some (.ref 143), some (.ref 171), some (.int (zI i)), x5, x6, x7], [.int (zI k)], es) := by
  refine x0 (r := (272, [some (.ref 7), some (.ref 64), some (.ref 143), some (.ref 171), some (.int (zI i)), x5, x6, x7], [], es)) i_301_271 rfl ?_
  refine x0 (r := (273, [some (.ref 7), some (.ref 64), some (.ref 143), some (.ref 171), some (.int (zI i)), x5, x6, x7], [.ref 143], es)) i_301_272 rfl ?_
  refine x0 (r := (274, [some (.ref 7), some (.ref 64), some (.ref 143), some (.ref 171), some (.int (zI i)), x5, x6, x7], [.ref 7, .ref 143], es)) i_301_273 rfl ?_
  refine x0 (r := (276, [some (.ref 7), some (.ref 64), some (.ref 143), some (.ref 171), some (.int (zI i)), x5, x6, x7], [.int (zI i), .ref 7, .ref 143], es)) i_301_274 rfl ?_
  refine x0 (r := (277, [some (.ref 7), some (.ref 64), some (.ref 143), some (.ref 171), some (.int (zI i)), x5, x6, x7], [.int (zI 1), .int (zI i), .ref 7, .ref 143], es)) i_301_276 (by rfl) ?_
  refine x_iadd i_301_277 ?_
  refine x_oald (n := n0) (g := xs) i_301_278 hO (by unfold i32 iLO iHI; omega) (by omega) (by omega) ?_
  obtain ⟨v1, e_v1⟩ : ∃ z : Int, z = (xs (i + 1).toNat).toInt := ⟨_, rfl⟩
  rw [← e_v1]
  have r_v1 : iLO ≤ v1 ∧ v1 ≤ iHI := by rw [e_v1]; exact i32_rng _
  unfold iLO iHI at r_v1
  exact K1 v1 e_v1
theorem s_l1c {O : pOut} {d kc ks : Nat} {Q : pRes → Prop} {es : PH} {xs : Nat → Int32} {n0 : Nat} {i b : Int} {x5 x6 x7 : Option Value} (hs_es : sh es) (h_i : 0 ≤ i ∧ i + 7 ≤ (n0 : Int)) (hn0 : n0 ≤ 3584) (hO : O 7 = some (n0, xs)) (h_b : -2147483648 ≤ b ∧ b ≤ 2147483647)
    (K1 : aW O d 301 kc ks Q (23, [some (.ref 7), some (.ref 64), some (.ref 143), some (.ref 171), some (.int (zI (i + 7))), x5, x6, x7], [], es)) :
    aW O d 301 kc ks Q (282, [some (.ref 7), some (.ref 64), some (.ref 143), some (.ref 171), some (.int (zI i)), x5, x6, x7], [.int (zI b)], es) := by
  refine x0 (r := (283, [some (.ref 7), some (.ref 64), some (.ref 143), some (.ref 171), some (.int (zI i)), x5, x6, x7], [], es)) i_301_282 rfl ?_
  refine x0 (r := (1439, [some (.ref 7), some (.ref 64), some (.ref 143), some (.ref 171), some (.int (zI i)), x5, x6, x7], [], es)) i_301_283 rfl ?_
  refine x_iinc (x := i) i_301_1439 rfl (by show 4 < 8; decide) ?_
  show aW _ _ _ _ _ _ (1442, [some (.ref 7), some (.ref 64), some (.ref 143), some (.ref 171), some (.int (zI (i + 7))), x5, x6, x7], [], es)
  refine x0 (r := (23, [some (.ref 7), some (.ref 64), some (.ref 143), some (.ref 171), some (.int (zI (i + 7))), x5, x6, x7], [], es)) i_301_1442 rfl ?_
  exact K1
theorem lh_1 {xs : Nat → Int32} {n : Nat} (hn : n ≤ 3584) {i : Int} {es : PH} {kc ks : Nat} {x5 x6 x7 : Option Value} (h0 : 0 ≤ i) (h7 : i + 7 ≤ (n : Int)) (hT : hOK tT es) (hI : gInv es) (hJ : J es) (K : lawK J xs n i kc ks) : aW (pO0 xs n) 41 301 kc ks lawQ (261, lawL i x5 x6 x7, [], es) := by
  refine s_l1a (d := 41) (n0 := n) (xs := xs) (sh_of hT) ⟨h0, h7⟩ hn rfl (fun v1 e_v1 => ?_)
  have b_v1 : i32 v1 := by rw [e_v1]; exact i32_rng _
  have hJ0 := hJ
  obtain ⟨j_tape_, j_size_, j_flag_, j_kinds_, j_kindsI_, j_lines_, j_linesI_, j_start_, j_startI_, j_books_, j_booksI_, j_stK_, j_stKI_, j_notes_, j_notesI_⟩ := hJ0
  refine x_call (vs := [.ref 64, .int (zI v1)]) (rs := []) i_301_268 rfl (fun _ => rfl) rfl rfl rfl rfl rfl (pCall_v (p := 0) (sh_of hT) rfl rfl rfl rfl rfl (by decide) rfl rfl rfl rfl rfl) ?_
  show aW _ _ _ _ _ _ (0, [some (.ref 64), some (.int (zI v1))], [], es)
  refine aW_sh (aW_and (bs_15 hn (by decide) b_v1 hT hI) (fn_endx (O := pO0 xs n) (d := 40) b_v1 hT)) (fun r es1 c1 k1 hp => ?_)
  obtain ⟨⟨hT1, hI1, hf1, hc1, hk1⟩, hp1⟩ : (hOK tT es1 ∧ gInv es1 ∧ fr kc_4.2.2.2.2.2.1 es es1 ∧ c1 ≤ 0 ∧ k1 ≤ 0) ∧ endxP v1 es r es1 := hp
  obtain ⟨hs1, -, hp1⟩ := hp1
  have hk' : ∃ k : Int, r = .inl (some (.int (zI k))) ∧ ((k = 0 ∧ (v1 < 0 ∨ (gI es 1 1).toInt < v1) ∧ gI es1 1 1 = gI es 1 1) ∨ (k = 1 ∧ (0 ≤ v1 ∧ v1 ≤ (gI es 1 1).toInt) ∧ (gI es1 1 1).toInt = v1)) := by
    rcases hp1 with ⟨q, q'⟩ | ⟨q, q'⟩
    · exact ⟨0, q, Or.inl ⟨rfl, q'⟩⟩
    · exact ⟨1, q, Or.inr (⟨rfl, q'⟩)⟩
  obtain ⟨k, rfl, hk⟩ := hk'
  have hkr : -2147483648 ≤ k ∧ k ≤ 2147483647 := by rcases hk with ⟨h, -⟩ | ⟨h, -⟩ <;> omega
  have e79 : gI es1 79 5 = gI es 79 5 := keepI hf1 (sh_of hT) (p := 79) (b := 5) rfl (by decide)
  have hsz : gI es 1 1 = gI es 79 5 := j_size_
  have hT12 : (gI es 1 1).toInt = (gI es1 79 5).toInt := by rw [e79, hsz]
  show aW _ _ _ _ _ _ (271, [some (.ref 7), some (.ref 64), some (.ref 143), some (.ref 171), some (.int (zI i)), x5, x6, x7], [.int (zI k)], es1)
  refine s_l1b (d := 41) (n0 := n) (xs := xs) (sh_of hT1) ⟨h0, h7⟩ hn rfl (fun wv1 e_wv1 => ?_)
  rw [show wv1 = v1 from by rw [e_wv1, e_v1]]
  refine x_call (vs := [.ref 143, .int (zI v1)]) (rs := []) i_301_279 rfl (fun _ => rfl) rfl rfl rfl rfl rfl (pCall_v (p := 79) (sh_of hT1) rfl rfl rfl rfl rfl (by decide) rfl rfl rfl rfl rfl) ?_
  show aW _ _ _ _ _ _ (0, [some (.ref 143), some (.int (zI v1))], [], es1)
  refine aW_sh (aW_and (bs_172 hn (by decide) b_v1 hT1 hI1) (fn_endm (O := pO0 xs n) (d := 40) b_v1 hT1)) (fun r2 es2 c2 k2 hq => ?_)
  obtain ⟨⟨hT2, hI2, hf2, hc2, hk2⟩, hp2⟩ : (hOK tT es2 ∧ gInv es2 ∧ fr kc_308.2.2.2.2.2.1 es1 es2 ∧ c2 ≤ 0 ∧ k2 ≤ 0) ∧ endmP v1 es1 r2 es2 := hq
  obtain ⟨hs2, -, b, rfl, hbr, hb⟩ := hp2
  have hJ2 : J es2 := by
    have n_size : j_size es2 := by
      have a : gI es2 1 1 = gI es1 1 1 := keepI hf2 (sh_of hT1) (p := 1) (b := 1) rfl (by decide)
      show gI es2 1 1 = gI es2 79 5
      rw [a]
      rcases hk with ⟨-, h1, h3⟩ | ⟨-, h1, h3⟩
      · rcases hb with ⟨-, g1, g3, -⟩ | ⟨-, g1, -⟩
        · rw [g3, h3, e79, hsz]
        · exfalso; omega
      · rcases hb with ⟨-, g1, -⟩ | ⟨-, g1, g3, -⟩
        · exfalso; omega
        · apply Int32.toInt_inj.mp
          rw [h3, g3]
    exact ⟨kp_tape hf2 (sh_of hT1) (by decide) (kp_tape hf1 (sh_of hT) (by decide) j_tape_), n_size, kp_flag hf2 (sh_of hT1) (by decide) (kp_flag hf1 (sh_of hT) (by decide) j_flag_), kp_kinds hf2 (sh_of hT1) (by decide) (kp_kinds hf1 (sh_of hT) (by decide) j_kinds_), kp_kindsI hf2 (sh_of hT1) (by decide) (kp_kindsI hf1 (sh_of hT) (by decide) j_kindsI_), kp_lines hf2 (sh_of hT1) (by decide) (kp_lines hf1 (sh_of hT) (by decide) j_lines_), kp_linesI hf2 (sh_of hT1) (by decide) (kp_linesI hf1 (sh_of hT) (by decide) j_linesI_), kp_start hf2 (sh_of hT1) (by decide) (kp_start hf1 (sh_of hT) (by decide) j_start_), kp_startI hf2 (sh_of hT1) (by decide) (kp_startI hf1 (sh_of hT) (by decide) j_startI_), kp_books hf2 (sh_of hT1) (by decide) (kp_books hf1 (sh_of hT) (by decide) j_books_), kp_booksI hf2 (sh_of hT1) (by decide) (kp_booksI hf1 (sh_of hT) (by decide) j_booksI_), kp_stK hf2 (sh_of hT1) (by decide) (kp_stK hf1 (sh_of hT) (by decide) j_stK_), kp_stKI hf2 (sh_of hT1) (by decide) (kp_stKI hf1 (sh_of hT) (by decide) j_stKI_), kp_notes hf2 (sh_of hT1) (by decide) (kp_notes hf1 (sh_of hT) (by decide) j_notes_), kp_notesI hf2 (sh_of hT1) (by decide) (kp_notesI hf1 (sh_of hT) (by decide) j_notesI_)⟩
  have fin : ∀ y5 y6 y7, aW (pO0 xs n) 41 301 (kc + c1 + c2) (ks + k1 + k2) lawQ (23, lawL (i + 7) y5 y6 y7, [], es2) := fun y5 y6 y7 => K es2 _ _ y5 y6 y7 hT2 hI2 hJ2 (by omega) (by omega)
  show aW _ _ _ _ _ _ (282, [some (.ref 7), some (.ref 64), some (.ref 143), some (.ref 171), some (.int (zI i)), x5, x6, x7], [.int (zI b)], es2)
  have t9 : k = b := by rcases hk with ⟨h, h', -⟩ | ⟨h, h', -⟩ <;> rcases hb with ⟨-, q', -, q⟩ | ⟨-, q', -, q⟩ <;> omega
  exact s_l1c (O := pO0 xs n) (d := 41) (n0 := n) (xs := xs) (sh_of hT2) ⟨h0, h7⟩ hn rfl hbr (fin _ _ _)
theorem s_l2a {O : pOut} {d kc ks : Nat} {Q : pRes → Prop} {es : PH} {xs : Nat → Int32} {n0 : Nat} {i : Int} {x5 x6 x7 : Option Value} (hs_es : sh es) (h_i : 0 ≤ i ∧ i + 7 ≤ (n0 : Int)) (hn0 : n0 ≤ 3584) (hO : O 7 = some (n0, xs))
    (K1 : ∀ v1 : Int, v1 = (xs (i + 1).toNat).toInt → aW O d 301 kc ks Q (294, [some (.ref 7), some (.ref 64), some (.ref 143), some (.ref 171), some (.int (zI i)), x5, x6, x7], [.ref 171, .int (zI v1), .ref 64], es)) :
    aW O d 301 kc ks Q (286, [some (.ref 7), some (.ref 64), some (.ref 143), some (.ref 171), some (.int (zI i)), x5, x6, x7], [], es) := by
  refine x0 (r := (287, [some (.ref 7), some (.ref 64), some (.ref 143), some (.ref 171), some (.int (zI i)), x5, x6, x7], [.ref 64], es)) i_301_286 rfl ?_
  refine x0 (r := (288, [some (.ref 7), some (.ref 64), some (.ref 143), some (.ref 171), some (.int (zI i)), x5, x6, x7], [.ref 7, .ref 64], es)) i_301_287 rfl ?_
  refine x0 (r := (290, [some (.ref 7), some (.ref 64), some (.ref 143), some (.ref 171), some (.int (zI i)), x5, x6, x7], [.int (zI i), .ref 7, .ref 64], es)) i_301_288 rfl ?_
  refine x0 (r := (291, [some (.ref 7), some (.ref 64), some (.ref 143), some (.ref 171), some (.int (zI i)), x5, x6, x7], [.int (zI 1), .int (zI i), .ref 7, .ref 64], es)) i_301_290 (by rfl) ?_
  refine x_iadd i_301_291 ?_
  refine x_oald (n := n0) (g := xs) i_301_292 hO (by unfold i32 iLO iHI; omega) (by omega) (by omega) ?_
  obtain ⟨v1, e_v1⟩ : ∃ z : Int, z = (xs (i + 1).toNat).toInt := ⟨_, rfl⟩
  rw [← e_v1]
  have r_v1 : iLO ≤ v1 ∧ v1 ≤ iHI := by rw [e_v1]; exact i32_rng _
  unfold iLO iHI at r_v1
  refine x0 (r := (294, [some (.ref 7), some (.ref 64), some (.ref 143), some (.ref 171), some (.int (zI i)), x5, x6, x7], [.ref 171, .int (zI v1), .ref 64], es)) i_301_293 rfl ?_
  exact K1 v1 e_v1
theorem s_l2b {O : pOut} {d kc ks : Nat} {Q : pRes → Prop} {es : PH} {xs : Nat → Int32} {n0 : Nat} {i k : Int} {x5 x6 x7 : Option Value} (hs_es : sh es) (h_i : 0 ≤ i ∧ i + 7 ≤ (n0 : Int)) (hn0 : n0 ≤ 3584) (hO : O 7 = some (n0, xs))
    (K1 : ∀ v1 : Int, v1 = (xs (i + 1).toNat).toInt → aW O d 301 kc ks Q (306, [some (.ref 7), some (.ref 64), some (.ref 143), some (.ref 171), some (.int (zI i)), some (.int (zI k)), x6, x7], [.int (zI v1), .ref 143], es)) :
    aW O d 301 kc ks Q (297, [some (.ref 7), some (.ref 64), some (.ref 143), some (.ref 171), some (.int (zI i)), x5, x6, x7], [.int (zI k)], es) := by
  refine x0 (r := (299, [some (.ref 7), some (.ref 64), some (.ref 143), some (.ref 171), some (.int (zI i)), some (.int (zI k)), x6, x7], [], es)) i_301_297 rfl ?_
  refine x0 (r := (300, [some (.ref 7), some (.ref 64), some (.ref 143), some (.ref 171), some (.int (zI i)), some (.int (zI k)), x6, x7], [.ref 143], es)) i_301_299 rfl ?_
  refine x0 (r := (301, [some (.ref 7), some (.ref 64), some (.ref 143), some (.ref 171), some (.int (zI i)), some (.int (zI k)), x6, x7], [.ref 7, .ref 143], es)) i_301_300 rfl ?_
  refine x0 (r := (303, [some (.ref 7), some (.ref 64), some (.ref 143), some (.ref 171), some (.int (zI i)), some (.int (zI k)), x6, x7], [.int (zI i), .ref 7, .ref 143], es)) i_301_301 rfl ?_
  refine x0 (r := (304, [some (.ref 7), some (.ref 64), some (.ref 143), some (.ref 171), some (.int (zI i)), some (.int (zI k)), x6, x7], [.int (zI 1), .int (zI i), .ref 7, .ref 143], es)) i_301_303 (by rfl) ?_
  refine x_iadd i_301_304 ?_
  refine x_oald (n := n0) (g := xs) i_301_305 hO (by unfold i32 iLO iHI; omega) (by omega) (by omega) ?_
  obtain ⟨v1, e_v1⟩ : ∃ z : Int, z = (xs (i + 1).toNat).toInt := ⟨_, rfl⟩
  rw [← e_v1]
  have r_v1 : iLO ≤ v1 ∧ v1 ≤ iHI := by rw [e_v1]; exact i32_rng _
  unfold iLO iHI at r_v1
  exact K1 v1 e_v1
theorem s_l2c {O : pOut} {d kc ks : Nat} {Q : pRes → Prop} {es : PH} {xs : Nat → Int32} {n0 : Nat} {i k b : Int} {x6 x7 : Option Value} (hs_es : sh es) (h_i : 0 ≤ i ∧ i + 7 ≤ (n0 : Int)) (hn0 : n0 ≤ 3584) (hO : O 7 = some (n0, xs)) (h_k : -2147483648 ≤ k ∧ k ≤ 2147483647) (h_b : -2147483648 ≤ b ∧ b ≤ 2147483647)
    (K1 : aW O d 301 kc ks Q (23, [some (.ref 7), some (.ref 64), some (.ref 143), some (.ref 171), some (.int (zI (i + 7))), some (.int (zI k)), some (.int (zI b)), x7], [], es)) :
    aW O d 301 kc ks Q (309, [some (.ref 7), some (.ref 64), some (.ref 143), some (.ref 171), some (.int (zI i)), some (.int (zI k)), x6, x7], [.int (zI b)], es) := by
  refine x0 (r := (311, [some (.ref 7), some (.ref 64), some (.ref 143), some (.ref 171), some (.int (zI i)), some (.int (zI k)), some (.int (zI b)), x7], [], es)) i_301_309 rfl ?_
  refine x0 (r := (1439, [some (.ref 7), some (.ref 64), some (.ref 143), some (.ref 171), some (.int (zI i)), some (.int (zI k)), some (.int (zI b)), x7], [], es)) i_301_311 rfl ?_
  refine x_iinc (x := i) i_301_1439 rfl (by show 4 < 8; decide) ?_
  show aW _ _ _ _ _ _ (1442, [some (.ref 7), some (.ref 64), some (.ref 143), some (.ref 171), some (.int (zI (i + 7))), some (.int (zI k)), some (.int (zI b)), x7], [], es)
  refine x0 (r := (23, [some (.ref 7), some (.ref 64), some (.ref 143), some (.ref 171), some (.int (zI (i + 7))), some (.int (zI k)), some (.int (zI b)), x7], [], es)) i_301_1442 rfl ?_
  exact K1
theorem lh_2 {xs : Nat → Int32} {n : Nat} (hn : n ≤ 3584) {i : Int} {es : PH} {kc ks : Nat} {x5 x6 x7 : Option Value} (h0 : 0 ≤ i) (h7 : i + 7 ≤ (n : Int)) (hT : hOK tT es) (hI : gInv es) (hJ : J es) (K : lawK J xs n i kc ks) : aW (pO0 xs n) 41 301 kc ks lawQ (286, lawL i x5 x6 x7, [], es) := by
  refine s_l2a (d := 41) (n0 := n) (xs := xs) (sh_of hT) ⟨h0, h7⟩ hn rfl (fun v1 e_v1 => ?_)
  have b_v1 : i32 v1 := by rw [e_v1]; exact i32_rng _
  have hJ0 := hJ
  obtain ⟨j_tape_, j_size_, j_flag_, j_kinds_, j_kindsI_, j_lines_, j_linesI_, j_start_, j_startI_, j_books_, j_booksI_, j_stK_, j_stKI_, j_notes_, j_notesI_⟩ := hJ0
  have hz2 : 0 ≤ (gI es 79 5).toInt ∧ (gI es 79 5).toInt ≤ 400 := gI_bd hT (p := 79) (b := 5) rfl rfl
  have hsz : gI es 1 1 = gI es 79 5 := j_size_
  have hz1 : 0 ≤ (gI es 1 1).toInt ∧ (gI es 1 1).toInt ≤ 400 := by rw [hsz]; exact hz2
  have hjB : jB (gA es 82) (gI es 1 1).toInt.toNat es := ⟨j_tape_, fun i hi => gA_bd hT (p := 82) (k := i) rfl hi (by decide), by omega, by omega⟩
  have hw0 : (0 : Int) ≤ (gA es 80 0).toInt ∧ (gA es 80 0).toInt ≤ (5 : Int) := gA_bd hT (p := 80) (k := 0) rfl (by omega) (by decide)
  have hkd : gI es 7 0 = gA es 80 0 := j_kinds_
  have h7b : 0 ≤ (gI es 7 0).toInt ∧ (gI es 7 0).toInt ≤ 5 := by rw [hkd]; exact hw0
  refine x_call (vs := [.ref 64, .int (zI v1), .ref 171]) (rs := []) i_301_294 rfl (fun _ => rfl) rfl rfl rfl rfl rfl rfl ?_
  show aW _ _ _ _ _ _ (0, [some (.ref 64), some (.int (zI v1)), some (.ref 171), none], [], es)
  refine aW_sh (aW_and (bs_277 hn (by decide) b_v1 hT hI) (aW_and (fn_ykind (xs := xs) (d := 14) hn b_v1 hT hjB h7b) (fnk_ykind (xs := xs) (d := 14) hn b_v1 hT hjB h7b))) (fun r es1 c1 k1 hp => ?_)
  obtain ⟨⟨hT1, hI1, hf1, hc1, hk1⟩, hp1⟩ : (hOK tT es1 ∧ gInv es1 ∧ fr kc_377.2.2.2.2.2.1 es es1 ∧ c1 ≤ 1 ∧ k1 ≤ 6) ∧ (ykP (gA es 82) (gI es 1 1).toInt.toNat v1 es r es1 ∧ kLP (gA es 82) (gI es 1 1).toInt.toNat v1 es es1) := hp
  obtain ⟨⟨hs1, h11, k, rfl, hk⟩, hkl⟩ := hp1
  have hkr : -2147483648 ≤ k ∧ k ≤ 2147483647 := by rcases hk with ⟨h, -⟩ | ⟨h, -⟩ | ⟨h, -⟩ <;> omega
  have e79 : gI es1 79 5 = gI es 79 5 := keepI hf1 (sh_of hT) (p := 79) (b := 5) rfl (by decide)
  have e82 : gA es1 82 = gA es 82 := keepF hf1 (sh_of hT) (p := 82) (t := 2) (n := 400) rfl (by decide) (by decide)
  have w80 : ∀ i, i < 2125 → gA es1 80 i = gA es 80 i := fun i hi => keepA hf1 (sh_of hT) (p := 80) (t := 0) (n := 2125) (sp := tS80) rfl (by decide) (by decide) i hi
  have e80 : gA es1 80 0 = gA es 80 0 := w80 0 (by omega)
  show aW _ _ _ _ _ _ (297, [some (.ref 7), some (.ref 64), some (.ref 143), some (.ref 171), some (.int (zI i)), x5, x6, x7], [.int (zI k)], es1)
  refine s_l2b (d := 41) (n0 := n) (xs := xs) (sh_of hT1) ⟨h0, h7⟩ hn rfl (fun wv1 e_wv1 => ?_)
  rw [show wv1 = v1 from by rw [e_wv1, e_v1]]
  refine x_call (vs := [.ref 143, .int (zI v1)]) (rs := []) i_301_306 rfl (fun _ => rfl) rfl rfl rfl rfl rfl (pCall_v (p := 79) (sh_of hT1) rfl rfl rfl rfl rfl (by decide) rfl rfl rfl rfl rfl) ?_
  show aW _ _ _ _ _ _ (0, [some (.ref 143), some (.int (zI v1)), none, none, none], [], es1)
  refine aW_sh (aW_and (bs_174 hn (by decide) b_v1 hT1 hI1) (aW_and (fn_mkind (xs := xs) (R := gA es 82) (n := (gI es 1 1).toInt.toNat) (d := 35) hn b_v1 hT1 e82 (by rw [e79, ← hsz]; omega)) (fnk_mkind (xs := xs) (R := gA es 82) (n := (gI es 1 1).toInt.toNat) (d := 35) hn b_v1 hT1 e82 (by rw [e79, ← hsz]; omega)))) (fun r2 es2 c2 k2 hq => ?_)
  obtain ⟨⟨hT2, hI2, hf2, hc2, hk2⟩, hp2⟩ : (hOK tT es2 ∧ gInv es2 ∧ fr kc_319.2.2.2.2.2.1 es1 es2 ∧ c2 ≤ 0 ∧ k2 ≤ 0) ∧ (mkP (gA es 82) (gI es 1 1).toInt.toNat v1 es1 r2 es2 ∧ mLP (gA es 82) (gI es 1 1).toInt.toNat v1 es1 es2) := hq
  obtain ⟨⟨h75, b, rfl, hbr, hb⟩, hml⟩ := hp2
  rw [e80, ← hkd] at hb
  unfold mLP at hml
  unfold kLP at hkl
  rw [e80, ← hkd] at hml
  have hJ2 : J es2 := by
    have n_size : j_size es2 := by
      have a : gI es2 1 1 = gI es1 1 1 := keepI hf2 (sh_of hT1) (p := 1) (b := 1) rfl (by decide)
      show gI es2 1 1 = gI es2 79 5
      apply Int32.toInt_inj.mp
      rw [a, h11, h75]
    have n_kinds : j_kinds es2 := by
      have a : gI es2 7 0 = gI es1 7 0 := keepI hf2 (sh_of hT1) (p := 7) (b := 0) rfl (by decide)
      show gI es2 7 0 = gA es2 80 0
      rw [a]
      rcases hk with ⟨-, h1, h3⟩ | ⟨-, h1, h3⟩ | ⟨-, h1, h3, -⟩
      · rcases hb with ⟨-, g1, g3⟩ | ⟨-, g1, g3⟩ | ⟨-, g1, -⟩
        · rw [h3, g3]
        · rw [h3, g3]
        · exact absurd h1 g1.1
      · rcases hb with ⟨-, g1, g3⟩ | ⟨-, g1, g3⟩ | ⟨-, g1, -⟩
        · rw [h3, g3]
        · rw [h3, g3]
        · exfalso; omega
      · rcases hb with ⟨-, g1, -⟩ | ⟨-, g1, -⟩ | ⟨-, g1, g2, g3⟩
        · exact absurd g1 h1.1
        · exfalso; omega
        · apply Int32.toInt_inj.mp
          rw [h3, g3]
    have n_lines : j_lines es2 := by
      have q9 : ∀ i, i < 5 → gA es2 9 i = gA es1 9 i := fun i hi => keepA hf2 (sh_of hT1) (p := 9) (t := 0) (n := 5) rfl (by decide) (by decide) i hi
      have q10 : ∀ i, i < 60 → gA es2 10 i = gA es1 10 i := fun i hi => keepA hf2 (sh_of hT1) (p := 10) (t := 0) (n := 60) rfl (by decide) (by decide) i hi
      rcases hkl with ⟨h, a1, a2⟩ | ⟨h, l6, a1, a2, a3, a4⟩
      · rcases hml with ⟨-, c1⟩ | ⟨g1, -⟩
        · exact lnT_c j_lines_ (fun i hi => by rw [q9 i hi, a1 i hi]) (fun i hi => by rw [q10 i hi, a2 i hi]) (fun i h1 h2 => by rw [c1 i (by omega) h2, w80 i (by omega)])
        · rcases h with h | h
          · exact absurd h g1.1
          · exfalso; omega
      · rcases hml with ⟨g1, -⟩ | ⟨-, c1, c2, c3⟩
        · rcases g1 with g1 | g1
          · exact absurd g1 h.1
          · exfalso; omega
        · have hq4 : (gI es 7 0).toInt.toNat < 5 := by omega
          refine lnT_n (q := (gI es 7 0).toInt.toNat) (l := zKtL (zR (gA es 82)) (gI es 1 1).toInt.toNat) j_lines_ (fun i hi hne => by rw [q9 i hi, a2 i hi hne]) (fun i hi hne => by rw [q10 i hi, a3 i hi hne]) (fun i h1 h2 hne => by rw [c2 i (by omega) h2 hne, w80 i (by omega)]) l6 (by rw [q9 _ hq4]; exact a1) c1 (fun i x hx => ?_)
          have hil : i < (zKtL (zR (gA es 82)) (gI es 1 1).toInt.toNat).length := by
            rcases Nat.lt_or_ge i (zKtL (zR (gA es 82)) (gI es 1 1).toInt.toNat).length with h | h
            · exact h
            · rw [List.getElem?_eq_none h] at hx; cases hx
          obtain ⟨u1, u2⟩ := a4 i x hx
          obtain ⟨w1, w2⟩ := c3 i x hx
          obtain ⟨k1, k2⟩ := okLt hx
          rw [q10 _ (by omega), q10 _ (by omega), u1, u2, w1, w2]
          unfold lnR zFar
          rcases k2 with ⟨k2, k3⟩ | ⟨k2, k3⟩
          · rw [if_pos k2]
            exact ⟨by omega, ⟨by omega, by omega⟩, Or.inl ⟨by omega, k3⟩⟩
          · rw [if_neg (by omega)]
            exact ⟨by omega, ⟨by omega, by omega⟩, Or.inr ⟨by omega, rfl, k3⟩⟩
    have n_start : j_start es2 := by
      have c80 : ∀ i, 13 ≤ i → i < 49 → gA es2 80 i = gA es 80 i := fun i h1 h2 => by
        rcases hml with ⟨-, c1⟩ | ⟨-, -, c2, -⟩
        · rw [c1 i h1 (by omega), w80 i (by omega)]
        · rw [c2 i h1 (by omega) (by omega), w80 i (by omega)]
      exact stT_c j_start_ (fun i hi => by rw [keepA hf2 (sh_of hT1) (p := 11) (t := 0) (n := 36) rfl (by decide) (by decide) i hi, keepA hf1 (sh_of hT) (p := 11) (t := 0) (n := 36) rfl (by decide) (by decide) i hi]) c80
    have n_stK : j_stK es2 := by
      intro i hi
      have a : gI es2 7 0 = gI es1 7 0 := keepI hf2 (sh_of hT1) (p := 7) (b := 0) rfl (by decide)
      have b11 : gA es2 11 i = gA es 11 i := by rw [keepA hf2 (sh_of hT1) (p := 11) (t := 0) (n := 36) rfl (by decide) (by decide) i hi, keepA hf1 (sh_of hT) (p := 11) (t := 0) (n := 36) rfl (by decide) (by decide) i hi]
      have j := j_stK_ i hi
      rw [a, b11]
      rcases hk with ⟨-, -, h3⟩ | ⟨-, -, h3⟩ | ⟨-, -, h3, -⟩
      · rw [h3]; exact j
      · rw [h3]; exact j
      · omega
    exact ⟨kp_tape hf2 (sh_of hT1) (by decide) (kp_tape hf1 (sh_of hT) (by decide) j_tape_), n_size, kp_flag hf2 (sh_of hT1) (by decide) (kp_flag hf1 (sh_of hT) (by decide) j_flag_), n_kinds, kp_kindsI hf2 (sh_of hT1) (by decide) (kp_kindsI hf1 (sh_of hT) (by decide) j_kindsI_), n_lines, kp_linesI hf2 (sh_of hT1) (by decide) (kp_linesI hf1 (sh_of hT) (by decide) j_linesI_), n_start, kp_startI hf2 (sh_of hT1) (by decide) (kp_startI hf1 (sh_of hT) (by decide) j_startI_), kp_books hf2 (sh_of hT1) (by decide) (kp_books hf1 (sh_of hT) (by decide) j_books_), kp_booksI hf2 (sh_of hT1) (by decide) (kp_booksI hf1 (sh_of hT) (by decide) j_booksI_), n_stK, kp_stKI hf2 (sh_of hT1) (by decide) (kp_stKI hf1 (sh_of hT) (by decide) j_stKI_), kp_notes hf2 (sh_of hT1) (by decide) (kp_notes hf1 (sh_of hT) (by decide) j_notes_), kp_notesI hf2 (sh_of hT1) (by decide) (kp_notesI hf1 (sh_of hT) (by decide) j_notesI_)⟩
  have fin : ∀ y5 y6 y7, aW (pO0 xs n) 41 301 (kc + c1 + c2) (ks + k1 + k2) lawQ (23, lawL (i + 7) y5 y6 y7, [], es2) := fun y5 y6 y7 => K es2 _ _ y5 y6 y7 hT2 hI2 hJ2 (by omega) (by omega)
  show aW _ _ _ _ _ _ (309, [some (.ref 7), some (.ref 64), some (.ref 143), some (.ref 171), some (.int (zI i)), some (.int (zI k)), x6, x7], [.int (zI b)], es2)
  exact s_l2c (O := pO0 xs n) (d := 41) (n0 := n) (xs := xs) (sh_of hT2) ⟨h0, h7⟩ hn rfl hkr hbr (fin _ _ _)
theorem s_l3a {O : pOut} {d kc ks : Nat} {Q : pRes → Prop} {es : PH} {xs : Nat → Int32} {n0 : Nat} {i : Int} {x5 x6 x7 : Option Value} (hs_es : sh es) (h_i : 0 ≤ i ∧ i + 7 ≤ (n0 : Int)) (hn0 : n0 ≤ 3584) (hO : O 7 = some (n0, xs))
    (K1 : aW O d 301 kc ks Q (316, [some (.ref 7), some (.ref 64), some (.ref 143), some (.ref 171), some (.int (zI i)), x5, x6, x7], [.ref 171, .ref 64], es)) :
    aW O d 301 kc ks Q (314, [some (.ref 7), some (.ref 64), some (.ref 143), some (.ref 171), some (.int (zI i)), x5, x6, x7], [], es) := by
  refine x0 (r := (315, [some (.ref 7), some (.ref 64), some (.ref 143), some (.ref 171), some (.int (zI i)), x5, x6, x7], [.ref 64], es)) i_301_314 rfl ?_
  refine x0 (r := (316, [some (.ref 7), some (.ref 64), some (.ref 143), some (.ref 171), some (.int (zI i)), x5, x6, x7], [.ref 171, .ref 64], es)) i_301_315 rfl ?_
  exact K1
theorem s_l3b {O : pOut} {d kc ks : Nat} {Q : pRes → Prop} {es : PH} {xs : Nat → Int32} {n0 : Nat} {i k : Int} {x5 x6 x7 : Option Value} (hs_es : sh es) (h_i : 0 ≤ i ∧ i + 7 ≤ (n0 : Int)) (hn0 : n0 ≤ 3584) (hO : O 7 = some (n0, xs))
    (K1 : aW O d 301 kc ks Q (322, [some (.ref 7), some (.ref 64), some (.ref 143), some (.ref 171), some (.int (zI i)), some (.int (zI k)), x6, x7], [.ref 143], es)) :
    aW O d 301 kc ks Q (319, [some (.ref 7), some (.ref 64), some (.ref 143), some (.ref 171), some (.int (zI i)), x5, x6, x7], [.int (zI k)], es) := by
  refine x0 (r := (321, [some (.ref 7), some (.ref 64), some (.ref 143), some (.ref 171), some (.int (zI i)), some (.int (zI k)), x6, x7], [], es)) i_301_319 rfl ?_
  refine x0 (r := (322, [some (.ref 7), some (.ref 64), some (.ref 143), some (.ref 171), some (.int (zI i)), some (.int (zI k)), x6, x7], [.ref 143], es)) i_301_321 rfl ?_
  exact K1
theorem s_l3c {O : pOut} {d kc ks : Nat} {Q : pRes → Prop} {es : PH} {xs : Nat → Int32} {n0 : Nat} {i k b : Int} {x6 x7 : Option Value} (hs_es : sh es) (h_i : 0 ≤ i ∧ i + 7 ≤ (n0 : Int)) (hn0 : n0 ≤ 3584) (hO : O 7 = some (n0, xs)) (h_k : -2147483648 ≤ k ∧ k ≤ 2147483647) (h_b : -2147483648 ≤ b ∧ b ≤ 2147483647)
    (K1 : aW O d 301 kc ks Q (23, [some (.ref 7), some (.ref 64), some (.ref 143), some (.ref 171), some (.int (zI (i + 7))), some (.int (zI k)), some (.int (zI b)), x7], [], es)) :
    aW O d 301 kc ks Q (325, [some (.ref 7), some (.ref 64), some (.ref 143), some (.ref 171), some (.int (zI i)), some (.int (zI k)), x6, x7], [.int (zI b)], es) := by
  refine x0 (r := (327, [some (.ref 7), some (.ref 64), some (.ref 143), some (.ref 171), some (.int (zI i)), some (.int (zI k)), some (.int (zI b)), x7], [], es)) i_301_325 rfl ?_
  refine x0 (r := (1439, [some (.ref 7), some (.ref 64), some (.ref 143), some (.ref 171), some (.int (zI i)), some (.int (zI k)), some (.int (zI b)), x7], [], es)) i_301_327 rfl ?_
  refine x_iinc (x := i) i_301_1439 rfl (by show 4 < 8; decide) ?_
  show aW _ _ _ _ _ _ (1442, [some (.ref 7), some (.ref 64), some (.ref 143), some (.ref 171), some (.int (zI (i + 7))), some (.int (zI k)), some (.int (zI b)), x7], [], es)
  refine x0 (r := (23, [some (.ref 7), some (.ref 64), some (.ref 143), some (.ref 171), some (.int (zI (i + 7))), some (.int (zI k)), some (.int (zI b)), x7], [], es)) i_301_1442 rfl ?_
  exact K1
theorem lh_3 {xs : Nat → Int32} {n : Nat} (hn : n ≤ 3584) {i : Int} {es : PH} {kc ks : Nat} {x5 x6 x7 : Option Value} (h0 : 0 ≤ i) (h7 : i + 7 ≤ (n : Int)) (hT : hOK tT es) (hI : gInv es) (hJ : J es) (K : lawK J xs n i kc ks) : aW (pO0 xs n) 41 301 kc ks lawQ (314, lawL i x5 x6 x7, [], es) := by
  refine s_l3a (d := 41) (n0 := n) (xs := xs) (sh_of hT) ⟨h0, h7⟩ hn rfl ?_
  have hJ0 := hJ
  obtain ⟨j_tape_, j_size_, j_flag_, j_kinds_, j_kindsI_, j_lines_, j_linesI_, j_start_, j_startI_, j_books_, j_booksI_, j_stK_, j_stKI_, j_notes_, j_notesI_⟩ := hJ0
  refine x_call (vs := [.ref 64, .ref 171]) (rs := []) i_301_316 rfl (fun _ => rfl) rfl rfl rfl rfl rfl rfl ?_
  show aW _ _ _ _ _ _ (0, [some (.ref 64), some (.ref 171), none], [], es)
  refine aW_sh (aW_and (bs_278 hn (by decide) hT hI) (fn_xmeas hn (by decide) hT hI)) (fun r es1 c1 k1 hp => ?_)
  obtain ⟨⟨hT1, hI1, hf1, hc1, hk1⟩, hp1⟩ : (hOK tT es1 ∧ gInv es1 ∧ fr kc_378.2.2.2.2.2.1 es es1 ∧ c1 ≤ 1 ∧ k1 ≤ 6) ∧ ((gI es1 1 1).toInt = 0 ∧ ∃ x : Int32, r = .inl (some (.int x))) := hp
  obtain ⟨h11, x, rfl⟩ := hp1
  obtain ⟨k, hkr, rfl⟩ : ∃ k : Int, (-2147483648 ≤ k ∧ k ≤ 2147483647) ∧ x = zI k := ⟨x.toInt, i32_rng x, (zI_id x).symm⟩
  show aW _ _ _ _ _ _ (319, [some (.ref 7), some (.ref 64), some (.ref 143), some (.ref 171), some (.int (zI i)), x5, x6, x7], [.int (zI k)], es1)
  refine s_l3b (d := 41) (n0 := n) (xs := xs) (sh_of hT1) ⟨h0, h7⟩ hn rfl ?_
  refine x_call (vs := [.ref 143]) (rs := []) i_301_322 rfl (fun _ => rfl) rfl rfl rfl rfl rfl (pCall_v (p := 79) (sh_of hT1) rfl rfl rfl rfl rfl (by decide) rfl rfl rfl rfl rfl) ?_
  show aW _ _ _ _ _ _ (0, [some (.ref 143), none, none], [], es1)
  refine aW_sh (aW_and (bs_195 hn (by decide) hT1 hI1) (fn_mmeas hn (by decide) hT1 hI1)) (fun r2 es2 c2 k2 hq => ?_)
  obtain ⟨⟨hT2, hI2, hf2, hc2, hk2⟩, hp2⟩ : (hOK tT es2 ∧ gInv es2 ∧ fr kc_379.2.2.2.2.2.1 es1 es2 ∧ c2 ≤ 0 ∧ k2 ≤ 0) ∧ ((gI es2 79 5).toInt = 0 ∧ ∃ x : Int32, r2 = .inl (some (.int x))) := hq
  obtain ⟨h75, y, rfl⟩ := hp2
  obtain ⟨b, hbr, rfl⟩ : ∃ b : Int, (-2147483648 ≤ b ∧ b ≤ 2147483647) ∧ y = zI b := ⟨y.toInt, i32_rng y, (zI_id y).symm⟩
  have hJ2 : J es2 := by
    have n_size : j_size es2 := by
      have a : gI es2 1 1 = gI es1 1 1 := keepI hf2 (sh_of hT1) (p := 1) (b := 1) rfl (by decide)
      show gI es2 1 1 = gI es2 79 5
      apply Int32.toInt_inj.mp
      rw [a, h11, h75]
    exact ⟨kp_tape hf2 (sh_of hT1) (by decide) (kp_tape hf1 (sh_of hT) (by decide) j_tape_), n_size, kp_flag hf2 (sh_of hT1) (by decide) (kp_flag hf1 (sh_of hT) (by decide) j_flag_), kp_kinds hf2 (sh_of hT1) (by decide) (kp_kinds hf1 (sh_of hT) (by decide) j_kinds_), kp_kindsI hf2 (sh_of hT1) (by decide) (kp_kindsI hf1 (sh_of hT) (by decide) j_kindsI_), kp_lines hf2 (sh_of hT1) (by decide) (kp_lines hf1 (sh_of hT) (by decide) j_lines_), kp_linesI hf2 (sh_of hT1) (by decide) (kp_linesI hf1 (sh_of hT) (by decide) j_linesI_), kp_start hf2 (sh_of hT1) (by decide) (kp_start hf1 (sh_of hT) (by decide) j_start_), kp_startI hf2 (sh_of hT1) (by decide) (kp_startI hf1 (sh_of hT) (by decide) j_startI_), kp_books hf2 (sh_of hT1) (by decide) (kp_books hf1 (sh_of hT) (by decide) j_books_), kp_booksI hf2 (sh_of hT1) (by decide) (kp_booksI hf1 (sh_of hT) (by decide) j_booksI_), kp_stK hf2 (sh_of hT1) (by decide) (kp_stK hf1 (sh_of hT) (by decide) j_stK_), kp_stKI hf2 (sh_of hT1) (by decide) (kp_stKI hf1 (sh_of hT) (by decide) j_stKI_), kp_notes hf2 (sh_of hT1) (by decide) (kp_notes hf1 (sh_of hT) (by decide) j_notes_), kp_notesI hf2 (sh_of hT1) (by decide) (kp_notesI hf1 (sh_of hT) (by decide) j_notesI_)⟩
  have fin : ∀ y5 y6 y7, aW (pO0 xs n) 41 301 (kc + c1 + c2) (ks + k1 + k2) lawQ (23, lawL (i + 7) y5 y6 y7, [], es2) := fun y5 y6 y7 => K es2 _ _ y5 y6 y7 hT2 hI2 hJ2 (by omega) (by omega)
  show aW _ _ _ _ _ _ (325, [some (.ref 7), some (.ref 64), some (.ref 143), some (.ref 171), some (.int (zI i)), some (.int (zI k)), x6, x7], [.int (zI b)], es2)
  exact s_l3c (O := pO0 xs n) (d := 41) (n0 := n) (xs := xs) (sh_of hT2) ⟨h0, h7⟩ hn rfl hkr hbr (fin _ _ _)
theorem s_l5a {O : pOut} {d kc ks : Nat} {Q : pRes → Prop} {es : PH} {xs : Nat → Int32} {n0 : Nat} {i : Int} {x5 x6 x7 : Option Value} (hs_es : sh es) (h_i : 0 ≤ i ∧ i + 7 ≤ (n0 : Int)) (hn0 : n0 ≤ 3584) (hO : O 7 = some (n0, xs))
    (K1 : ∀ v1 : Int, v1 = (xs (i + 1).toNat).toInt → ∀ v2 : Int, v2 = (xs (i + 2).toNat).toInt → ∀ v3 : Int, v3 = (xs (i + 3).toNat).toInt → aW O d 301 kc ks Q (362, [some (.ref 7), some (.ref 64), some (.ref 143), some (.ref 171), some (.int (zI i)), x5, x6, x7], [.int (zI v3), .int (zI v2), .int (zI v1), .ref 64], es)) :
    aW O d 301 kc ks Q (343, [some (.ref 7), some (.ref 64), some (.ref 143), some (.ref 171), some (.int (zI i)), x5, x6, x7], [], es) := by
  refine x0 (r := (344, [some (.ref 7), some (.ref 64), some (.ref 143), some (.ref 171), some (.int (zI i)), x5, x6, x7], [.ref 64], es)) i_301_343 rfl ?_
  refine x0 (r := (345, [some (.ref 7), some (.ref 64), some (.ref 143), some (.ref 171), some (.int (zI i)), x5, x6, x7], [.ref 7, .ref 64], es)) i_301_344 rfl ?_
  refine x0 (r := (347, [some (.ref 7), some (.ref 64), some (.ref 143), some (.ref 171), some (.int (zI i)), x5, x6, x7], [.int (zI i), .ref 7, .ref 64], es)) i_301_345 rfl ?_
  refine x0 (r := (348, [some (.ref 7), some (.ref 64), some (.ref 143), some (.ref 171), some (.int (zI i)), x5, x6, x7], [.int (zI 1), .int (zI i), .ref 7, .ref 64], es)) i_301_347 (by rfl) ?_
  refine x_iadd i_301_348 ?_
  refine x_oald (n := n0) (g := xs) i_301_349 hO (by unfold i32 iLO iHI; omega) (by omega) (by omega) ?_
  obtain ⟨v1, e_v1⟩ : ∃ z : Int, z = (xs (i + 1).toNat).toInt := ⟨_, rfl⟩
  rw [← e_v1]
  have r_v1 : iLO ≤ v1 ∧ v1 ≤ iHI := by rw [e_v1]; exact i32_rng _
  unfold iLO iHI at r_v1
  refine x0 (r := (351, [some (.ref 7), some (.ref 64), some (.ref 143), some (.ref 171), some (.int (zI i)), x5, x6, x7], [.ref 7, .int (zI v1), .ref 64], es)) i_301_350 rfl ?_
  refine x0 (r := (353, [some (.ref 7), some (.ref 64), some (.ref 143), some (.ref 171), some (.int (zI i)), x5, x6, x7], [.int (zI i), .ref 7, .int (zI v1), .ref 64], es)) i_301_351 rfl ?_
  refine x0 (r := (354, [some (.ref 7), some (.ref 64), some (.ref 143), some (.ref 171), some (.int (zI i)), x5, x6, x7], [.int (zI 2), .int (zI i), .ref 7, .int (zI v1), .ref 64], es)) i_301_353 (by rfl) ?_
  refine x_iadd i_301_354 ?_
  refine x_oald (n := n0) (g := xs) i_301_355 hO (by unfold i32 iLO iHI; omega) (by omega) (by omega) ?_
  obtain ⟨v2, e_v2⟩ : ∃ z : Int, z = (xs (i + 2).toNat).toInt := ⟨_, rfl⟩
  rw [← e_v2]
  have r_v2 : iLO ≤ v2 ∧ v2 ≤ iHI := by rw [e_v2]; exact i32_rng _
  unfold iLO iHI at r_v2
  refine x0 (r := (357, [some (.ref 7), some (.ref 64), some (.ref 143), some (.ref 171), some (.int (zI i)), x5, x6, x7], [.ref 7, .int (zI v2), .int (zI v1), .ref 64], es)) i_301_356 rfl ?_
  refine x0 (r := (359, [some (.ref 7), some (.ref 64), some (.ref 143), some (.ref 171), some (.int (zI i)), x5, x6, x7], [.int (zI i), .ref 7, .int (zI v2), .int (zI v1), .ref 64], es)) i_301_357 rfl ?_
  refine x0 (r := (360, [some (.ref 7), some (.ref 64), some (.ref 143), some (.ref 171), some (.int (zI i)), x5, x6, x7], [.int (zI 3), .int (zI i), .ref 7, .int (zI v2), .int (zI v1), .ref 64], es)) i_301_359 (by rfl) ?_
  refine x_iadd i_301_360 ?_
  refine x_oald (n := n0) (g := xs) i_301_361 hO (by unfold i32 iLO iHI; omega) (by omega) (by omega) ?_
  obtain ⟨v3, e_v3⟩ : ∃ z : Int, z = (xs (i + 3).toNat).toInt := ⟨_, rfl⟩
  rw [← e_v3]
  have r_v3 : iLO ≤ v3 ∧ v3 ≤ iHI := by rw [e_v3]; exact i32_rng _
  unfold iLO iHI at r_v3
  exact K1 v1 e_v1 v2 e_v2 v3 e_v3
theorem s_l5b {O : pOut} {d kc ks : Nat} {Q : pRes → Prop} {es : PH} {xs : Nat → Int32} {n0 : Nat} {i k : Int} {x5 x6 x7 : Option Value} (hs_es : sh es) (h_i : 0 ≤ i ∧ i + 7 ≤ (n0 : Int)) (hn0 : n0 ≤ 3584) (hO : O 7 = some (n0, xs))
    (K1 : ∀ v1 : Int, v1 = (xs (i + 1).toNat).toInt → ∀ v2 : Int, v2 = (xs (i + 2).toNat).toInt → ∀ v3 : Int, v3 = (xs (i + 3).toNat).toInt → aW O d 301 kc ks Q (386, [some (.ref 7), some (.ref 64), some (.ref 143), some (.ref 171), some (.int (zI i)), some (.int (zI k)), x6, x7], [.int (zI v3), .int (zI v2), .int (zI v1), .ref 143], es)) :
    aW O d 301 kc ks Q (365, [some (.ref 7), some (.ref 64), some (.ref 143), some (.ref 171), some (.int (zI i)), x5, x6, x7], [.int (zI k)], es) := by
  refine x0 (r := (367, [some (.ref 7), some (.ref 64), some (.ref 143), some (.ref 171), some (.int (zI i)), some (.int (zI k)), x6, x7], [], es)) i_301_365 rfl ?_
  refine x0 (r := (368, [some (.ref 7), some (.ref 64), some (.ref 143), some (.ref 171), some (.int (zI i)), some (.int (zI k)), x6, x7], [.ref 143], es)) i_301_367 rfl ?_
  refine x0 (r := (369, [some (.ref 7), some (.ref 64), some (.ref 143), some (.ref 171), some (.int (zI i)), some (.int (zI k)), x6, x7], [.ref 7, .ref 143], es)) i_301_368 rfl ?_
  refine x0 (r := (371, [some (.ref 7), some (.ref 64), some (.ref 143), some (.ref 171), some (.int (zI i)), some (.int (zI k)), x6, x7], [.int (zI i), .ref 7, .ref 143], es)) i_301_369 rfl ?_
  refine x0 (r := (372, [some (.ref 7), some (.ref 64), some (.ref 143), some (.ref 171), some (.int (zI i)), some (.int (zI k)), x6, x7], [.int (zI 1), .int (zI i), .ref 7, .ref 143], es)) i_301_371 (by rfl) ?_
  refine x_iadd i_301_372 ?_
  refine x_oald (n := n0) (g := xs) i_301_373 hO (by unfold i32 iLO iHI; omega) (by omega) (by omega) ?_
  obtain ⟨v1, e_v1⟩ : ∃ z : Int, z = (xs (i + 1).toNat).toInt := ⟨_, rfl⟩
  rw [← e_v1]
  have r_v1 : iLO ≤ v1 ∧ v1 ≤ iHI := by rw [e_v1]; exact i32_rng _
  unfold iLO iHI at r_v1
  refine x0 (r := (375, [some (.ref 7), some (.ref 64), some (.ref 143), some (.ref 171), some (.int (zI i)), some (.int (zI k)), x6, x7], [.ref 7, .int (zI v1), .ref 143], es)) i_301_374 rfl ?_
  refine x0 (r := (377, [some (.ref 7), some (.ref 64), some (.ref 143), some (.ref 171), some (.int (zI i)), some (.int (zI k)), x6, x7], [.int (zI i), .ref 7, .int (zI v1), .ref 143], es)) i_301_375 rfl ?_
  refine x0 (r := (378, [some (.ref 7), some (.ref 64), some (.ref 143), some (.ref 171), some (.int (zI i)), some (.int (zI k)), x6, x7], [.int (zI 2), .int (zI i), .ref 7, .int (zI v1), .ref 143], es)) i_301_377 (by rfl) ?_
  refine x_iadd i_301_378 ?_
  refine x_oald (n := n0) (g := xs) i_301_379 hO (by unfold i32 iLO iHI; omega) (by omega) (by omega) ?_
  obtain ⟨v2, e_v2⟩ : ∃ z : Int, z = (xs (i + 2).toNat).toInt := ⟨_, rfl⟩
  rw [← e_v2]
  have r_v2 : iLO ≤ v2 ∧ v2 ≤ iHI := by rw [e_v2]; exact i32_rng _
  unfold iLO iHI at r_v2
  refine x0 (r := (381, [some (.ref 7), some (.ref 64), some (.ref 143), some (.ref 171), some (.int (zI i)), some (.int (zI k)), x6, x7], [.ref 7, .int (zI v2), .int (zI v1), .ref 143], es)) i_301_380 rfl ?_
  refine x0 (r := (383, [some (.ref 7), some (.ref 64), some (.ref 143), some (.ref 171), some (.int (zI i)), some (.int (zI k)), x6, x7], [.int (zI i), .ref 7, .int (zI v2), .int (zI v1), .ref 143], es)) i_301_381 rfl ?_
  refine x0 (r := (384, [some (.ref 7), some (.ref 64), some (.ref 143), some (.ref 171), some (.int (zI i)), some (.int (zI k)), x6, x7], [.int (zI 3), .int (zI i), .ref 7, .int (zI v2), .int (zI v1), .ref 143], es)) i_301_383 (by rfl) ?_
  refine x_iadd i_301_384 ?_
  refine x_oald (n := n0) (g := xs) i_301_385 hO (by unfold i32 iLO iHI; omega) (by omega) (by omega) ?_
  obtain ⟨v3, e_v3⟩ : ∃ z : Int, z = (xs (i + 3).toNat).toInt := ⟨_, rfl⟩
  rw [← e_v3]
  have r_v3 : iLO ≤ v3 ∧ v3 ≤ iHI := by rw [e_v3]; exact i32_rng _
  unfold iLO iHI at r_v3
  exact K1 v1 e_v1 v2 e_v2 v3 e_v3
theorem s_l5c {O : pOut} {d kc ks : Nat} {Q : pRes → Prop} {es : PH} {xs : Nat → Int32} {n0 : Nat} {i k : Int} {x6 x7 : Option Value} (hs_es : sh es) (h_i : 0 ≤ i ∧ i + 7 ≤ (n0 : Int)) (hn0 : n0 ≤ 3584) (hO : O 7 = some (n0, xs)) (h_k : -2147483648 ≤ k ∧ k ≤ 2147483647)
    (K1 : aW O d 301 kc ks Q (23, [some (.ref 7), some (.ref 64), some (.ref 143), some (.ref 171), some (.int (zI (i + 7))), some (.int (zI k)), x6, x7], [], es)) :
    aW O d 301 kc ks Q (389, [some (.ref 7), some (.ref 64), some (.ref 143), some (.ref 171), some (.int (zI i)), some (.int (zI k)), x6, x7], [], es) := by
  refine x0 (r := (1439, [some (.ref 7), some (.ref 64), some (.ref 143), some (.ref 171), some (.int (zI i)), some (.int (zI k)), x6, x7], [], es)) i_301_389 rfl ?_
  refine x_iinc (x := i) i_301_1439 rfl (by show 4 < 8; decide) ?_
  show aW _ _ _ _ _ _ (1442, [some (.ref 7), some (.ref 64), some (.ref 143), some (.ref 171), some (.int (zI (i + 7))), some (.int (zI k)), x6, x7], [], es)
  refine x0 (r := (23, [some (.ref 7), some (.ref 64), some (.ref 143), some (.ref 171), some (.int (zI (i + 7))), some (.int (zI k)), x6, x7], [], es)) i_301_1442 rfl ?_
  exact K1
theorem lh_5 {xs : Nat → Int32} {n : Nat} (hn : n ≤ 3584) {i : Int} {es : PH} {kc ks : Nat} {x5 x6 x7 : Option Value} (h0 : 0 ≤ i) (h7 : i + 7 ≤ (n : Int)) (hT : hOK tT es) (hI : gInv es) (hJ : J es) (K : lawK J xs n i kc ks) : aW (pO0 xs n) 41 301 kc ks lawQ (343, lawL i x5 x6 x7, [], es) := by
  refine s_l5a (d := 41) (n0 := n) (xs := xs) (sh_of hT) ⟨h0, h7⟩ hn rfl (fun v1 e_v1 v2 e_v2 v3 e_v3 => ?_)
  have b_v1 : i32 v1 := by rw [e_v1]; exact i32_rng _
  have b_v2 : i32 v2 := by rw [e_v2]; exact i32_rng _
  have b_v3 : i32 v3 := by rw [e_v3]; exact i32_rng _
  have hJ0 := hJ
  obtain ⟨j_tape_, j_size_, j_flag_, j_kinds_, j_kindsI_, j_lines_, j_linesI_, j_start_, j_startI_, j_books_, j_booksI_, j_stK_, j_stKI_, j_notes_, j_notesI_⟩ := hJ0
  refine x_call (vs := [.ref 64, .int (zI v1), .int (zI v2), .int (zI v3)]) (rs := []) i_301_362 rfl (fun _ => rfl) rfl rfl rfl rfl rfl rfl ?_
  show aW _ _ _ _ _ _ (0, [some (.ref 64), some (.int (zI v1)), some (.int (zI v2)), some (.int (zI v3)), none], [], es)
  refine aW_sh (aW_and (bs_279 hn (by decide) b_v1 b_v2 b_v3 hT hI) (fn_puty (O := pO0 xs n) (d := 37) b_v1 b_v2 b_v3 hT)) (fun r es1 c1 k1 hp => ?_)
  obtain ⟨⟨hT1, hI1, hf1, hc1, hk1⟩, hp1⟩ : (hOK tT es1 ∧ gInv es1 ∧ fr kc_380.2.2.2.2.2.1 es es1 ∧ c1 ≤ 1 ∧ k1 ≤ 6) ∧ putyP v1 v2 v3 es r es1 := hp
  obtain ⟨hs1, -, k, rfl, hk⟩ := hp1
  have hkr : -2147483648 ≤ k ∧ k ≤ 2147483647 := by rcases hk with ⟨h, -⟩ | ⟨h, -⟩ | ⟨h, -⟩ | ⟨h, -⟩ <;> omega
  have e80 : gA es1 80 0 = gA es 80 0 := keepA hf1 (sh_of hT) (p := 80) (t := 0) (n := 2125) (sp := tS80) rfl (by decide) (by decide) 0 (by omega)
  have hkd : gI es 7 0 = gA es 80 0 := j_kinds_
  have hw5 : (gI es 7 0).toInt ≤ (5 : Int) := by rw [hkd]; exact (gA_bd hT (p := 80) (k := 0) rfl (by omega) (by decide)).2
  have w80 : ∀ i, 13 ≤ i → i < 49 → gA es1 80 i = gA es 80 i := fun i h1 h2 => keepA hf1 (sh_of hT) (p := 80) (t := 0) (n := 2125) (sp := tS80) rfl (by decide) (by decide) i (by omega)
  show aW _ _ _ _ _ _ (365, [some (.ref 7), some (.ref 64), some (.ref 143), some (.ref 171), some (.int (zI i)), x5, x6, x7], [.int (zI k)], es1)
  refine s_l5b (d := 41) (n0 := n) (xs := xs) (sh_of hT1) ⟨h0, h7⟩ hn rfl (fun wv1 e_wv1 wv2 e_wv2 wv3 e_wv3 => ?_)
  rw [show wv1 = v1 from by rw [e_wv1, e_v1]]
  rw [show wv2 = v2 from by rw [e_wv2, e_v2]]
  rw [show wv3 = v3 from by rw [e_wv3, e_v3]]
  refine x_call (vs := [.ref 143, .int (zI v1), .int (zI v2), .int (zI v3)]) (rs := []) i_301_386 rfl (fun _ => rfl) rfl rfl rfl rfl rfl (pCall_v (p := 79) (sh_of hT1) rfl rfl rfl rfl rfl (by decide) rfl rfl rfl rfl rfl) ?_
  show aW _ _ _ _ _ _ (0, [some (.ref 143), some (.int (zI v1)), some (.int (zI v2)), some (.int (zI v3))], [], es1)
  refine aW_sh (aW_and (bs_196 hn (by decide) b_v1 b_v2 b_v3 hT1 hI1) (fn_putm (O := pO0 xs n) (d := 37) b_v1 b_v2 b_v3 hT1)) (fun r2 es2 c2 k2 hq => ?_)
  obtain ⟨⟨hT2, hI2, hf2, hc2, hk2⟩, hp2⟩ : (hOK tT es2 ∧ gInv es2 ∧ fr kc_321.2.2.2.2.2.1 es1 es2 ∧ c2 ≤ 0 ∧ k2 ≤ 0) ∧ putmP v1 v2 v3 es1 r2 es2 := hq
  obtain ⟨hs2, -, rfl, hb⟩ := hp2
  rw [e80, ← hkd] at hb
  have hJ2 : J es2 := by
    have n_start : j_start es2 := by
      have q : ∀ i, i < 36 → gA es2 11 i = gA es1 11 i := fun i hi => keepA hf2 (sh_of hT1) (p := 11) (t := 0) (n := 36) rfl (by decide) (by decide) i hi
      rcases hk with ⟨h, h', e⟩ | ⟨h, h', e⟩ | ⟨h, h', e⟩ | ⟨h, h', e⟩
      · rcases hb with ⟨-, g', z⟩ | ⟨-, g', z⟩ | ⟨-, g', z⟩ | ⟨-, g', z⟩
        · exact stT_c j_start_ (fun i hi => by rw [q i hi, e]) (fun i h1 h2 => by rw [z, w80 i h1 h2])
        · exact stT_c j_start_ (fun i hi => by rw [q i hi, e]) (fun i h1 h2 => by rw [z, w80 i h1 h2])
        · exfalso; omega
        · exfalso; omega
      · rcases hb with ⟨-, g', z⟩ | ⟨-, g', z⟩ | ⟨-, g', z⟩ | ⟨-, g', z⟩
        · exact stT_c j_start_ (fun i hi => by rw [q i hi, e]) (fun i h1 h2 => by rw [z, w80 i h1 h2])
        · exact stT_c j_start_ (fun i hi => by rw [q i hi, e]) (fun i h1 h2 => by rw [z, w80 i h1 h2])
        · exfalso; omega
        · exfalso; omega
      · rcases hb with ⟨-, g', z⟩ | ⟨-, g', z⟩ | ⟨-, g', z⟩ | ⟨-, g', z⟩
        · exfalso; omega
        · exfalso; omega
        · refine stT_u (q := v1) (x := 0) (y := -1) j_start_ (by omega) (by omega) (by omega) (by omega) (fun i hi => by rw [q i hi, e]) (fun i h1 h2 => ?_)
          rw [z]
          unfold upd
          rw [w80 i h1 h2]
        · exfalso; omega
      · rcases hb with ⟨-, g', z⟩ | ⟨-, g', z⟩ | ⟨-, g', z⟩ | ⟨-, g', z⟩
        · exfalso; omega
        · exfalso; omega
        · exfalso; omega
        · refine stT_u (q := v1) (x := (1 + (2 * v2)) + v3) (y := (2 * v2) + v3) j_start_ (by omega) (by omega) (by omega) (by omega) (fun i hi => by rw [q i hi, e]) (fun i h1 h2 => ?_)
          rw [z]
          unfold upd
          rw [w80 i h1 h2]
    have n_stK : j_stK es2 := by
      intro i hi
      have q : gA es2 11 i = gA es1 11 i := keepA hf2 (sh_of hT1) (p := 11) (t := 0) (n := 36) rfl (by decide) (by decide) i hi
      have a : gI es2 7 0 = gI es 7 0 := by rw [keepI hf2 (sh_of hT1) (p := 7) (b := 0) rfl (by decide), keepI hf1 (sh_of hT) (p := 7) (b := 0) rfl (by decide)]
      have j := j_stK_ i hi
      have kw : 0 ≤ (gA es 80 0).toInt ∧ (gA es 80 0).toInt ≤ 5 := gA_bd hT (p := 80) (t := 0) (n := 2125) (sp := tS80) (k := 0) rfl (by omega) (by decide)
      have kn : 0 ≤ (gI es 7 0).toInt := by rw [show gI es 7 0 = gA es 80 0 from j_kinds_]; exact kw.1
      rw [q, a]
      rcases hk with ⟨h, h', e⟩ | ⟨h, h', e⟩ | ⟨h, h', e⟩ | ⟨h, h', e⟩
      · rw [e]; exact j
      · rw [e]; exact j
      · rw [e]
        unfold upd
        by_cases hx : i = v1.toNat
        · rw [if_pos hx, zI_toInt (by unfold i32 iLO iHI; omega)]; omega
        · rw [if_neg hx]; exact j
      · rw [e]
        unfold upd
        by_cases hx : i = v1.toNat
        · rw [if_pos hx, zI_toInt (by unfold i32 iLO iHI; omega)]; omega
        · rw [if_neg hx]; exact j
    exact ⟨kp_tape hf2 (sh_of hT1) (by decide) (kp_tape hf1 (sh_of hT) (by decide) j_tape_), kp_size hf2 (sh_of hT1) (by decide) (kp_size hf1 (sh_of hT) (by decide) j_size_), kp_flag hf2 (sh_of hT1) (by decide) (kp_flag hf1 (sh_of hT) (by decide) j_flag_), kp_kinds hf2 (sh_of hT1) (by decide) (kp_kinds hf1 (sh_of hT) (by decide) j_kinds_), kp_kindsI hf2 (sh_of hT1) (by decide) (kp_kindsI hf1 (sh_of hT) (by decide) j_kindsI_), kp_lines hf2 (sh_of hT1) (by decide) (kp_lines hf1 (sh_of hT) (by decide) j_lines_), kp_linesI hf2 (sh_of hT1) (by decide) (kp_linesI hf1 (sh_of hT) (by decide) j_linesI_), n_start, kp_startI hf2 (sh_of hT1) (by decide) (kp_startI hf1 (sh_of hT) (by decide) j_startI_), kp_books hf2 (sh_of hT1) (by decide) (kp_books hf1 (sh_of hT) (by decide) j_books_), kp_booksI hf2 (sh_of hT1) (by decide) (kp_booksI hf1 (sh_of hT) (by decide) j_booksI_), n_stK, kp_stKI hf2 (sh_of hT1) (by decide) (kp_stKI hf1 (sh_of hT) (by decide) j_stKI_), kp_notes hf2 (sh_of hT1) (by decide) (kp_notes hf1 (sh_of hT) (by decide) j_notes_), kp_notesI hf2 (sh_of hT1) (by decide) (kp_notesI hf1 (sh_of hT) (by decide) j_notesI_)⟩
  have fin : ∀ y5 y6 y7, aW (pO0 xs n) 41 301 (kc + c1 + c2) (ks + k1 + k2) lawQ (23, lawL (i + 7) y5 y6 y7, [], es2) := fun y5 y6 y7 => K es2 _ _ y5 y6 y7 hT2 hI2 hJ2 (by omega) (by omega)
  show aW _ _ _ _ _ _ (389, [some (.ref 7), some (.ref 64), some (.ref 143), some (.ref 171), some (.int (zI i)), some (.int (zI k)), x6, x7], [], es2)
  have t0 : (gI es2 79 0).toInt = k := by rcases hk with ⟨h, h', -⟩ | ⟨h, h', -⟩ | ⟨h, h', -⟩ | ⟨h, h', -⟩ <;> rcases hb with ⟨q, q', -⟩ | ⟨q, q', -⟩ | ⟨q, q', -⟩ | ⟨q, q', -⟩ <;> omega
  exact s_l5c (O := pO0 xs n) (d := 41) (n0 := n) (xs := xs) (sh_of hT2) ⟨h0, h7⟩ hn rfl hkr (fin _ _ _)
theorem s_l7a {O : pOut} {d kc ks : Nat} {Q : pRes → Prop} {es : PH} {xs : Nat → Int32} {n0 : Nat} {i : Int} {x5 x6 x7 : Option Value} (hs_es : sh es) (h_i : 0 ≤ i ∧ i + 7 ≤ (n0 : Int)) (hn0 : n0 ≤ 3584) (hO : O 7 = some (n0, xs))
    (K1 : ∀ v1 : Int, v1 = (xs (i + 1).toNat).toInt → aW O d 301 kc ks Q (440, [some (.ref 7), some (.ref 64), some (.ref 143), some (.ref 171), some (.int (zI i)), x5, x6, x7], [.ref 171, .int (zI v1), .ref 64], es)) :
    aW O d 301 kc ks Q (432, [some (.ref 7), some (.ref 64), some (.ref 143), some (.ref 171), some (.int (zI i)), x5, x6, x7], [], es) := by
  refine x0 (r := (433, [some (.ref 7), some (.ref 64), some (.ref 143), some (.ref 171), some (.int (zI i)), x5, x6, x7], [.ref 64], es)) i_301_432 rfl ?_
  refine x0 (r := (434, [some (.ref 7), some (.ref 64), some (.ref 143), some (.ref 171), some (.int (zI i)), x5, x6, x7], [.ref 7, .ref 64], es)) i_301_433 rfl ?_
  refine x0 (r := (436, [some (.ref 7), some (.ref 64), some (.ref 143), some (.ref 171), some (.int (zI i)), x5, x6, x7], [.int (zI i), .ref 7, .ref 64], es)) i_301_434 rfl ?_
  refine x0 (r := (437, [some (.ref 7), some (.ref 64), some (.ref 143), some (.ref 171), some (.int (zI i)), x5, x6, x7], [.int (zI 1), .int (zI i), .ref 7, .ref 64], es)) i_301_436 (by rfl) ?_
  refine x_iadd i_301_437 ?_
  refine x_oald (n := n0) (g := xs) i_301_438 hO (by unfold i32 iLO iHI; omega) (by omega) (by omega) ?_
  obtain ⟨v1, e_v1⟩ : ∃ z : Int, z = (xs (i + 1).toNat).toInt := ⟨_, rfl⟩
  rw [← e_v1]
  have r_v1 : iLO ≤ v1 ∧ v1 ≤ iHI := by rw [e_v1]; exact i32_rng _
  unfold iLO iHI at r_v1
  refine x0 (r := (440, [some (.ref 7), some (.ref 64), some (.ref 143), some (.ref 171), some (.int (zI i)), x5, x6, x7], [.ref 171, .int (zI v1), .ref 64], es)) i_301_439 rfl ?_
  exact K1 v1 e_v1
theorem s_l7b {O : pOut} {d kc ks : Nat} {Q : pRes → Prop} {es : PH} {xs : Nat → Int32} {n0 : Nat} {i k : Int} {x5 x6 x7 : Option Value} (hs_es : sh es) (h_i : 0 ≤ i ∧ i + 7 ≤ (n0 : Int)) (hn0 : n0 ≤ 3584) (hO : O 7 = some (n0, xs))
    (K1 : ∀ v1 : Int, v1 = (xs (i + 1).toNat).toInt → aW O d 301 kc ks Q (452, [some (.ref 7), some (.ref 64), some (.ref 143), some (.ref 171), some (.int (zI i)), some (.int (zI k)), x6, x7], [.int (zI v1), .ref 143], es)) :
    aW O d 301 kc ks Q (443, [some (.ref 7), some (.ref 64), some (.ref 143), some (.ref 171), some (.int (zI i)), x5, x6, x7], [.int (zI k)], es) := by
  refine x0 (r := (445, [some (.ref 7), some (.ref 64), some (.ref 143), some (.ref 171), some (.int (zI i)), some (.int (zI k)), x6, x7], [], es)) i_301_443 rfl ?_
  refine x0 (r := (446, [some (.ref 7), some (.ref 64), some (.ref 143), some (.ref 171), some (.int (zI i)), some (.int (zI k)), x6, x7], [.ref 143], es)) i_301_445 rfl ?_
  refine x0 (r := (447, [some (.ref 7), some (.ref 64), some (.ref 143), some (.ref 171), some (.int (zI i)), some (.int (zI k)), x6, x7], [.ref 7, .ref 143], es)) i_301_446 rfl ?_
  refine x0 (r := (449, [some (.ref 7), some (.ref 64), some (.ref 143), some (.ref 171), some (.int (zI i)), some (.int (zI k)), x6, x7], [.int (zI i), .ref 7, .ref 143], es)) i_301_447 rfl ?_
  refine x0 (r := (450, [some (.ref 7), some (.ref 64), some (.ref 143), some (.ref 171), some (.int (zI i)), some (.int (zI k)), x6, x7], [.int (zI 1), .int (zI i), .ref 7, .ref 143], es)) i_301_449 (by rfl) ?_
  refine x_iadd i_301_450 ?_
  refine x_oald (n := n0) (g := xs) i_301_451 hO (by unfold i32 iLO iHI; omega) (by omega) (by omega) ?_
  obtain ⟨v1, e_v1⟩ : ∃ z : Int, z = (xs (i + 1).toNat).toInt := ⟨_, rfl⟩
  rw [← e_v1]
  have r_v1 : iLO ≤ v1 ∧ v1 ≤ iHI := by rw [e_v1]; exact i32_rng _
  unfold iLO iHI at r_v1
  exact K1 v1 e_v1
theorem s_l7c {O : pOut} {d kc ks : Nat} {Q : pRes → Prop} {es : PH} {xs : Nat → Int32} {n0 : Nat} {i k b : Int} {x6 x7 : Option Value} (hs_es : sh es) (h_i : 0 ≤ i ∧ i + 7 ≤ (n0 : Int)) (hn0 : n0 ≤ 3584) (hO : O 7 = some (n0, xs)) (h_k : -2147483648 ≤ k ∧ k ≤ 2147483647) (h_b : -2147483648 ≤ b ∧ b ≤ 2147483647)
    (K1 : aW O d 301 kc ks Q (23, [some (.ref 7), some (.ref 64), some (.ref 143), some (.ref 171), some (.int (zI (i + 7))), some (.int (zI k)), some (.int (zI b)), x7], [], es)) :
    aW O d 301 kc ks Q (455, [some (.ref 7), some (.ref 64), some (.ref 143), some (.ref 171), some (.int (zI i)), some (.int (zI k)), x6, x7], [.int (zI b)], es) := by
  refine x0 (r := (457, [some (.ref 7), some (.ref 64), some (.ref 143), some (.ref 171), some (.int (zI i)), some (.int (zI k)), some (.int (zI b)), x7], [], es)) i_301_455 rfl ?_
  refine x0 (r := (1439, [some (.ref 7), some (.ref 64), some (.ref 143), some (.ref 171), some (.int (zI i)), some (.int (zI k)), some (.int (zI b)), x7], [], es)) i_301_457 rfl ?_
  refine x_iinc (x := i) i_301_1439 rfl (by show 4 < 8; decide) ?_
  show aW _ _ _ _ _ _ (1442, [some (.ref 7), some (.ref 64), some (.ref 143), some (.ref 171), some (.int (zI (i + 7))), some (.int (zI k)), some (.int (zI b)), x7], [], es)
  refine x0 (r := (23, [some (.ref 7), some (.ref 64), some (.ref 143), some (.ref 171), some (.int (zI (i + 7))), some (.int (zI k)), some (.int (zI b)), x7], [], es)) i_301_1442 rfl ?_
  exact K1
theorem lh_7 {xs : Nat → Int32} {n : Nat} (hn : n ≤ 3584) {i : Int} {es : PH} {kc ks : Nat} {x5 x6 x7 : Option Value} (h0 : 0 ≤ i) (h7 : i + 7 ≤ (n : Int)) (hT : hOK tT es) (hI : gInv es) (hJ : J es) (K : lawK J xs n i kc ks) : aW (pO0 xs n) 41 301 kc ks lawQ (432, lawL i x5 x6 x7, [], es) := by
  refine s_l7a (d := 41) (n0 := n) (xs := xs) (sh_of hT) ⟨h0, h7⟩ hn rfl (fun v1 e_v1 => ?_)
  have b_v1 : i32 v1 := by rw [e_v1]; exact i32_rng _
  have hJ0 := hJ
  obtain ⟨j_tape_, j_size_, j_flag_, j_kinds_, j_kindsI_, j_lines_, j_linesI_, j_start_, j_startI_, j_books_, j_booksI_, j_stK_, j_stKI_, j_notes_, j_notesI_⟩ := hJ0
  refine x_call (vs := [.ref 64, .int (zI v1), .ref 171]) (rs := []) i_301_440 rfl (fun _ => rfl) rfl rfl rfl rfl rfl rfl ?_
  show aW _ _ _ _ _ _ (0, [some (.ref 64), some (.int (zI v1)), some (.ref 171), none], [], es)
  refine aW_sh (aW_and (bs_281 hn (by decide) b_v1 hT hI) (fn_booky (O := pO0 xs n) (d := 37) b_v1 hT)) (fun r es1 c1 k1 hp => ?_)
  obtain ⟨⟨hT1, hI1, hf1, hc1, hk1⟩, hp1⟩ : (hOK tT es1 ∧ gInv es1 ∧ fr kc_382.2.2.2.2.2.1 es es1 ∧ c1 ≤ 1 ∧ k1 ≤ 6) ∧ bookyP v1 es r es1 := hp
  obtain ⟨hs1, -, k, rfl, hk⟩ := hp1
  have hkr : -2147483648 ≤ k ∧ k ≤ 2147483647 := by rcases hk with ⟨h, -⟩ | ⟨h, -⟩ | ⟨h, -⟩ <;> omega
  have hbk : gI es 7 5 = gA es 80 1 := j_books_
  have e80 : gA es1 80 1 = gA es 80 1 := keepA hf1 (sh_of hT) (p := 80) (t := 0) (n := 2125) (sp := tS80) rfl (by decide) (by decide) 1 (by omega)
  have hB0 : 0 ≤ (gI es 7 5).toInt ∧ (gI es 7 5).toInt ≤ 3 := gI_bd hT (p := 7) (b := 5) rfl rfl
  show aW _ _ _ _ _ _ (443, [some (.ref 7), some (.ref 64), some (.ref 143), some (.ref 171), some (.int (zI i)), x5, x6, x7], [.int (zI k)], es1)
  refine s_l7b (d := 41) (n0 := n) (xs := xs) (sh_of hT1) ⟨h0, h7⟩ hn rfl (fun wv1 e_wv1 => ?_)
  rw [show wv1 = v1 from by rw [e_wv1, e_v1]]
  refine x_call (vs := [.ref 143, .int (zI v1)]) (rs := []) i_301_452 rfl (fun _ => rfl) rfl rfl rfl rfl rfl (pCall_v (p := 79) (sh_of hT1) rfl rfl rfl rfl rfl (by decide) rfl rfl rfl rfl rfl) ?_
  show aW _ _ _ _ _ _ (0, [some (.ref 143), some (.int (zI v1)), none], [], es1)
  refine aW_sh (aW_and (bs_201 hn (by decide) b_v1 hT1 hI1) (fn_bookm (O := pO0 xs n) (d := 39) b_v1 hT1)) (fun r2 es2 c2 k2 hq => ?_)
  obtain ⟨⟨hT2, hI2, hf2, hc2, hk2⟩, hp2⟩ : (hOK tT es2 ∧ gInv es2 ∧ fr kc_332.2.2.2.2.2.1 es1 es2 ∧ c2 ≤ 0 ∧ k2 ≤ 0) ∧ bookmP v1 es1 r2 es2 := hq
  obtain ⟨hs2, -, b, rfl, hbr, hb⟩ := hp2
  rw [e80, ← hbk] at hb
  have hJ2 : J es2 := by
    have n_books : j_books es2 := by
      have a : gI es2 7 5 = gI es1 7 5 := keepI hf2 (sh_of hT1) (p := 7) (b := 5) rfl (by decide)
      show gI es2 7 5 = gA es2 80 1
      rw [a]
      apply Int32.toInt_inj.mp
      rcases hk with ⟨-, h, -, -, g1⟩ | ⟨-, h, -, -, g1⟩ | ⟨-, h, -, -, g1, -⟩
      · rcases hb with ⟨-, -, g2⟩ | ⟨-, -, g2⟩ | ⟨-, h', -⟩
        · rw [g1, g2, e80, ← hbk]
        · rw [g1, g2, e80, ← hbk]
        · exfalso; omega
      · rcases hb with ⟨-, -, g2⟩ | ⟨-, -, g2⟩ | ⟨-, h', -⟩
        · rw [g1, g2, e80, ← hbk]
        · rw [g1, g2, e80, ← hbk]
        · exfalso; omega
      · rcases hb with ⟨-, h', -⟩ | ⟨-, h', -⟩ | ⟨-, -, g2, -⟩
        · exfalso; omega
        · exfalso; omega
        · rw [g1, g2]
          unfold upd
          rw [if_pos (show (1 : Nat) = Int.toNat 1 from rfl), zI_toInt (by unfold i32 iLO iHI; omega)]
    have n_notes : j_notes es2 := by
      have a : gI es2 7 5 = gI es1 7 5 := keepI hf2 (sh_of hT1) (p := 7) (b := 5) rfl (by decide)
      have w80 : ∀ i, i < 2125 → gA es1 80 i = gA es 80 i := fun i hi => keepA hf1 (sh_of hT) (p := 80) (t := 0) (n := 2125) (sp := tS80) rfl (by decide) (by decide) i hi
      have r12 : ∀ i, i < 3 → gA es2 12 i = gA es1 12 i := fun i hi => keepA hf2 (sh_of hT1) (p := 12) (t := 0) (n := 3) rfl (by decide) (by decide) i hi
      have r13 : ∀ i, i < 3 → gA es2 13 i = gA es1 13 i := fun i hi => keepA hf2 (sh_of hT1) (p := 13) (t := 0) (n := 3) rfl (by decide) (by decide) i hi
      have r14 : ∀ i, i < 288 → gA es2 14 i = gA es 14 i := fun i hi => by rw [keepA hf2 (sh_of hT1) (p := 14) (t := 0) (n := 288) rfl (by decide) (by decide) i hi, keepA hf1 (sh_of hT) (p := 14) (t := 0) (n := 288) rfl (by decide) (by decide) i hi]
      show bkT _ _ _ _ (gI es2 7 5).toInt
      rw [a]
      rcases hk with ⟨-, h', e12, e13, e5⟩ | ⟨-, h', e12, e13, e5⟩ | ⟨-, h', e12, e13, e5, -⟩
      · rcases hb with ⟨-, q', z⟩ | ⟨-, q', z⟩ | ⟨-, q', z, -⟩
        · rw [e5]; exact bkT_c j_notes_ (fun i hi => by rw [r12 i hi, e12]) (fun i hi => by rw [r13 i hi, e13]) r14 (fun i h1 h2 => by rw [z, w80 i (by omega)])
        · rw [e5]; exact bkT_c j_notes_ (fun i hi => by rw [r12 i hi, e12]) (fun i hi => by rw [r13 i hi, e13]) r14 (fun i h1 h2 => by rw [z, w80 i (by omega)])
        · exfalso; omega
      · rcases hb with ⟨-, q', z⟩ | ⟨-, q', z⟩ | ⟨-, q', z, -⟩
        · rw [e5]; exact bkT_c j_notes_ (fun i hi => by rw [r12 i hi, e12]) (fun i hi => by rw [r13 i hi, e13]) r14 (fun i h1 h2 => by rw [z, w80 i (by omega)])
        · rw [e5]; exact bkT_c j_notes_ (fun i hi => by rw [r12 i hi, e12]) (fun i hi => by rw [r13 i hi, e13]) r14 (fun i h1 h2 => by rw [z, w80 i (by omega)])
        · exfalso; omega
      · rcases hb with ⟨-, q', z⟩ | ⟨-, q', z⟩ | ⟨-, q', z, -⟩
        · exfalso; omega
        · exfalso; omega
        · rw [e5]
          refine bkT_book (x := v1) j_notes_ ⟨by omega, by omega⟩ (fun i hi => by rw [r12 i hi, e12]) (fun i hi => by rw [r13 i hi, e13]) r14 (fun i h1 h2 => ?_)
          rw [z]
          unfold upd
          rw [if_neg (show ¬ i = Int.toNat 1 by show ¬ i = 1; omega), w80 i (by omega)]
    exact ⟨kp_tape hf2 (sh_of hT1) (by decide) (kp_tape hf1 (sh_of hT) (by decide) j_tape_), kp_size hf2 (sh_of hT1) (by decide) (kp_size hf1 (sh_of hT) (by decide) j_size_), kp_flag hf2 (sh_of hT1) (by decide) (kp_flag hf1 (sh_of hT) (by decide) j_flag_), kp_kinds hf2 (sh_of hT1) (by decide) (kp_kinds hf1 (sh_of hT) (by decide) j_kinds_), kp_kindsI hf2 (sh_of hT1) (by decide) (kp_kindsI hf1 (sh_of hT) (by decide) j_kindsI_), kp_lines hf2 (sh_of hT1) (by decide) (kp_lines hf1 (sh_of hT) (by decide) j_lines_), kp_linesI hf2 (sh_of hT1) (by decide) (kp_linesI hf1 (sh_of hT) (by decide) j_linesI_), kp_start hf2 (sh_of hT1) (by decide) (kp_start hf1 (sh_of hT) (by decide) j_start_), kp_startI hf2 (sh_of hT1) (by decide) (kp_startI hf1 (sh_of hT) (by decide) j_startI_), n_books, kp_booksI hf2 (sh_of hT1) (by decide) (kp_booksI hf1 (sh_of hT) (by decide) j_booksI_), kp_stK hf2 (sh_of hT1) (by decide) (kp_stK hf1 (sh_of hT) (by decide) j_stK_), kp_stKI hf2 (sh_of hT1) (by decide) (kp_stKI hf1 (sh_of hT) (by decide) j_stKI_), n_notes, kp_notesI hf2 (sh_of hT1) (by decide) (kp_notesI hf1 (sh_of hT) (by decide) j_notesI_)⟩
  have fin : ∀ y5 y6 y7, aW (pO0 xs n) 41 301 (kc + c1 + c2) (ks + k1 + k2) lawQ (23, lawL (i + 7) y5 y6 y7, [], es2) := fun y5 y6 y7 => K es2 _ _ y5 y6 y7 hT2 hI2 hJ2 (by omega) (by omega)
  show aW _ _ _ _ _ _ (455, [some (.ref 7), some (.ref 64), some (.ref 143), some (.ref 171), some (.int (zI i)), some (.int (zI k)), x6, x7], [.int (zI b)], es2)
  have t0 : (gI es2 79 0).toInt = k := by rcases hk with ⟨h, h', -⟩ | ⟨h, h', -⟩ | ⟨h, h', -⟩ <;> rcases hb with ⟨q, q', -⟩ | ⟨q, q', -⟩ | ⟨q, q', -⟩ <;> omega
  have t1 : k = 0 → (gJ es2 107 (Int.toNat 0)).toInt = b := by
    intro hk0
    have hj2 : gJ es2 107 (Int.toNat 0) = gJ es1 107 (Int.toNat 0) := keepJ hf2 (sh_of hT1) (p := 107) (n := 1) rfl (by decide) (Int.toNat 0) (by decide)
    rw [hj2]
    rcases hk with ⟨h, -⟩ | ⟨h, -⟩ | ⟨h, h', -, -, -, g1⟩
    · exfalso; omega
    · exfalso; omega
    · rcases hb with ⟨q, q', -⟩ | ⟨q, q', -⟩ | ⟨q, q', -, q1⟩
      · exfalso; omega
      · exfalso; omega
      · rw [g1, q1]
  exact s_l7c (O := pO0 xs n) (d := 41) (n0 := n) (xs := xs) (sh_of hT2) ⟨h0, h7⟩ hn rfl hkr hbr (fin _ _ _)
theorem s_l8a {O : pOut} {d kc ks : Nat} {Q : pRes → Prop} {es : PH} {xs : Nat → Int32} {n0 : Nat} {i : Int} {x5 x6 x7 : Option Value} (hs_es : sh es) (h_i : 0 ≤ i ∧ i + 7 ≤ (n0 : Int)) (hn0 : n0 ≤ 3584) (hO : O 7 = some (n0, xs))
    (K1 : ∀ v1 : Int, v1 = (xs (i + 1).toNat).toInt → ∀ v2 : Int, v2 = (xs (i + 2).toNat).toInt → ∀ v3 : Int, v3 = (xs (i + 3).toNat).toInt → ∀ v4 : Int, v4 = (xs (i + 4).toNat).toInt → ∀ v5 : Int, v5 = (xs (i + 5).toNat).toInt → aW O d 301 kc ks Q (492, [some (.ref 7), some (.ref 64), some (.ref 143), some (.ref 171), some (.int (zI i)), x5, x6, x7], [.ref 171, .int (zI v5), .int (zI v4), .int (zI v3), .int (zI v2), .int (zI v1), .ref 64], es)) :
    aW O d 301 kc ks Q (460, [some (.ref 7), some (.ref 64), some (.ref 143), some (.ref 171), some (.int (zI i)), x5, x6, x7], [], es) := by
  refine x0 (r := (461, [some (.ref 7), some (.ref 64), some (.ref 143), some (.ref 171), some (.int (zI i)), x5, x6, x7], [.ref 64], es)) i_301_460 rfl ?_
  refine x0 (r := (462, [some (.ref 7), some (.ref 64), some (.ref 143), some (.ref 171), some (.int (zI i)), x5, x6, x7], [.ref 7, .ref 64], es)) i_301_461 rfl ?_
  refine x0 (r := (464, [some (.ref 7), some (.ref 64), some (.ref 143), some (.ref 171), some (.int (zI i)), x5, x6, x7], [.int (zI i), .ref 7, .ref 64], es)) i_301_462 rfl ?_
  refine x0 (r := (465, [some (.ref 7), some (.ref 64), some (.ref 143), some (.ref 171), some (.int (zI i)), x5, x6, x7], [.int (zI 1), .int (zI i), .ref 7, .ref 64], es)) i_301_464 (by rfl) ?_
  refine x_iadd i_301_465 ?_
  refine x_oald (n := n0) (g := xs) i_301_466 hO (by unfold i32 iLO iHI; omega) (by omega) (by omega) ?_
  obtain ⟨v1, e_v1⟩ : ∃ z : Int, z = (xs (i + 1).toNat).toInt := ⟨_, rfl⟩
  rw [← e_v1]
  have r_v1 : iLO ≤ v1 ∧ v1 ≤ iHI := by rw [e_v1]; exact i32_rng _
  unfold iLO iHI at r_v1
  refine x0 (r := (468, [some (.ref 7), some (.ref 64), some (.ref 143), some (.ref 171), some (.int (zI i)), x5, x6, x7], [.ref 7, .int (zI v1), .ref 64], es)) i_301_467 rfl ?_
  refine x0 (r := (470, [some (.ref 7), some (.ref 64), some (.ref 143), some (.ref 171), some (.int (zI i)), x5, x6, x7], [.int (zI i), .ref 7, .int (zI v1), .ref 64], es)) i_301_468 rfl ?_
  refine x0 (r := (471, [some (.ref 7), some (.ref 64), some (.ref 143), some (.ref 171), some (.int (zI i)), x5, x6, x7], [.int (zI 2), .int (zI i), .ref 7, .int (zI v1), .ref 64], es)) i_301_470 (by rfl) ?_
  refine x_iadd i_301_471 ?_
  refine x_oald (n := n0) (g := xs) i_301_472 hO (by unfold i32 iLO iHI; omega) (by omega) (by omega) ?_
  obtain ⟨v2, e_v2⟩ : ∃ z : Int, z = (xs (i + 2).toNat).toInt := ⟨_, rfl⟩
  rw [← e_v2]
  have r_v2 : iLO ≤ v2 ∧ v2 ≤ iHI := by rw [e_v2]; exact i32_rng _
  unfold iLO iHI at r_v2
  refine x0 (r := (474, [some (.ref 7), some (.ref 64), some (.ref 143), some (.ref 171), some (.int (zI i)), x5, x6, x7], [.ref 7, .int (zI v2), .int (zI v1), .ref 64], es)) i_301_473 rfl ?_
  refine x0 (r := (476, [some (.ref 7), some (.ref 64), some (.ref 143), some (.ref 171), some (.int (zI i)), x5, x6, x7], [.int (zI i), .ref 7, .int (zI v2), .int (zI v1), .ref 64], es)) i_301_474 rfl ?_
  refine x0 (r := (477, [some (.ref 7), some (.ref 64), some (.ref 143), some (.ref 171), some (.int (zI i)), x5, x6, x7], [.int (zI 3), .int (zI i), .ref 7, .int (zI v2), .int (zI v1), .ref 64], es)) i_301_476 (by rfl) ?_
  refine x_iadd i_301_477 ?_
  refine x_oald (n := n0) (g := xs) i_301_478 hO (by unfold i32 iLO iHI; omega) (by omega) (by omega) ?_
  obtain ⟨v3, e_v3⟩ : ∃ z : Int, z = (xs (i + 3).toNat).toInt := ⟨_, rfl⟩
  rw [← e_v3]
  have r_v3 : iLO ≤ v3 ∧ v3 ≤ iHI := by rw [e_v3]; exact i32_rng _
  unfold iLO iHI at r_v3
  refine x0 (r := (480, [some (.ref 7), some (.ref 64), some (.ref 143), some (.ref 171), some (.int (zI i)), x5, x6, x7], [.ref 7, .int (zI v3), .int (zI v2), .int (zI v1), .ref 64], es)) i_301_479 rfl ?_
  refine x0 (r := (482, [some (.ref 7), some (.ref 64), some (.ref 143), some (.ref 171), some (.int (zI i)), x5, x6, x7], [.int (zI i), .ref 7, .int (zI v3), .int (zI v2), .int (zI v1), .ref 64], es)) i_301_480 rfl ?_
  refine x0 (r := (483, [some (.ref 7), some (.ref 64), some (.ref 143), some (.ref 171), some (.int (zI i)), x5, x6, x7], [.int (zI 4), .int (zI i), .ref 7, .int (zI v3), .int (zI v2), .int (zI v1), .ref 64], es)) i_301_482 (by rfl) ?_
  refine x_iadd i_301_483 ?_
  refine x_oald (n := n0) (g := xs) i_301_484 hO (by unfold i32 iLO iHI; omega) (by omega) (by omega) ?_
  obtain ⟨v4, e_v4⟩ : ∃ z : Int, z = (xs (i + 4).toNat).toInt := ⟨_, rfl⟩
  rw [← e_v4]
  have r_v4 : iLO ≤ v4 ∧ v4 ≤ iHI := by rw [e_v4]; exact i32_rng _
  unfold iLO iHI at r_v4
  refine x0 (r := (486, [some (.ref 7), some (.ref 64), some (.ref 143), some (.ref 171), some (.int (zI i)), x5, x6, x7], [.ref 7, .int (zI v4), .int (zI v3), .int (zI v2), .int (zI v1), .ref 64], es)) i_301_485 rfl ?_
  refine x0 (r := (488, [some (.ref 7), some (.ref 64), some (.ref 143), some (.ref 171), some (.int (zI i)), x5, x6, x7], [.int (zI i), .ref 7, .int (zI v4), .int (zI v3), .int (zI v2), .int (zI v1), .ref 64], es)) i_301_486 rfl ?_
  refine x0 (r := (489, [some (.ref 7), some (.ref 64), some (.ref 143), some (.ref 171), some (.int (zI i)), x5, x6, x7], [.int (zI 5), .int (zI i), .ref 7, .int (zI v4), .int (zI v3), .int (zI v2), .int (zI v1), .ref 64], es)) i_301_488 (by rfl) ?_
  refine x_iadd i_301_489 ?_
  refine x_oald (n := n0) (g := xs) i_301_490 hO (by unfold i32 iLO iHI; omega) (by omega) (by omega) ?_
  obtain ⟨v5, e_v5⟩ : ∃ z : Int, z = (xs (i + 5).toNat).toInt := ⟨_, rfl⟩
  rw [← e_v5]
  have r_v5 : iLO ≤ v5 ∧ v5 ≤ iHI := by rw [e_v5]; exact i32_rng _
  unfold iLO iHI at r_v5
  refine x0 (r := (492, [some (.ref 7), some (.ref 64), some (.ref 143), some (.ref 171), some (.int (zI i)), x5, x6, x7], [.ref 171, .int (zI v5), .int (zI v4), .int (zI v3), .int (zI v2), .int (zI v1), .ref 64], es)) i_301_491 rfl ?_
  exact K1 v1 e_v1 v2 e_v2 v3 e_v3 v4 e_v4 v5 e_v5
theorem s_l8b {O : pOut} {d kc ks : Nat} {Q : pRes → Prop} {es : PH} {xs : Nat → Int32} {n0 : Nat} {i k : Int} {x5 x6 x7 : Option Value} (hs_es : sh es) (h_i : 0 ≤ i ∧ i + 7 ≤ (n0 : Int)) (hn0 : n0 ≤ 3584) (hO : O 7 = some (n0, xs))
    (K1 : ∀ v1 : Int, v1 = (xs (i + 1).toNat).toInt → ∀ v2 : Int, v2 = (xs (i + 2).toNat).toInt → ∀ v3 : Int, v3 = (xs (i + 3).toNat).toInt → ∀ v4 : Int, v4 = (xs (i + 4).toNat).toInt → ∀ v5 : Int, v5 = (xs (i + 5).toNat).toInt → aW O d 301 kc ks Q (528, [some (.ref 7), some (.ref 64), some (.ref 143), some (.ref 171), some (.int (zI i)), some (.int (zI k)), x6, x7], [.int (zI v5), .int (zI v4), .int (zI v3), .int (zI v2), .int (zI v1), .ref 143], es)) :
    aW O d 301 kc ks Q (495, [some (.ref 7), some (.ref 64), some (.ref 143), some (.ref 171), some (.int (zI i)), x5, x6, x7], [.int (zI k)], es) := by
  refine x0 (r := (497, [some (.ref 7), some (.ref 64), some (.ref 143), some (.ref 171), some (.int (zI i)), some (.int (zI k)), x6, x7], [], es)) i_301_495 rfl ?_
  refine x0 (r := (498, [some (.ref 7), some (.ref 64), some (.ref 143), some (.ref 171), some (.int (zI i)), some (.int (zI k)), x6, x7], [.ref 143], es)) i_301_497 rfl ?_
  refine x0 (r := (499, [some (.ref 7), some (.ref 64), some (.ref 143), some (.ref 171), some (.int (zI i)), some (.int (zI k)), x6, x7], [.ref 7, .ref 143], es)) i_301_498 rfl ?_
  refine x0 (r := (501, [some (.ref 7), some (.ref 64), some (.ref 143), some (.ref 171), some (.int (zI i)), some (.int (zI k)), x6, x7], [.int (zI i), .ref 7, .ref 143], es)) i_301_499 rfl ?_
  refine x0 (r := (502, [some (.ref 7), some (.ref 64), some (.ref 143), some (.ref 171), some (.int (zI i)), some (.int (zI k)), x6, x7], [.int (zI 1), .int (zI i), .ref 7, .ref 143], es)) i_301_501 (by rfl) ?_
  refine x_iadd i_301_502 ?_
  refine x_oald (n := n0) (g := xs) i_301_503 hO (by unfold i32 iLO iHI; omega) (by omega) (by omega) ?_
  obtain ⟨v1, e_v1⟩ : ∃ z : Int, z = (xs (i + 1).toNat).toInt := ⟨_, rfl⟩
  rw [← e_v1]
  have r_v1 : iLO ≤ v1 ∧ v1 ≤ iHI := by rw [e_v1]; exact i32_rng _
  unfold iLO iHI at r_v1
  refine x0 (r := (505, [some (.ref 7), some (.ref 64), some (.ref 143), some (.ref 171), some (.int (zI i)), some (.int (zI k)), x6, x7], [.ref 7, .int (zI v1), .ref 143], es)) i_301_504 rfl ?_
  refine x0 (r := (507, [some (.ref 7), some (.ref 64), some (.ref 143), some (.ref 171), some (.int (zI i)), some (.int (zI k)), x6, x7], [.int (zI i), .ref 7, .int (zI v1), .ref 143], es)) i_301_505 rfl ?_
  refine x0 (r := (508, [some (.ref 7), some (.ref 64), some (.ref 143), some (.ref 171), some (.int (zI i)), some (.int (zI k)), x6, x7], [.int (zI 2), .int (zI i), .ref 7, .int (zI v1), .ref 143], es)) i_301_507 (by rfl) ?_
  refine x_iadd i_301_508 ?_
  refine x_oald (n := n0) (g := xs) i_301_509 hO (by unfold i32 iLO iHI; omega) (by omega) (by omega) ?_
  obtain ⟨v2, e_v2⟩ : ∃ z : Int, z = (xs (i + 2).toNat).toInt := ⟨_, rfl⟩
  rw [← e_v2]
  have r_v2 : iLO ≤ v2 ∧ v2 ≤ iHI := by rw [e_v2]; exact i32_rng _
  unfold iLO iHI at r_v2
  refine x0 (r := (511, [some (.ref 7), some (.ref 64), some (.ref 143), some (.ref 171), some (.int (zI i)), some (.int (zI k)), x6, x7], [.ref 7, .int (zI v2), .int (zI v1), .ref 143], es)) i_301_510 rfl ?_
  refine x0 (r := (513, [some (.ref 7), some (.ref 64), some (.ref 143), some (.ref 171), some (.int (zI i)), some (.int (zI k)), x6, x7], [.int (zI i), .ref 7, .int (zI v2), .int (zI v1), .ref 143], es)) i_301_511 rfl ?_
  refine x0 (r := (514, [some (.ref 7), some (.ref 64), some (.ref 143), some (.ref 171), some (.int (zI i)), some (.int (zI k)), x6, x7], [.int (zI 3), .int (zI i), .ref 7, .int (zI v2), .int (zI v1), .ref 143], es)) i_301_513 (by rfl) ?_
  refine x_iadd i_301_514 ?_
  refine x_oald (n := n0) (g := xs) i_301_515 hO (by unfold i32 iLO iHI; omega) (by omega) (by omega) ?_
  obtain ⟨v3, e_v3⟩ : ∃ z : Int, z = (xs (i + 3).toNat).toInt := ⟨_, rfl⟩
  rw [← e_v3]
  have r_v3 : iLO ≤ v3 ∧ v3 ≤ iHI := by rw [e_v3]; exact i32_rng _
  unfold iLO iHI at r_v3
  refine x0 (r := (517, [some (.ref 7), some (.ref 64), some (.ref 143), some (.ref 171), some (.int (zI i)), some (.int (zI k)), x6, x7], [.ref 7, .int (zI v3), .int (zI v2), .int (zI v1), .ref 143], es)) i_301_516 rfl ?_
  refine x0 (r := (519, [some (.ref 7), some (.ref 64), some (.ref 143), some (.ref 171), some (.int (zI i)), some (.int (zI k)), x6, x7], [.int (zI i), .ref 7, .int (zI v3), .int (zI v2), .int (zI v1), .ref 143], es)) i_301_517 rfl ?_
  refine x0 (r := (520, [some (.ref 7), some (.ref 64), some (.ref 143), some (.ref 171), some (.int (zI i)), some (.int (zI k)), x6, x7], [.int (zI 4), .int (zI i), .ref 7, .int (zI v3), .int (zI v2), .int (zI v1), .ref 143], es)) i_301_519 (by rfl) ?_
  refine x_iadd i_301_520 ?_
  refine x_oald (n := n0) (g := xs) i_301_521 hO (by unfold i32 iLO iHI; omega) (by omega) (by omega) ?_
  obtain ⟨v4, e_v4⟩ : ∃ z : Int, z = (xs (i + 4).toNat).toInt := ⟨_, rfl⟩
  rw [← e_v4]
  have r_v4 : iLO ≤ v4 ∧ v4 ≤ iHI := by rw [e_v4]; exact i32_rng _
  unfold iLO iHI at r_v4
  refine x0 (r := (523, [some (.ref 7), some (.ref 64), some (.ref 143), some (.ref 171), some (.int (zI i)), some (.int (zI k)), x6, x7], [.ref 7, .int (zI v4), .int (zI v3), .int (zI v2), .int (zI v1), .ref 143], es)) i_301_522 rfl ?_
  refine x0 (r := (525, [some (.ref 7), some (.ref 64), some (.ref 143), some (.ref 171), some (.int (zI i)), some (.int (zI k)), x6, x7], [.int (zI i), .ref 7, .int (zI v4), .int (zI v3), .int (zI v2), .int (zI v1), .ref 143], es)) i_301_523 rfl ?_
  refine x0 (r := (526, [some (.ref 7), some (.ref 64), some (.ref 143), some (.ref 171), some (.int (zI i)), some (.int (zI k)), x6, x7], [.int (zI 5), .int (zI i), .ref 7, .int (zI v4), .int (zI v3), .int (zI v2), .int (zI v1), .ref 143], es)) i_301_525 (by rfl) ?_
  refine x_iadd i_301_526 ?_
  refine x_oald (n := n0) (g := xs) i_301_527 hO (by unfold i32 iLO iHI; omega) (by omega) (by omega) ?_
  obtain ⟨v5, e_v5⟩ : ∃ z : Int, z = (xs (i + 5).toNat).toInt := ⟨_, rfl⟩
  rw [← e_v5]
  have r_v5 : iLO ≤ v5 ∧ v5 ≤ iHI := by rw [e_v5]; exact i32_rng _
  unfold iLO iHI at r_v5
  exact K1 v1 e_v1 v2 e_v2 v3 e_v3 v4 e_v4 v5 e_v5
theorem s_l8c {O : pOut} {d kc ks : Nat} {Q : pRes → Prop} {es : PH} {xs : Nat → Int32} {n0 : Nat} {i k b : Int} {x6 x7 : Option Value} (hs_es : sh es) (h_i : 0 ≤ i ∧ i + 7 ≤ (n0 : Int)) (hn0 : n0 ≤ 3584) (hO : O 7 = some (n0, xs)) (h_k : -2147483648 ≤ k ∧ k ≤ 2147483647) (h_b : -2147483648 ≤ b ∧ b ≤ 2147483647)
    (K1 : aW O d 301 kc ks Q (23, [some (.ref 7), some (.ref 64), some (.ref 143), some (.ref 171), some (.int (zI (i + 7))), some (.int (zI k)), some (.int (zI b)), x7], [], es)) :
    aW O d 301 kc ks Q (531, [some (.ref 7), some (.ref 64), some (.ref 143), some (.ref 171), some (.int (zI i)), some (.int (zI k)), x6, x7], [.int (zI b)], es) := by
  refine x0 (r := (533, [some (.ref 7), some (.ref 64), some (.ref 143), some (.ref 171), some (.int (zI i)), some (.int (zI k)), some (.int (zI b)), x7], [], es)) i_301_531 rfl ?_
  refine x0 (r := (1439, [some (.ref 7), some (.ref 64), some (.ref 143), some (.ref 171), some (.int (zI i)), some (.int (zI k)), some (.int (zI b)), x7], [], es)) i_301_533 rfl ?_
  refine x_iinc (x := i) i_301_1439 rfl (by show 4 < 8; decide) ?_
  show aW _ _ _ _ _ _ (1442, [some (.ref 7), some (.ref 64), some (.ref 143), some (.ref 171), some (.int (zI (i + 7))), some (.int (zI k)), some (.int (zI b)), x7], [], es)
  refine x0 (r := (23, [some (.ref 7), some (.ref 64), some (.ref 143), some (.ref 171), some (.int (zI (i + 7))), some (.int (zI k)), some (.int (zI b)), x7], [], es)) i_301_1442 rfl ?_
  exact K1
theorem lh_8 {xs : Nat → Int32} {n : Nat} (hn : n ≤ 3584) {i : Int} {es : PH} {kc ks : Nat} {x5 x6 x7 : Option Value} (h0 : 0 ≤ i) (h7 : i + 7 ≤ (n : Int)) (hT : hOK tT es) (hI : gInv es) (hJ : J es) (K : lawK J xs n i kc ks) : aW (pO0 xs n) 41 301 kc ks lawQ (460, lawL i x5 x6 x7, [], es) := by
  refine s_l8a (d := 41) (n0 := n) (xs := xs) (sh_of hT) ⟨h0, h7⟩ hn rfl (fun v1 e_v1 v2 e_v2 v3 e_v3 v4 e_v4 v5 e_v5 => ?_)
  have b_v1 : i32 v1 := by rw [e_v1]; exact i32_rng _
  have b_v2 : i32 v2 := by rw [e_v2]; exact i32_rng _
  have b_v3 : i32 v3 := by rw [e_v3]; exact i32_rng _
  have b_v4 : i32 v4 := by rw [e_v4]; exact i32_rng _
  have b_v5 : i32 v5 := by rw [e_v5]; exact i32_rng _
  have hJ0 := hJ
  obtain ⟨j_tape_, j_size_, j_flag_, j_kinds_, j_kindsI_, j_lines_, j_linesI_, j_start_, j_startI_, j_books_, j_booksI_, j_stK_, j_stKI_, j_notes_, j_notesI_⟩ := hJ0
  have hbk : gI es 7 5 = gA es 80 1 := j_books_
  have hkd : gI es 7 0 = gA es 80 0 := j_kinds_
  have hB0 : 0 ≤ (gI es 7 5).toInt ∧ (gI es 7 5).toInt ≤ 3 := gI_bd hT (p := 7) (b := 5) rfl rfl
  have hC0 : v1 < 0 ∨ 2 < v1 ∨ (0 ≤ (gA es 13 v1.toNat).toInt ∧ (gA es 13 v1.toNat).toInt ≤ 24) := by
    by_cases h1 : 0 ≤ v1 ∧ v1 ≤ 2
    · exact Or.inr (Or.inr (gA_bd hT (p := 13) (t := 0) (n := 3) (k := v1.toNat) rfl (by omega) (by decide)))
    · omega
  refine x_call (vs := [.ref 64, .int (zI v1), .int (zI v2), .int (zI v3), .int (zI v4), .int (zI v5), .ref 171]) (rs := []) i_301_492 rfl (fun _ => rfl) rfl rfl rfl rfl rfl rfl ?_
  show aW _ _ _ _ _ _ (0, [some (.ref 64), some (.int (zI v1)), some (.int (zI v2)), some (.int (zI v3)), some (.int (zI v4)), some (.int (zI v5)), some (.ref 171), none], [], es)
  refine aW_sh (aW_and (bs_282 hn (by decide) b_v1 b_v2 b_v3 b_v4 b_v5 hT hI) (fn_notey (O := pO0 xs n) (d := 36) b_v1 b_v2 b_v3 b_v4 b_v5 hT)) (fun r es1 c1 k1 hp => ?_)
  obtain ⟨⟨hT1, hI1, hf1, hc1, hk1⟩, hp1⟩ : (hOK tT es1 ∧ gInv es1 ∧ fr kc_383.2.2.2.2.2.1 es es1 ∧ c1 ≤ 1 ∧ k1 ≤ 6) ∧ noteyP v1 v2 v3 v4 v5 es r es1 := hp
  obtain ⟨hs1, -, k, rfl, hk⟩ := hp1
  have hkr : -2147483648 ≤ k ∧ k ≤ 2147483647 := by rcases hk with ⟨h, -⟩ | ⟨h, -⟩ | ⟨h, -⟩ | ⟨h, -⟩ <;> omega
  have w80 : ∀ i, i < 2125 → gA es1 80 i = gA es 80 i := fun i hi => keepA hf1 (sh_of hT) (p := 80) (t := 0) (n := 2125) (sp := tS80) rfl (by decide) (by decide) i hi
  have e1 : (gA es1 80 1).toInt = (gI es 7 5).toInt := by rw [w80 1 (by omega), ← hbk]
  have e0 : (gA es1 80 0).toInt = (gI es 7 0).toInt := by rw [w80 0 (by omega), ← hkd]
  have eV : v1 < 0 ∨ (gI es 7 5).toInt ≤ v1 ∨ (gA es1 80 ((119 + (98 * v1)) + 1).toNat).toInt = (gA es 13 v1.toNat).toInt := by
    by_cases h1 : 0 ≤ v1 ∧ v1 < (gI es 7 5).toInt
    · have h2 := (j_notes_ v1.toNat (by omega) (by omega)).2.1
      refine Or.inr (Or.inr ?_)
      rw [w80 _ (by omega), h2, show ((119 + (98 * v1)) + 1).toNat = 119 + 98 * v1.toNat + 1 by omega]
    · omega
  show aW _ _ _ _ _ _ (495, [some (.ref 7), some (.ref 64), some (.ref 143), some (.ref 171), some (.int (zI i)), x5, x6, x7], [.int (zI k)], es1)
  refine s_l8b (d := 41) (n0 := n) (xs := xs) (sh_of hT1) ⟨h0, h7⟩ hn rfl (fun wv1 e_wv1 wv2 e_wv2 wv3 e_wv3 wv4 e_wv4 wv5 e_wv5 => ?_)
  rw [show wv1 = v1 from by rw [e_wv1, e_v1]]
  rw [show wv2 = v2 from by rw [e_wv2, e_v2]]
  rw [show wv3 = v3 from by rw [e_wv3, e_v3]]
  rw [show wv4 = v4 from by rw [e_wv4, e_v4]]
  rw [show wv5 = v5 from by rw [e_wv5, e_v5]]
  refine x_call (vs := [.ref 143, .int (zI v1), .int (zI v2), .int (zI v3), .int (zI v4), .int (zI v5)]) (rs := []) i_301_528 rfl (fun _ => rfl) rfl rfl rfl rfl rfl (pCall_v (p := 79) (sh_of hT1) rfl rfl rfl rfl rfl (by decide) rfl rfl rfl rfl rfl) ?_
  show aW _ _ _ _ _ _ (0, [some (.ref 143), some (.int (zI v1)), some (.int (zI v2)), some (.int (zI v3)), some (.int (zI v4)), some (.int (zI v5))], [], es1)
  refine aW_sh (aW_and (bs_202 hn (by decide) b_v1 b_v2 b_v3 b_v4 b_v5 hT1 hI1) (fn_notem (O := pO0 xs n) (d := 37) b_v1 b_v2 b_v3 b_v4 b_v5 hT1)) (fun r2 es2 c2 k2 hq => ?_)
  obtain ⟨⟨hT2, hI2, hf2, hc2, hk2⟩, hp2⟩ : (hOK tT es2 ∧ gInv es2 ∧ fr kc_333.2.2.2.2.2.1 es1 es2 ∧ c2 ≤ 0 ∧ k2 ≤ 0) ∧ notemP v1 v2 v3 v4 v5 es1 r2 es2 := hq
  obtain ⟨hs2, -, b, rfl, hbr, hb⟩ := hp2
  have hJ2 : J es2 := by
    have n_notes : j_notes es2 := by
      have a : gI es2 7 5 = gI es 7 5 := by rw [keepI hf2 (sh_of hT1) (p := 7) (b := 5) rfl (by decide), keepI hf1 (sh_of hT) (p := 7) (b := 5) rfl (by decide)]
      have r12 : ∀ i, i < 3 → gA es2 12 i = gA es 12 i := fun i hi => by rw [keepA hf2 (sh_of hT1) (p := 12) (t := 0) (n := 3) rfl (by decide) (by decide) i hi, keepA hf1 (sh_of hT) (p := 12) (t := 0) (n := 3) rfl (by decide) (by decide) i hi]
      have r13 : ∀ i, i < 3 → gA es2 13 i = gA es1 13 i := fun i hi => keepA hf2 (sh_of hT1) (p := 13) (t := 0) (n := 3) rfl (by decide) (by decide) i hi
      have r14 : ∀ i, i < 288 → gA es2 14 i = gA es1 14 i := fun i hi => keepA hf2 (sh_of hT1) (p := 14) (t := 0) (n := 288) rfl (by decide) (by decide) i hi
      show bkT _ _ _ _ (gI es2 7 5).toInt
      rw [a]
      rcases hk with ⟨h, h', e⟩ | ⟨h, h', e⟩ | ⟨h, h', e⟩ | ⟨h, h', e13, e14, -⟩
      · rcases hb with ⟨q, q', z⟩ | ⟨q, q', z⟩ | ⟨q, q', z⟩ | ⟨q, q', z, -⟩
        · exact bkT_c j_notes_ r12 (fun i hi => by rw [r13 i hi, e]) (fun i hi => by rw [r14 i hi, e]) (fun i h1 h2 => by rw [z, w80 i (by omega)])
        · exact bkT_c j_notes_ r12 (fun i hi => by rw [r13 i hi, e]) (fun i hi => by rw [r14 i hi, e]) (fun i h1 h2 => by rw [z, w80 i (by omega)])
        · exact bkT_c j_notes_ r12 (fun i hi => by rw [r13 i hi, e]) (fun i hi => by rw [r14 i hi, e]) (fun i h1 h2 => by rw [z, w80 i (by omega)])
        · exfalso; omega
      · rcases hb with ⟨q, q', z⟩ | ⟨q, q', z⟩ | ⟨q, q', z⟩ | ⟨q, q', z, -⟩
        · exact bkT_c j_notes_ r12 (fun i hi => by rw [r13 i hi, e]) (fun i hi => by rw [r14 i hi, e]) (fun i h1 h2 => by rw [z, w80 i (by omega)])
        · exact bkT_c j_notes_ r12 (fun i hi => by rw [r13 i hi, e]) (fun i hi => by rw [r14 i hi, e]) (fun i h1 h2 => by rw [z, w80 i (by omega)])
        · exact bkT_c j_notes_ r12 (fun i hi => by rw [r13 i hi, e]) (fun i hi => by rw [r14 i hi, e]) (fun i h1 h2 => by rw [z, w80 i (by omega)])
        · exfalso; omega
      · rcases hb with ⟨q, q', z⟩ | ⟨q, q', z⟩ | ⟨q, q', z⟩ | ⟨q, q', z, -⟩
        · exact bkT_c j_notes_ r12 (fun i hi => by rw [r13 i hi, e]) (fun i hi => by rw [r14 i hi, e]) (fun i h1 h2 => by rw [z, w80 i (by omega)])
        · exact bkT_c j_notes_ r12 (fun i hi => by rw [r13 i hi, e]) (fun i hi => by rw [r14 i hi, e]) (fun i h1 h2 => by rw [z, w80 i (by omega)])
        · exact bkT_c j_notes_ r12 (fun i hi => by rw [r13 i hi, e]) (fun i hi => by rw [r14 i hi, e]) (fun i h1 h2 => by rw [z, w80 i (by omega)])
        · exfalso; omega
      · rcases hb with ⟨q, q', z⟩ | ⟨q, q', z⟩ | ⟨q, q', z⟩ | ⟨q, q', z, -⟩
        · exfalso; omega
        · exfalso; omega
        · exfalso; omega
        · have eV2 : (gA es1 80 ((119 + (98 * v1)) + 1).toNat).toInt = (gA es 13 v1.toNat).toInt := by omega
          refine bkT_note (bk := v1) (V := (gA es 13 v1.toNat).toInt) j_notes_ ⟨by omega, by omega⟩ ⟨by omega, by omega⟩ rfl r12 (fun i hi => by rw [r13 i hi, e13]) (fun i hi => by rw [r14 i hi, e14]) (fun i h1 h2 => ?_)
          rw [z, eV2]
          unfold upd
          rw [w80 i (by omega)]
    exact ⟨kp_tape hf2 (sh_of hT1) (by decide) (kp_tape hf1 (sh_of hT) (by decide) j_tape_), kp_size hf2 (sh_of hT1) (by decide) (kp_size hf1 (sh_of hT) (by decide) j_size_), kp_flag hf2 (sh_of hT1) (by decide) (kp_flag hf1 (sh_of hT) (by decide) j_flag_), kp_kinds hf2 (sh_of hT1) (by decide) (kp_kinds hf1 (sh_of hT) (by decide) j_kinds_), kp_kindsI hf2 (sh_of hT1) (by decide) (kp_kindsI hf1 (sh_of hT) (by decide) j_kindsI_), kp_lines hf2 (sh_of hT1) (by decide) (kp_lines hf1 (sh_of hT) (by decide) j_lines_), kp_linesI hf2 (sh_of hT1) (by decide) (kp_linesI hf1 (sh_of hT) (by decide) j_linesI_), kp_start hf2 (sh_of hT1) (by decide) (kp_start hf1 (sh_of hT) (by decide) j_start_), kp_startI hf2 (sh_of hT1) (by decide) (kp_startI hf1 (sh_of hT) (by decide) j_startI_), kp_books hf2 (sh_of hT1) (by decide) (kp_books hf1 (sh_of hT) (by decide) j_books_), kp_booksI hf2 (sh_of hT1) (by decide) (kp_booksI hf1 (sh_of hT) (by decide) j_booksI_), kp_stK hf2 (sh_of hT1) (by decide) (kp_stK hf1 (sh_of hT) (by decide) j_stK_), kp_stKI hf2 (sh_of hT1) (by decide) (kp_stKI hf1 (sh_of hT) (by decide) j_stKI_), n_notes, kp_notesI hf2 (sh_of hT1) (by decide) (kp_notesI hf1 (sh_of hT) (by decide) j_notesI_)⟩
  have fin : ∀ y5 y6 y7, aW (pO0 xs n) 41 301 (kc + c1 + c2) (ks + k1 + k2) lawQ (23, lawL (i + 7) y5 y6 y7, [], es2) := fun y5 y6 y7 => K es2 _ _ y5 y6 y7 hT2 hI2 hJ2 (by omega) (by omega)
  show aW _ _ _ _ _ _ (531, [some (.ref 7), some (.ref 64), some (.ref 143), some (.ref 171), some (.int (zI i)), some (.int (zI k)), x6, x7], [.int (zI b)], es2)
  have t0 : (gI es2 79 0).toInt = k := by rcases hk with ⟨h, h', -⟩ | ⟨h, h', -⟩ | ⟨h, h', -⟩ | ⟨h, h', -⟩ <;> rcases hb with ⟨q, q', -⟩ | ⟨q, q', -⟩ | ⟨q, q', -⟩ | ⟨q, q', -⟩ <;> omega
  have t1 : k = 0 → (gJ es2 107 (Int.toNat 0)).toInt = b := by
    intro hk0
    rw [keepJ hf2 (sh_of hT1) (p := 107) (n := 1) rfl (by decide) (Int.toNat 0) (by decide)]
    rcases hk with ⟨h, -⟩ | ⟨h, -⟩ | ⟨h, -⟩ | ⟨h, h', -, -, g1⟩
    · exfalso; omega
    · exfalso; omega
    · exfalso; omega
    · rcases hb with ⟨q, q', -⟩ | ⟨q, q', -⟩ | ⟨q, q', -⟩ | ⟨q, q', -, g2⟩ <;> omega
  exact s_l8c (O := pO0 xs n) (d := 41) (n0 := n) (xs := xs) (sh_of hT2) ⟨h0, h7⟩ hn rfl hkr hbr (fin _ _ _)
theorem s_l9a {O : pOut} {d kc ks : Nat} {Q : pRes → Prop} {es : PH} {xs : Nat → Int32} {n0 : Nat} {i : Int} {x5 x6 x7 : Option Value} (hs_es : sh es) (h_i : 0 ≤ i ∧ i + 7 ≤ (n0 : Int)) (hn0 : n0 ≤ 3584) (hO : O 7 = some (n0, xs))
    (K1 : ∀ v1 : Int, v1 = (xs (i + 1).toNat).toInt → ∀ v2 : Int, v2 = (xs (i + 2).toNat).toInt → ∀ v3 : Int, v3 = (xs (i + 3).toNat).toInt → ∀ v4 : Int, v4 = (xs (i + 4).toNat).toInt → ∀ v5 : Int, v5 = (xs (i + 5).toNat).toInt → ∀ v6 : Int, v6 = (xs (i + 6).toNat).toInt → aW O d 301 kc ks Q (575, [some (.ref 7), some (.ref 64), some (.ref 143), some (.ref 171), some (.int (zI i)), x5, x6, x7], [.ref 171, .int (zI v6), .int (zI v5), .int (zI v4), .int (zI v3), .int (zI v2), .int (zI v1), .ref 64], es)) :
    aW O d 301 kc ks Q (536, [some (.ref 7), some (.ref 64), some (.ref 143), some (.ref 171), some (.int (zI i)), x5, x6, x7], [], es) := by
  refine x0 (r := (537, [some (.ref 7), some (.ref 64), some (.ref 143), some (.ref 171), some (.int (zI i)), x5, x6, x7], [.ref 64], es)) i_301_536 rfl ?_
  refine x0 (r := (538, [some (.ref 7), some (.ref 64), some (.ref 143), some (.ref 171), some (.int (zI i)), x5, x6, x7], [.ref 7, .ref 64], es)) i_301_537 rfl ?_
  refine x0 (r := (540, [some (.ref 7), some (.ref 64), some (.ref 143), some (.ref 171), some (.int (zI i)), x5, x6, x7], [.int (zI i), .ref 7, .ref 64], es)) i_301_538 rfl ?_
  refine x0 (r := (541, [some (.ref 7), some (.ref 64), some (.ref 143), some (.ref 171), some (.int (zI i)), x5, x6, x7], [.int (zI 1), .int (zI i), .ref 7, .ref 64], es)) i_301_540 (by rfl) ?_
  refine x_iadd i_301_541 ?_
  refine x_oald (n := n0) (g := xs) i_301_542 hO (by unfold i32 iLO iHI; omega) (by omega) (by omega) ?_
  obtain ⟨v1, e_v1⟩ : ∃ z : Int, z = (xs (i + 1).toNat).toInt := ⟨_, rfl⟩
  rw [← e_v1]
  have r_v1 : iLO ≤ v1 ∧ v1 ≤ iHI := by rw [e_v1]; exact i32_rng _
  unfold iLO iHI at r_v1
  refine x0 (r := (544, [some (.ref 7), some (.ref 64), some (.ref 143), some (.ref 171), some (.int (zI i)), x5, x6, x7], [.ref 7, .int (zI v1), .ref 64], es)) i_301_543 rfl ?_
  refine x0 (r := (546, [some (.ref 7), some (.ref 64), some (.ref 143), some (.ref 171), some (.int (zI i)), x5, x6, x7], [.int (zI i), .ref 7, .int (zI v1), .ref 64], es)) i_301_544 rfl ?_
  refine x0 (r := (547, [some (.ref 7), some (.ref 64), some (.ref 143), some (.ref 171), some (.int (zI i)), x5, x6, x7], [.int (zI 2), .int (zI i), .ref 7, .int (zI v1), .ref 64], es)) i_301_546 (by rfl) ?_
  refine x_iadd i_301_547 ?_
  refine x_oald (n := n0) (g := xs) i_301_548 hO (by unfold i32 iLO iHI; omega) (by omega) (by omega) ?_
  obtain ⟨v2, e_v2⟩ : ∃ z : Int, z = (xs (i + 2).toNat).toInt := ⟨_, rfl⟩
  rw [← e_v2]
  have r_v2 : iLO ≤ v2 ∧ v2 ≤ iHI := by rw [e_v2]; exact i32_rng _
  unfold iLO iHI at r_v2
  refine x0 (r := (550, [some (.ref 7), some (.ref 64), some (.ref 143), some (.ref 171), some (.int (zI i)), x5, x6, x7], [.ref 7, .int (zI v2), .int (zI v1), .ref 64], es)) i_301_549 rfl ?_
  refine x0 (r := (552, [some (.ref 7), some (.ref 64), some (.ref 143), some (.ref 171), some (.int (zI i)), x5, x6, x7], [.int (zI i), .ref 7, .int (zI v2), .int (zI v1), .ref 64], es)) i_301_550 rfl ?_
  refine x0 (r := (553, [some (.ref 7), some (.ref 64), some (.ref 143), some (.ref 171), some (.int (zI i)), x5, x6, x7], [.int (zI 3), .int (zI i), .ref 7, .int (zI v2), .int (zI v1), .ref 64], es)) i_301_552 (by rfl) ?_
  refine x_iadd i_301_553 ?_
  refine x_oald (n := n0) (g := xs) i_301_554 hO (by unfold i32 iLO iHI; omega) (by omega) (by omega) ?_
  obtain ⟨v3, e_v3⟩ : ∃ z : Int, z = (xs (i + 3).toNat).toInt := ⟨_, rfl⟩
  rw [← e_v3]
  have r_v3 : iLO ≤ v3 ∧ v3 ≤ iHI := by rw [e_v3]; exact i32_rng _
  unfold iLO iHI at r_v3
  refine x0 (r := (556, [some (.ref 7), some (.ref 64), some (.ref 143), some (.ref 171), some (.int (zI i)), x5, x6, x7], [.ref 7, .int (zI v3), .int (zI v2), .int (zI v1), .ref 64], es)) i_301_555 rfl ?_
  refine x0 (r := (558, [some (.ref 7), some (.ref 64), some (.ref 143), some (.ref 171), some (.int (zI i)), x5, x6, x7], [.int (zI i), .ref 7, .int (zI v3), .int (zI v2), .int (zI v1), .ref 64], es)) i_301_556 rfl ?_
  refine x0 (r := (559, [some (.ref 7), some (.ref 64), some (.ref 143), some (.ref 171), some (.int (zI i)), x5, x6, x7], [.int (zI 4), .int (zI i), .ref 7, .int (zI v3), .int (zI v2), .int (zI v1), .ref 64], es)) i_301_558 (by rfl) ?_
  refine x_iadd i_301_559 ?_
  refine x_oald (n := n0) (g := xs) i_301_560 hO (by unfold i32 iLO iHI; omega) (by omega) (by omega) ?_
  obtain ⟨v4, e_v4⟩ : ∃ z : Int, z = (xs (i + 4).toNat).toInt := ⟨_, rfl⟩
  rw [← e_v4]
  have r_v4 : iLO ≤ v4 ∧ v4 ≤ iHI := by rw [e_v4]; exact i32_rng _
  unfold iLO iHI at r_v4
  refine x0 (r := (562, [some (.ref 7), some (.ref 64), some (.ref 143), some (.ref 171), some (.int (zI i)), x5, x6, x7], [.ref 7, .int (zI v4), .int (zI v3), .int (zI v2), .int (zI v1), .ref 64], es)) i_301_561 rfl ?_
  refine x0 (r := (564, [some (.ref 7), some (.ref 64), some (.ref 143), some (.ref 171), some (.int (zI i)), x5, x6, x7], [.int (zI i), .ref 7, .int (zI v4), .int (zI v3), .int (zI v2), .int (zI v1), .ref 64], es)) i_301_562 rfl ?_
  refine x0 (r := (565, [some (.ref 7), some (.ref 64), some (.ref 143), some (.ref 171), some (.int (zI i)), x5, x6, x7], [.int (zI 5), .int (zI i), .ref 7, .int (zI v4), .int (zI v3), .int (zI v2), .int (zI v1), .ref 64], es)) i_301_564 (by rfl) ?_
  refine x_iadd i_301_565 ?_
  refine x_oald (n := n0) (g := xs) i_301_566 hO (by unfold i32 iLO iHI; omega) (by omega) (by omega) ?_
  obtain ⟨v5, e_v5⟩ : ∃ z : Int, z = (xs (i + 5).toNat).toInt := ⟨_, rfl⟩
  rw [← e_v5]
  have r_v5 : iLO ≤ v5 ∧ v5 ≤ iHI := by rw [e_v5]; exact i32_rng _
  unfold iLO iHI at r_v5
  refine x0 (r := (568, [some (.ref 7), some (.ref 64), some (.ref 143), some (.ref 171), some (.int (zI i)), x5, x6, x7], [.ref 7, .int (zI v5), .int (zI v4), .int (zI v3), .int (zI v2), .int (zI v1), .ref 64], es)) i_301_567 rfl ?_
  refine x0 (r := (570, [some (.ref 7), some (.ref 64), some (.ref 143), some (.ref 171), some (.int (zI i)), x5, x6, x7], [.int (zI i), .ref 7, .int (zI v5), .int (zI v4), .int (zI v3), .int (zI v2), .int (zI v1), .ref 64], es)) i_301_568 rfl ?_
  refine x0 (r := (572, [some (.ref 7), some (.ref 64), some (.ref 143), some (.ref 171), some (.int (zI i)), x5, x6, x7], [.int (zI 6), .int (zI i), .ref 7, .int (zI v5), .int (zI v4), .int (zI v3), .int (zI v2), .int (zI v1), .ref 64], es)) i_301_570 (by rfl) ?_
  refine x_iadd i_301_572 ?_
  refine x_oald (n := n0) (g := xs) i_301_573 hO (by unfold i32 iLO iHI; omega) (by omega) (by omega) ?_
  obtain ⟨v6, e_v6⟩ : ∃ z : Int, z = (xs (i + 6).toNat).toInt := ⟨_, rfl⟩
  rw [← e_v6]
  have r_v6 : iLO ≤ v6 ∧ v6 ≤ iHI := by rw [e_v6]; exact i32_rng _
  unfold iLO iHI at r_v6
  refine x0 (r := (575, [some (.ref 7), some (.ref 64), some (.ref 143), some (.ref 171), some (.int (zI i)), x5, x6, x7], [.ref 171, .int (zI v6), .int (zI v5), .int (zI v4), .int (zI v3), .int (zI v2), .int (zI v1), .ref 64], es)) i_301_574 rfl ?_
  exact K1 v1 e_v1 v2 e_v2 v3 e_v3 v4 e_v4 v5 e_v5 v6 e_v6
theorem s_l9b {O : pOut} {d kc ks : Nat} {Q : pRes → Prop} {es : PH} {xs : Nat → Int32} {n0 : Nat} {i k : Int} {x5 x6 x7 : Option Value} (hs_es : sh es) (h_i : 0 ≤ i ∧ i + 7 ≤ (n0 : Int)) (hn0 : n0 ≤ 3584) (hO : O 7 = some (n0, xs))
    (K1 : ∀ v1 : Int, v1 = (xs (i + 1).toNat).toInt → ∀ v2 : Int, v2 = (xs (i + 2).toNat).toInt → ∀ v3 : Int, v3 = (xs (i + 3).toNat).toInt → ∀ v4 : Int, v4 = (xs (i + 4).toNat).toInt → ∀ v5 : Int, v5 = (xs (i + 5).toNat).toInt → ∀ v6 : Int, v6 = (xs (i + 6).toNat).toInt → aW O d 301 kc ks Q (618, [some (.ref 7), some (.ref 64), some (.ref 143), some (.ref 171), some (.int (zI i)), some (.int (zI k)), x6, x7], [.int (zI v6), .int (zI v5), .int (zI v4), .int (zI v3), .int (zI v2), .int (zI v1), .ref 143], es)) :
    aW O d 301 kc ks Q (578, [some (.ref 7), some (.ref 64), some (.ref 143), some (.ref 171), some (.int (zI i)), x5, x6, x7], [.int (zI k)], es) := by
  refine x0 (r := (580, [some (.ref 7), some (.ref 64), some (.ref 143), some (.ref 171), some (.int (zI i)), some (.int (zI k)), x6, x7], [], es)) i_301_578 rfl ?_
  refine x0 (r := (581, [some (.ref 7), some (.ref 64), some (.ref 143), some (.ref 171), some (.int (zI i)), some (.int (zI k)), x6, x7], [.ref 143], es)) i_301_580 rfl ?_
  refine x0 (r := (582, [some (.ref 7), some (.ref 64), some (.ref 143), some (.ref 171), some (.int (zI i)), some (.int (zI k)), x6, x7], [.ref 7, .ref 143], es)) i_301_581 rfl ?_
  refine x0 (r := (584, [some (.ref 7), some (.ref 64), some (.ref 143), some (.ref 171), some (.int (zI i)), some (.int (zI k)), x6, x7], [.int (zI i), .ref 7, .ref 143], es)) i_301_582 rfl ?_
  refine x0 (r := (585, [some (.ref 7), some (.ref 64), some (.ref 143), some (.ref 171), some (.int (zI i)), some (.int (zI k)), x6, x7], [.int (zI 1), .int (zI i), .ref 7, .ref 143], es)) i_301_584 (by rfl) ?_
  refine x_iadd i_301_585 ?_
  refine x_oald (n := n0) (g := xs) i_301_586 hO (by unfold i32 iLO iHI; omega) (by omega) (by omega) ?_
  obtain ⟨v1, e_v1⟩ : ∃ z : Int, z = (xs (i + 1).toNat).toInt := ⟨_, rfl⟩
  rw [← e_v1]
  have r_v1 : iLO ≤ v1 ∧ v1 ≤ iHI := by rw [e_v1]; exact i32_rng _
  unfold iLO iHI at r_v1
  refine x0 (r := (588, [some (.ref 7), some (.ref 64), some (.ref 143), some (.ref 171), some (.int (zI i)), some (.int (zI k)), x6, x7], [.ref 7, .int (zI v1), .ref 143], es)) i_301_587 rfl ?_
  refine x0 (r := (590, [some (.ref 7), some (.ref 64), some (.ref 143), some (.ref 171), some (.int (zI i)), some (.int (zI k)), x6, x7], [.int (zI i), .ref 7, .int (zI v1), .ref 143], es)) i_301_588 rfl ?_
  refine x0 (r := (591, [some (.ref 7), some (.ref 64), some (.ref 143), some (.ref 171), some (.int (zI i)), some (.int (zI k)), x6, x7], [.int (zI 2), .int (zI i), .ref 7, .int (zI v1), .ref 143], es)) i_301_590 (by rfl) ?_
  refine x_iadd i_301_591 ?_
  refine x_oald (n := n0) (g := xs) i_301_592 hO (by unfold i32 iLO iHI; omega) (by omega) (by omega) ?_
  obtain ⟨v2, e_v2⟩ : ∃ z : Int, z = (xs (i + 2).toNat).toInt := ⟨_, rfl⟩
  rw [← e_v2]
  have r_v2 : iLO ≤ v2 ∧ v2 ≤ iHI := by rw [e_v2]; exact i32_rng _
  unfold iLO iHI at r_v2
  refine x0 (r := (594, [some (.ref 7), some (.ref 64), some (.ref 143), some (.ref 171), some (.int (zI i)), some (.int (zI k)), x6, x7], [.ref 7, .int (zI v2), .int (zI v1), .ref 143], es)) i_301_593 rfl ?_
  refine x0 (r := (596, [some (.ref 7), some (.ref 64), some (.ref 143), some (.ref 171), some (.int (zI i)), some (.int (zI k)), x6, x7], [.int (zI i), .ref 7, .int (zI v2), .int (zI v1), .ref 143], es)) i_301_594 rfl ?_
  refine x0 (r := (597, [some (.ref 7), some (.ref 64), some (.ref 143), some (.ref 171), some (.int (zI i)), some (.int (zI k)), x6, x7], [.int (zI 3), .int (zI i), .ref 7, .int (zI v2), .int (zI v1), .ref 143], es)) i_301_596 (by rfl) ?_
  refine x_iadd i_301_597 ?_
  refine x_oald (n := n0) (g := xs) i_301_598 hO (by unfold i32 iLO iHI; omega) (by omega) (by omega) ?_
  obtain ⟨v3, e_v3⟩ : ∃ z : Int, z = (xs (i + 3).toNat).toInt := ⟨_, rfl⟩
  rw [← e_v3]
  have r_v3 : iLO ≤ v3 ∧ v3 ≤ iHI := by rw [e_v3]; exact i32_rng _
  unfold iLO iHI at r_v3
  refine x0 (r := (600, [some (.ref 7), some (.ref 64), some (.ref 143), some (.ref 171), some (.int (zI i)), some (.int (zI k)), x6, x7], [.ref 7, .int (zI v3), .int (zI v2), .int (zI v1), .ref 143], es)) i_301_599 rfl ?_
  refine x0 (r := (602, [some (.ref 7), some (.ref 64), some (.ref 143), some (.ref 171), some (.int (zI i)), some (.int (zI k)), x6, x7], [.int (zI i), .ref 7, .int (zI v3), .int (zI v2), .int (zI v1), .ref 143], es)) i_301_600 rfl ?_
  refine x0 (r := (603, [some (.ref 7), some (.ref 64), some (.ref 143), some (.ref 171), some (.int (zI i)), some (.int (zI k)), x6, x7], [.int (zI 4), .int (zI i), .ref 7, .int (zI v3), .int (zI v2), .int (zI v1), .ref 143], es)) i_301_602 (by rfl) ?_
  refine x_iadd i_301_603 ?_
  refine x_oald (n := n0) (g := xs) i_301_604 hO (by unfold i32 iLO iHI; omega) (by omega) (by omega) ?_
  obtain ⟨v4, e_v4⟩ : ∃ z : Int, z = (xs (i + 4).toNat).toInt := ⟨_, rfl⟩
  rw [← e_v4]
  have r_v4 : iLO ≤ v4 ∧ v4 ≤ iHI := by rw [e_v4]; exact i32_rng _
  unfold iLO iHI at r_v4
  refine x0 (r := (606, [some (.ref 7), some (.ref 64), some (.ref 143), some (.ref 171), some (.int (zI i)), some (.int (zI k)), x6, x7], [.ref 7, .int (zI v4), .int (zI v3), .int (zI v2), .int (zI v1), .ref 143], es)) i_301_605 rfl ?_
  refine x0 (r := (608, [some (.ref 7), some (.ref 64), some (.ref 143), some (.ref 171), some (.int (zI i)), some (.int (zI k)), x6, x7], [.int (zI i), .ref 7, .int (zI v4), .int (zI v3), .int (zI v2), .int (zI v1), .ref 143], es)) i_301_606 rfl ?_
  refine x0 (r := (609, [some (.ref 7), some (.ref 64), some (.ref 143), some (.ref 171), some (.int (zI i)), some (.int (zI k)), x6, x7], [.int (zI 5), .int (zI i), .ref 7, .int (zI v4), .int (zI v3), .int (zI v2), .int (zI v1), .ref 143], es)) i_301_608 (by rfl) ?_
  refine x_iadd i_301_609 ?_
  refine x_oald (n := n0) (g := xs) i_301_610 hO (by unfold i32 iLO iHI; omega) (by omega) (by omega) ?_
  obtain ⟨v5, e_v5⟩ : ∃ z : Int, z = (xs (i + 5).toNat).toInt := ⟨_, rfl⟩
  rw [← e_v5]
  have r_v5 : iLO ≤ v5 ∧ v5 ≤ iHI := by rw [e_v5]; exact i32_rng _
  unfold iLO iHI at r_v5
  refine x0 (r := (612, [some (.ref 7), some (.ref 64), some (.ref 143), some (.ref 171), some (.int (zI i)), some (.int (zI k)), x6, x7], [.ref 7, .int (zI v5), .int (zI v4), .int (zI v3), .int (zI v2), .int (zI v1), .ref 143], es)) i_301_611 rfl ?_
  refine x0 (r := (614, [some (.ref 7), some (.ref 64), some (.ref 143), some (.ref 171), some (.int (zI i)), some (.int (zI k)), x6, x7], [.int (zI i), .ref 7, .int (zI v5), .int (zI v4), .int (zI v3), .int (zI v2), .int (zI v1), .ref 143], es)) i_301_612 rfl ?_
  refine x0 (r := (616, [some (.ref 7), some (.ref 64), some (.ref 143), some (.ref 171), some (.int (zI i)), some (.int (zI k)), x6, x7], [.int (zI 6), .int (zI i), .ref 7, .int (zI v5), .int (zI v4), .int (zI v3), .int (zI v2), .int (zI v1), .ref 143], es)) i_301_614 (by rfl) ?_
  refine x_iadd i_301_616 ?_
  refine x_oald (n := n0) (g := xs) i_301_617 hO (by unfold i32 iLO iHI; omega) (by omega) (by omega) ?_
  obtain ⟨v6, e_v6⟩ : ∃ z : Int, z = (xs (i + 6).toNat).toInt := ⟨_, rfl⟩
  rw [← e_v6]
  have r_v6 : iLO ≤ v6 ∧ v6 ≤ iHI := by rw [e_v6]; exact i32_rng _
  unfold iLO iHI at r_v6
  exact K1 v1 e_v1 v2 e_v2 v3 e_v3 v4 e_v4 v5 e_v5 v6 e_v6
theorem s_l9c {O : pOut} {d kc ks : Nat} {Q : pRes → Prop} {es : PH} {xs : Nat → Int32} {n0 : Nat} {i k b : Int} {x6 x7 : Option Value} (hs_es : sh es) (h_i : 0 ≤ i ∧ i + 7 ≤ (n0 : Int)) (hn0 : n0 ≤ 3584) (hO : O 7 = some (n0, xs)) (h_k : -2147483648 ≤ k ∧ k ≤ 2147483647) (h_b : -2147483648 ≤ b ∧ b ≤ 2147483647)
    (K1 : aW O d 301 kc ks Q (23, [some (.ref 7), some (.ref 64), some (.ref 143), some (.ref 171), some (.int (zI (i + 7))), some (.int (zI k)), some (.int (zI b)), x7], [], es)) :
    aW O d 301 kc ks Q (621, [some (.ref 7), some (.ref 64), some (.ref 143), some (.ref 171), some (.int (zI i)), some (.int (zI k)), x6, x7], [.int (zI b)], es) := by
  refine x0 (r := (623, [some (.ref 7), some (.ref 64), some (.ref 143), some (.ref 171), some (.int (zI i)), some (.int (zI k)), some (.int (zI b)), x7], [], es)) i_301_621 rfl ?_
  refine x0 (r := (1439, [some (.ref 7), some (.ref 64), some (.ref 143), some (.ref 171), some (.int (zI i)), some (.int (zI k)), some (.int (zI b)), x7], [], es)) i_301_623 rfl ?_
  refine x_iinc (x := i) i_301_1439 rfl (by show 4 < 8; decide) ?_
  show aW _ _ _ _ _ _ (1442, [some (.ref 7), some (.ref 64), some (.ref 143), some (.ref 171), some (.int (zI (i + 7))), some (.int (zI k)), some (.int (zI b)), x7], [], es)
  refine x0 (r := (23, [some (.ref 7), some (.ref 64), some (.ref 143), some (.ref 171), some (.int (zI (i + 7))), some (.int (zI k)), some (.int (zI b)), x7], [], es)) i_301_1442 rfl ?_
  exact K1
theorem lh_9 {xs : Nat → Int32} {n : Nat} (hn : n ≤ 3584) {i : Int} {es : PH} {kc ks : Nat} {x5 x6 x7 : Option Value} (h0 : 0 ≤ i) (h7 : i + 7 ≤ (n : Int)) (hT : hOK tT es) (hI : gInv es) (hJ : J es) (K : lawK J xs n i kc ks) : aW (pO0 xs n) 41 301 kc ks lawQ (536, lawL i x5 x6 x7, [], es) := by
  refine s_l9a (d := 41) (n0 := n) (xs := xs) (sh_of hT) ⟨h0, h7⟩ hn rfl (fun v1 e_v1 v2 e_v2 v3 e_v3 v4 e_v4 v5 e_v5 v6 e_v6 => ?_)
  have b_v1 : i32 v1 := by rw [e_v1]; exact i32_rng _
  have b_v2 : i32 v2 := by rw [e_v2]; exact i32_rng _
  have b_v3 : i32 v3 := by rw [e_v3]; exact i32_rng _
  have b_v4 : i32 v4 := by rw [e_v4]; exact i32_rng _
  have b_v5 : i32 v5 := by rw [e_v5]; exact i32_rng _
  have b_v6 : i32 v6 := by rw [e_v6]; exact i32_rng _
  have hJ0 := hJ
  obtain ⟨j_tape_, j_size_, j_flag_, j_kinds_, j_kindsI_, j_lines_, j_linesI_, j_start_, j_startI_, j_books_, j_booksI_, j_stK_, j_stKI_, j_notes_, j_notesI_⟩ := hJ0
  have hbk : gI es 7 5 = gA es 80 1 := j_books_
  have hkd : gI es 7 0 = gA es 80 0 := j_kinds_
  have hB0 : 0 ≤ (gI es 7 5).toInt ∧ (gI es 7 5).toInt ≤ 3 := gI_bd hT (p := 7) (b := 5) rfl rfl
  have hC0 : v1 < 0 ∨ 2 < v1 ∨ (0 ≤ (gA es 13 v1.toNat).toInt ∧ (gA es 13 v1.toNat).toInt ≤ 24) := by
    by_cases h1 : 0 ≤ v1 ∧ v1 ≤ 2
    · exact Or.inr (Or.inr (gA_bd hT (p := 13) (t := 0) (n := 3) (k := v1.toNat) rfl (by omega) (by decide)))
    · omega
  refine x_call (vs := [.ref 64, .int (zI v1), .int (zI v2), .int (zI v3), .int (zI v4), .int (zI v5), .int (zI v6), .ref 171]) (rs := []) i_301_575 rfl (fun _ => rfl) rfl rfl rfl rfl rfl rfl ?_
  show aW _ _ _ _ _ _ (0, [some (.ref 64), some (.int (zI v1)), some (.int (zI v2)), some (.int (zI v3)), some (.int (zI v4)), some (.int (zI v5)), some (.int (zI v6)), some (.ref 171), none], [], es)
  refine aW_sh (aW_and (bs_283 hn (by decide) b_v1 b_v2 b_v3 b_v4 b_v5 b_v6 hT hI) (fn_chgy (O := pO0 xs n) (d := 36) b_v1 b_v2 b_v3 b_v4 b_v5 b_v6 hT)) (fun r es1 c1 k1 hp => ?_)
  obtain ⟨⟨hT1, hI1, hf1, hc1, hk1⟩, hp1⟩ : (hOK tT es1 ∧ gInv es1 ∧ fr kc_384.2.2.2.2.2.1 es es1 ∧ c1 ≤ 1 ∧ k1 ≤ 6) ∧ chgyP v1 v2 v3 v4 v5 v6 es r es1 := hp
  obtain ⟨hs1, -, k, rfl, hk⟩ := hp1
  have hkr : -2147483648 ≤ k ∧ k ≤ 2147483647 := by rcases hk with ⟨h, -⟩ | ⟨h, -⟩ | ⟨h, -⟩ | ⟨h, -⟩ <;> omega
  have w80 : ∀ i, i < 2125 → gA es1 80 i = gA es 80 i := fun i hi => keepA hf1 (sh_of hT) (p := 80) (t := 0) (n := 2125) (sp := tS80) rfl (by decide) (by decide) i hi
  have e1 : (gA es1 80 1).toInt = (gI es 7 5).toInt := by rw [w80 1 (by omega), ← hbk]
  have e0 : (gA es1 80 0).toInt = (gI es 7 0).toInt := by rw [w80 0 (by omega), ← hkd]
  have eV : v1 < 0 ∨ (gI es 7 5).toInt ≤ v1 ∨ (gA es1 80 ((119 + (98 * v1)) + 1).toNat).toInt = (gA es 13 v1.toNat).toInt := by
    by_cases h1 : 0 ≤ v1 ∧ v1 < (gI es 7 5).toInt
    · have h2 := (j_notes_ v1.toNat (by omega) (by omega)).2.1
      refine Or.inr (Or.inr ?_)
      rw [w80 _ (by omega), h2, show ((119 + (98 * v1)) + 1).toNat = 119 + 98 * v1.toNat + 1 by omega]
    · omega
  have eC : v1 < 0 ∨ (gI es 7 5).toInt ≤ v1 ∨ v2 < 0 ∨ (gA es 13 v1.toNat).toInt ≤ v2 ∨ ((gA es1 80 ((119 + (98 * v1)) + ((2 + (4 * v2)) + 0)).toNat).toInt = (gA es 14 ((((v1 * 24) + v2) * 4) + 0).toNat).toInt ∧ (gA es1 80 ((119 + (98 * v1)) + ((2 + (4 * v2)) + 1)).toNat).toInt = (gA es 14 ((((v1 * 24) + v2) * 4) + 1).toNat).toInt ∧ (gA es1 80 ((119 + (98 * v1)) + ((2 + (4 * v2)) + 2)).toNat).toInt = (gA es 14 ((((v1 * 24) + v2) * 4) + 2).toNat).toInt ∧ (gA es1 80 ((119 + (98 * v1)) + ((2 + (4 * v2)) + 3)).toNat).toInt = (gA es 14 ((((v1 * 24) + v2) * 4) + 3).toNat).toInt) := by
    by_cases h1 : (0 ≤ v1 ∧ v1 < (gI es 7 5).toInt) ∧ 0 ≤ v2 ∧ v2 < (gA es 13 v1.toNat).toInt
    · have h2 := (j_notes_ v1.toNat (by omega) (by omega)).2.2 v2.toNat (by omega) (by omega)
      refine Or.inr (Or.inr (Or.inr (Or.inr ⟨?_, ?_, ?_, ?_⟩)))
      · have h3 := h2 0 (by omega)
        rw [show ((((v1 * 24) + v2) * 4) + 0).toNat = 96 * v1.toNat + 4 * v2.toNat + 0 by omega, h3, w80 _ (by omega), show ((119 + (98 * v1)) + ((2 + (4 * v2)) + 0)).toNat = 119 + 98 * v1.toNat + 2 + 4 * v2.toNat + 0 by omega]
      · have h3 := h2 1 (by omega)
        rw [show ((((v1 * 24) + v2) * 4) + 1).toNat = 96 * v1.toNat + 4 * v2.toNat + 1 by omega, h3, w80 _ (by omega), show ((119 + (98 * v1)) + ((2 + (4 * v2)) + 1)).toNat = 119 + 98 * v1.toNat + 2 + 4 * v2.toNat + 1 by omega]
      · have h3 := h2 2 (by omega)
        rw [show ((((v1 * 24) + v2) * 4) + 2).toNat = 96 * v1.toNat + 4 * v2.toNat + 2 by omega, h3, w80 _ (by omega), show ((119 + (98 * v1)) + ((2 + (4 * v2)) + 2)).toNat = 119 + 98 * v1.toNat + 2 + 4 * v2.toNat + 2 by omega]
      · have h3 := h2 3 (by omega)
        rw [show ((((v1 * 24) + v2) * 4) + 3).toNat = 96 * v1.toNat + 4 * v2.toNat + 3 by omega, h3, w80 _ (by omega), show ((119 + (98 * v1)) + ((2 + (4 * v2)) + 3)).toNat = 119 + 98 * v1.toNat + 2 + 4 * v2.toNat + 3 by omega]
    · omega
  show aW _ _ _ _ _ _ (578, [some (.ref 7), some (.ref 64), some (.ref 143), some (.ref 171), some (.int (zI i)), x5, x6, x7], [.int (zI k)], es1)
  refine s_l9b (d := 41) (n0 := n) (xs := xs) (sh_of hT1) ⟨h0, h7⟩ hn rfl (fun wv1 e_wv1 wv2 e_wv2 wv3 e_wv3 wv4 e_wv4 wv5 e_wv5 wv6 e_wv6 => ?_)
  rw [show wv1 = v1 from by rw [e_wv1, e_v1]]
  rw [show wv2 = v2 from by rw [e_wv2, e_v2]]
  rw [show wv3 = v3 from by rw [e_wv3, e_v3]]
  rw [show wv4 = v4 from by rw [e_wv4, e_v4]]
  rw [show wv5 = v5 from by rw [e_wv5, e_v5]]
  rw [show wv6 = v6 from by rw [e_wv6, e_v6]]
  refine x_call (vs := [.ref 143, .int (zI v1), .int (zI v2), .int (zI v3), .int (zI v4), .int (zI v5), .int (zI v6)]) (rs := []) i_301_618 rfl (fun _ => rfl) rfl rfl rfl rfl rfl (pCall_v (p := 79) (sh_of hT1) rfl rfl rfl rfl rfl (by decide) rfl rfl rfl rfl rfl) ?_
  show aW _ _ _ _ _ _ (0, [some (.ref 143), some (.int (zI v1)), some (.int (zI v2)), some (.int (zI v3)), some (.int (zI v4)), some (.int (zI v5)), some (.int (zI v6)), none], [], es1)
  refine aW_sh (aW_and (bs_209 hn (by decide) b_v1 b_v2 b_v3 b_v4 b_v5 b_v6 hT1 hI1) (fn_chgm (O := pO0 xs n) (d := 36) b_v1 b_v2 b_v3 b_v4 b_v5 b_v6 hT1)) (fun r2 es2 c2 k2 hq => ?_)
  obtain ⟨⟨hT2, hI2, hf2, hc2, hk2⟩, hp2⟩ : (hOK tT es2 ∧ gInv es2 ∧ fr kc_334.2.2.2.2.2.1 es1 es2 ∧ c2 ≤ 0 ∧ k2 ≤ 0) ∧ chgmP v1 v2 v3 v4 v5 v6 es1 r2 es2 := hq
  obtain ⟨hs2, -, b, rfl, hbr, hb⟩ := hp2
  have hJ2 : J es2 := by
    have n_notes : j_notes es2 := by
      have a : gI es2 7 5 = gI es 7 5 := by rw [keepI hf2 (sh_of hT1) (p := 7) (b := 5) rfl (by decide), keepI hf1 (sh_of hT) (p := 7) (b := 5) rfl (by decide)]
      have r12 : ∀ i, i < 3 → gA es2 12 i = gA es 12 i := fun i hi => by rw [keepA hf2 (sh_of hT1) (p := 12) (t := 0) (n := 3) rfl (by decide) (by decide) i hi, keepA hf1 (sh_of hT) (p := 12) (t := 0) (n := 3) rfl (by decide) (by decide) i hi]
      have r13 : ∀ i, i < 3 → gA es2 13 i = gA es1 13 i := fun i hi => keepA hf2 (sh_of hT1) (p := 13) (t := 0) (n := 3) rfl (by decide) (by decide) i hi
      have r14 : ∀ i, i < 288 → gA es2 14 i = gA es1 14 i := fun i hi => keepA hf2 (sh_of hT1) (p := 14) (t := 0) (n := 288) rfl (by decide) (by decide) i hi
      show bkT _ _ _ _ (gI es2 7 5).toInt
      rw [a]
      rcases hk with ⟨h, h', e⟩ | ⟨h, h', e⟩ | ⟨h, h', e14, -⟩ | ⟨h, h', e14, -⟩
      · rcases hb with ⟨q, q', z⟩ | ⟨q, q', z⟩ | ⟨q, q', z, -⟩ | ⟨q, q', z, -⟩
        · exact bkT_c j_notes_ r12 (fun i hi => by rw [r13 i hi, e]) (fun i hi => by rw [r14 i hi, e]) (fun i h1 h2 => by rw [z, w80 i (by omega)])
        · exact bkT_c j_notes_ r12 (fun i hi => by rw [r13 i hi, e]) (fun i hi => by rw [r14 i hi, e]) (fun i h1 h2 => by rw [z, w80 i (by omega)])
        · exfalso; omega
        · exfalso; omega
      · rcases hb with ⟨q, q', z⟩ | ⟨q, q', z⟩ | ⟨q, q', z, -⟩ | ⟨q, q', z, -⟩
        · exact bkT_c j_notes_ r12 (fun i hi => by rw [r13 i hi, e]) (fun i hi => by rw [r14 i hi, e]) (fun i h1 h2 => by rw [z, w80 i (by omega)])
        · exact bkT_c j_notes_ r12 (fun i hi => by rw [r13 i hi, e]) (fun i hi => by rw [r14 i hi, e]) (fun i h1 h2 => by rw [z, w80 i (by omega)])
        · exfalso; omega
        · exfalso; omega
      · rcases hb with ⟨q, q', z⟩ | ⟨q, q', z⟩ | ⟨q, q', z, -⟩ | ⟨q, q', z, -⟩
        · exfalso; omega
        · exfalso; omega
        · have f13 : ∀ i, i < 3 → gA es2 13 i = gA es 13 i := fun i hi => by rw [r13 i hi, keepA hf1 (sh_of hT) (p := 13) (t := 0) (n := 3) rfl (by decide) (by decide) i hi]
          refine bkT_change (bk := v1) (V := v2) j_notes_ ⟨by omega, by omega⟩ ⟨by omega, by omega⟩ r12 f13 (fun i hi => by rw [r14 i hi, e14]) (fun i h1 h2 => ?_)
          rw [z]
          unfold upd
          rw [w80 i (by omega)]
        · have f13 : ∀ i, i < 3 → gA es2 13 i = gA es 13 i := fun i hi => by rw [r13 i hi, keepA hf1 (sh_of hT) (p := 13) (t := 0) (n := 3) rfl (by decide) (by decide) i hi]
          refine bkT_change (bk := v1) (V := v2) j_notes_ ⟨by omega, by omega⟩ ⟨by omega, by omega⟩ r12 f13 (fun i hi => by rw [r14 i hi, e14]) (fun i h1 h2 => ?_)
          rw [z]
          unfold upd
          rw [w80 i (by omega)]
      · rcases hb with ⟨q, q', z⟩ | ⟨q, q', z⟩ | ⟨q, q', z, -⟩ | ⟨q, q', z, -⟩
        · exfalso; omega
        · exfalso; omega
        · have f13 : ∀ i, i < 3 → gA es2 13 i = gA es 13 i := fun i hi => by rw [r13 i hi, keepA hf1 (sh_of hT) (p := 13) (t := 0) (n := 3) rfl (by decide) (by decide) i hi]
          refine bkT_change (bk := v1) (V := v2) j_notes_ ⟨by omega, by omega⟩ ⟨by omega, by omega⟩ r12 f13 (fun i hi => by rw [r14 i hi, e14]) (fun i h1 h2 => ?_)
          rw [z]
          unfold upd
          rw [w80 i (by omega)]
        · have f13 : ∀ i, i < 3 → gA es2 13 i = gA es 13 i := fun i hi => by rw [r13 i hi, keepA hf1 (sh_of hT) (p := 13) (t := 0) (n := 3) rfl (by decide) (by decide) i hi]
          refine bkT_change (bk := v1) (V := v2) j_notes_ ⟨by omega, by omega⟩ ⟨by omega, by omega⟩ r12 f13 (fun i hi => by rw [r14 i hi, e14]) (fun i h1 h2 => ?_)
          rw [z]
          unfold upd
          rw [w80 i (by omega)]
    exact ⟨kp_tape hf2 (sh_of hT1) (by decide) (kp_tape hf1 (sh_of hT) (by decide) j_tape_), kp_size hf2 (sh_of hT1) (by decide) (kp_size hf1 (sh_of hT) (by decide) j_size_), kp_flag hf2 (sh_of hT1) (by decide) (kp_flag hf1 (sh_of hT) (by decide) j_flag_), kp_kinds hf2 (sh_of hT1) (by decide) (kp_kinds hf1 (sh_of hT) (by decide) j_kinds_), kp_kindsI hf2 (sh_of hT1) (by decide) (kp_kindsI hf1 (sh_of hT) (by decide) j_kindsI_), kp_lines hf2 (sh_of hT1) (by decide) (kp_lines hf1 (sh_of hT) (by decide) j_lines_), kp_linesI hf2 (sh_of hT1) (by decide) (kp_linesI hf1 (sh_of hT) (by decide) j_linesI_), kp_start hf2 (sh_of hT1) (by decide) (kp_start hf1 (sh_of hT) (by decide) j_start_), kp_startI hf2 (sh_of hT1) (by decide) (kp_startI hf1 (sh_of hT) (by decide) j_startI_), kp_books hf2 (sh_of hT1) (by decide) (kp_books hf1 (sh_of hT) (by decide) j_books_), kp_booksI hf2 (sh_of hT1) (by decide) (kp_booksI hf1 (sh_of hT) (by decide) j_booksI_), kp_stK hf2 (sh_of hT1) (by decide) (kp_stK hf1 (sh_of hT) (by decide) j_stK_), kp_stKI hf2 (sh_of hT1) (by decide) (kp_stKI hf1 (sh_of hT) (by decide) j_stKI_), n_notes, kp_notesI hf2 (sh_of hT1) (by decide) (kp_notesI hf1 (sh_of hT) (by decide) j_notesI_)⟩
  have fin : ∀ y5 y6 y7, aW (pO0 xs n) 41 301 (kc + c1 + c2) (ks + k1 + k2) lawQ (23, lawL (i + 7) y5 y6 y7, [], es2) := fun y5 y6 y7 => K es2 _ _ y5 y6 y7 hT2 hI2 hJ2 (by omega) (by omega)
  show aW _ _ _ _ _ _ (621, [some (.ref 7), some (.ref 64), some (.ref 143), some (.ref 171), some (.int (zI i)), some (.int (zI k)), x6, x7], [.int (zI b)], es2)
  have t0 : (gI es2 79 0).toInt = k := by rcases hk with ⟨h, h', -⟩ | ⟨h, h', -⟩ | ⟨h, h', -⟩ | ⟨h, h', -⟩ <;> rcases hb with ⟨q, q', -⟩ | ⟨q, q', -⟩ | ⟨q, q', -⟩ | ⟨q, q', -⟩ <;> omega
  have t1 : k = 0 → (gJ es2 107 (Int.toNat 0)).toInt = b := by
    intro hk0
    rw [keepJ hf2 (sh_of hT1) (p := 107) (n := 1) rfl (by decide) (Int.toNat 0) (by decide)]
    rcases hk with ⟨h, -⟩ | ⟨h, -⟩ | ⟨h, h', -, g1⟩ | ⟨h, h', -, g1⟩
    · exfalso; omega
    · exfalso; omega
    · rcases hb with ⟨q, q', -⟩ | ⟨q, q', -⟩ | ⟨q, q', -, g2⟩ | ⟨q, q', -, g2⟩ <;> omega
    · rcases hb with ⟨q, q', -⟩ | ⟨q, q', -⟩ | ⟨q, q', -, g2⟩ | ⟨q, q', -, g2⟩ <;> omega
  have t2 : k = 0 → b = 0 ∨ b = 1 := by
    intro hk0
    clear hk
    rcases hb with ⟨q, q', -⟩ | ⟨q, q', -⟩ | ⟨q, q', -, g2⟩ | ⟨q, q', -, g2⟩ <;> omega
  exact s_l9c (O := pO0 xs n) (d := 41) (n0 := n) (xs := xs) (sh_of hT2) ⟨h0, h7⟩ hn rfl hkr hbr (fin _ _ _)
theorem s_l11a {O : pOut} {d kc ks : Nat} {Q : pRes → Prop} {es : PH} {xs : Nat → Int32} {n0 : Nat} {i : Int} {x5 x6 x7 : Option Value} (hs_es : sh es) (h_i : 0 ≤ i ∧ i + 7 ≤ (n0 : Int)) (hn0 : n0 ≤ 3584) (hO : O 7 = some (n0, xs))
    (K1 : ∀ v1 : Int, v1 = (xs (i + 1).toNat).toInt → ∀ v2 : Int, v2 = (xs (i + 2).toNat).toInt → ∀ v3 : Int, v3 = (xs (i + 3).toNat).toInt → ∀ v4 : Int, v4 = (xs (i + 4).toNat).toInt → aW O d 301 kc ks Q (704, [some (.ref 7), some (.ref 64), some (.ref 143), some (.ref 171), some (.int (zI i)), x5, x6, x7], [.ref 171, .int (zI v4), .int (zI v3), .int (zI v2), .int (zI v1), .ref 64], es)) :
    aW O d 301 kc ks Q (678, [some (.ref 7), some (.ref 64), some (.ref 143), some (.ref 171), some (.int (zI i)), x5, x6, x7], [], es) := by
  refine x0 (r := (679, [some (.ref 7), some (.ref 64), some (.ref 143), some (.ref 171), some (.int (zI i)), x5, x6, x7], [.ref 64], es)) i_301_678 rfl ?_
  refine x0 (r := (680, [some (.ref 7), some (.ref 64), some (.ref 143), some (.ref 171), some (.int (zI i)), x5, x6, x7], [.ref 7, .ref 64], es)) i_301_679 rfl ?_
  refine x0 (r := (682, [some (.ref 7), some (.ref 64), some (.ref 143), some (.ref 171), some (.int (zI i)), x5, x6, x7], [.int (zI i), .ref 7, .ref 64], es)) i_301_680 rfl ?_
  refine x0 (r := (683, [some (.ref 7), some (.ref 64), some (.ref 143), some (.ref 171), some (.int (zI i)), x5, x6, x7], [.int (zI 1), .int (zI i), .ref 7, .ref 64], es)) i_301_682 (by rfl) ?_
  refine x_iadd i_301_683 ?_
  refine x_oald (n := n0) (g := xs) i_301_684 hO (by unfold i32 iLO iHI; omega) (by omega) (by omega) ?_
  obtain ⟨v1, e_v1⟩ : ∃ z : Int, z = (xs (i + 1).toNat).toInt := ⟨_, rfl⟩
  rw [← e_v1]
  have r_v1 : iLO ≤ v1 ∧ v1 ≤ iHI := by rw [e_v1]; exact i32_rng _
  unfold iLO iHI at r_v1
  refine x0 (r := (686, [some (.ref 7), some (.ref 64), some (.ref 143), some (.ref 171), some (.int (zI i)), x5, x6, x7], [.ref 7, .int (zI v1), .ref 64], es)) i_301_685 rfl ?_
  refine x0 (r := (688, [some (.ref 7), some (.ref 64), some (.ref 143), some (.ref 171), some (.int (zI i)), x5, x6, x7], [.int (zI i), .ref 7, .int (zI v1), .ref 64], es)) i_301_686 rfl ?_
  refine x0 (r := (689, [some (.ref 7), some (.ref 64), some (.ref 143), some (.ref 171), some (.int (zI i)), x5, x6, x7], [.int (zI 2), .int (zI i), .ref 7, .int (zI v1), .ref 64], es)) i_301_688 (by rfl) ?_
  refine x_iadd i_301_689 ?_
  refine x_oald (n := n0) (g := xs) i_301_690 hO (by unfold i32 iLO iHI; omega) (by omega) (by omega) ?_
  obtain ⟨v2, e_v2⟩ : ∃ z : Int, z = (xs (i + 2).toNat).toInt := ⟨_, rfl⟩
  rw [← e_v2]
  have r_v2 : iLO ≤ v2 ∧ v2 ≤ iHI := by rw [e_v2]; exact i32_rng _
  unfold iLO iHI at r_v2
  refine x0 (r := (692, [some (.ref 7), some (.ref 64), some (.ref 143), some (.ref 171), some (.int (zI i)), x5, x6, x7], [.ref 7, .int (zI v2), .int (zI v1), .ref 64], es)) i_301_691 rfl ?_
  refine x0 (r := (694, [some (.ref 7), some (.ref 64), some (.ref 143), some (.ref 171), some (.int (zI i)), x5, x6, x7], [.int (zI i), .ref 7, .int (zI v2), .int (zI v1), .ref 64], es)) i_301_692 rfl ?_
  refine x0 (r := (695, [some (.ref 7), some (.ref 64), some (.ref 143), some (.ref 171), some (.int (zI i)), x5, x6, x7], [.int (zI 3), .int (zI i), .ref 7, .int (zI v2), .int (zI v1), .ref 64], es)) i_301_694 (by rfl) ?_
  refine x_iadd i_301_695 ?_
  refine x_oald (n := n0) (g := xs) i_301_696 hO (by unfold i32 iLO iHI; omega) (by omega) (by omega) ?_
  obtain ⟨v3, e_v3⟩ : ∃ z : Int, z = (xs (i + 3).toNat).toInt := ⟨_, rfl⟩
  rw [← e_v3]
  have r_v3 : iLO ≤ v3 ∧ v3 ≤ iHI := by rw [e_v3]; exact i32_rng _
  unfold iLO iHI at r_v3
  refine x0 (r := (698, [some (.ref 7), some (.ref 64), some (.ref 143), some (.ref 171), some (.int (zI i)), x5, x6, x7], [.ref 7, .int (zI v3), .int (zI v2), .int (zI v1), .ref 64], es)) i_301_697 rfl ?_
  refine x0 (r := (700, [some (.ref 7), some (.ref 64), some (.ref 143), some (.ref 171), some (.int (zI i)), x5, x6, x7], [.int (zI i), .ref 7, .int (zI v3), .int (zI v2), .int (zI v1), .ref 64], es)) i_301_698 rfl ?_
  refine x0 (r := (701, [some (.ref 7), some (.ref 64), some (.ref 143), some (.ref 171), some (.int (zI i)), x5, x6, x7], [.int (zI 4), .int (zI i), .ref 7, .int (zI v3), .int (zI v2), .int (zI v1), .ref 64], es)) i_301_700 (by rfl) ?_
  refine x_iadd i_301_701 ?_
  refine x_oald (n := n0) (g := xs) i_301_702 hO (by unfold i32 iLO iHI; omega) (by omega) (by omega) ?_
  obtain ⟨v4, e_v4⟩ : ∃ z : Int, z = (xs (i + 4).toNat).toInt := ⟨_, rfl⟩
  rw [← e_v4]
  have r_v4 : iLO ≤ v4 ∧ v4 ≤ iHI := by rw [e_v4]; exact i32_rng _
  unfold iLO iHI at r_v4
  refine x0 (r := (704, [some (.ref 7), some (.ref 64), some (.ref 143), some (.ref 171), some (.int (zI i)), x5, x6, x7], [.ref 171, .int (zI v4), .int (zI v3), .int (zI v2), .int (zI v1), .ref 64], es)) i_301_703 rfl ?_
  exact K1 v1 e_v1 v2 e_v2 v3 e_v3 v4 e_v4
theorem s_l11b {O : pOut} {d kc ks : Nat} {Q : pRes → Prop} {es : PH} {xs : Nat → Int32} {n0 : Nat} {i k : Int} {x5 x6 x7 : Option Value} (hs_es : sh es) (h_i : 0 ≤ i ∧ i + 7 ≤ (n0 : Int)) (hn0 : n0 ≤ 3584) (hO : O 7 = some (n0, xs))
    (K1 : ∀ v1 : Int, v1 = (xs (i + 1).toNat).toInt → ∀ v2 : Int, v2 = (xs (i + 2).toNat).toInt → ∀ v3 : Int, v3 = (xs (i + 3).toNat).toInt → ∀ v4 : Int, v4 = (xs (i + 4).toNat).toInt → aW O d 301 kc ks Q (734, [some (.ref 7), some (.ref 64), some (.ref 143), some (.ref 171), some (.int (zI i)), some (.int (zI k)), x6, x7], [.int (zI v4), .int (zI v3), .int (zI v2), .int (zI v1), .ref 143], es)) :
    aW O d 301 kc ks Q (707, [some (.ref 7), some (.ref 64), some (.ref 143), some (.ref 171), some (.int (zI i)), x5, x6, x7], [.int (zI k)], es) := by
  refine x0 (r := (709, [some (.ref 7), some (.ref 64), some (.ref 143), some (.ref 171), some (.int (zI i)), some (.int (zI k)), x6, x7], [], es)) i_301_707 rfl ?_
  refine x0 (r := (710, [some (.ref 7), some (.ref 64), some (.ref 143), some (.ref 171), some (.int (zI i)), some (.int (zI k)), x6, x7], [.ref 143], es)) i_301_709 rfl ?_
  refine x0 (r := (711, [some (.ref 7), some (.ref 64), some (.ref 143), some (.ref 171), some (.int (zI i)), some (.int (zI k)), x6, x7], [.ref 7, .ref 143], es)) i_301_710 rfl ?_
  refine x0 (r := (713, [some (.ref 7), some (.ref 64), some (.ref 143), some (.ref 171), some (.int (zI i)), some (.int (zI k)), x6, x7], [.int (zI i), .ref 7, .ref 143], es)) i_301_711 rfl ?_
  refine x0 (r := (714, [some (.ref 7), some (.ref 64), some (.ref 143), some (.ref 171), some (.int (zI i)), some (.int (zI k)), x6, x7], [.int (zI 1), .int (zI i), .ref 7, .ref 143], es)) i_301_713 (by rfl) ?_
  refine x_iadd i_301_714 ?_
  refine x_oald (n := n0) (g := xs) i_301_715 hO (by unfold i32 iLO iHI; omega) (by omega) (by omega) ?_
  obtain ⟨v1, e_v1⟩ : ∃ z : Int, z = (xs (i + 1).toNat).toInt := ⟨_, rfl⟩
  rw [← e_v1]
  have r_v1 : iLO ≤ v1 ∧ v1 ≤ iHI := by rw [e_v1]; exact i32_rng _
  unfold iLO iHI at r_v1
  refine x0 (r := (717, [some (.ref 7), some (.ref 64), some (.ref 143), some (.ref 171), some (.int (zI i)), some (.int (zI k)), x6, x7], [.ref 7, .int (zI v1), .ref 143], es)) i_301_716 rfl ?_
  refine x0 (r := (719, [some (.ref 7), some (.ref 64), some (.ref 143), some (.ref 171), some (.int (zI i)), some (.int (zI k)), x6, x7], [.int (zI i), .ref 7, .int (zI v1), .ref 143], es)) i_301_717 rfl ?_
  refine x0 (r := (720, [some (.ref 7), some (.ref 64), some (.ref 143), some (.ref 171), some (.int (zI i)), some (.int (zI k)), x6, x7], [.int (zI 2), .int (zI i), .ref 7, .int (zI v1), .ref 143], es)) i_301_719 (by rfl) ?_
  refine x_iadd i_301_720 ?_
  refine x_oald (n := n0) (g := xs) i_301_721 hO (by unfold i32 iLO iHI; omega) (by omega) (by omega) ?_
  obtain ⟨v2, e_v2⟩ : ∃ z : Int, z = (xs (i + 2).toNat).toInt := ⟨_, rfl⟩
  rw [← e_v2]
  have r_v2 : iLO ≤ v2 ∧ v2 ≤ iHI := by rw [e_v2]; exact i32_rng _
  unfold iLO iHI at r_v2
  refine x0 (r := (723, [some (.ref 7), some (.ref 64), some (.ref 143), some (.ref 171), some (.int (zI i)), some (.int (zI k)), x6, x7], [.ref 7, .int (zI v2), .int (zI v1), .ref 143], es)) i_301_722 rfl ?_
  refine x0 (r := (725, [some (.ref 7), some (.ref 64), some (.ref 143), some (.ref 171), some (.int (zI i)), some (.int (zI k)), x6, x7], [.int (zI i), .ref 7, .int (zI v2), .int (zI v1), .ref 143], es)) i_301_723 rfl ?_
  refine x0 (r := (726, [some (.ref 7), some (.ref 64), some (.ref 143), some (.ref 171), some (.int (zI i)), some (.int (zI k)), x6, x7], [.int (zI 3), .int (zI i), .ref 7, .int (zI v2), .int (zI v1), .ref 143], es)) i_301_725 (by rfl) ?_
  refine x_iadd i_301_726 ?_
  refine x_oald (n := n0) (g := xs) i_301_727 hO (by unfold i32 iLO iHI; omega) (by omega) (by omega) ?_
  obtain ⟨v3, e_v3⟩ : ∃ z : Int, z = (xs (i + 3).toNat).toInt := ⟨_, rfl⟩
  rw [← e_v3]
  have r_v3 : iLO ≤ v3 ∧ v3 ≤ iHI := by rw [e_v3]; exact i32_rng _
  unfold iLO iHI at r_v3
  refine x0 (r := (729, [some (.ref 7), some (.ref 64), some (.ref 143), some (.ref 171), some (.int (zI i)), some (.int (zI k)), x6, x7], [.ref 7, .int (zI v3), .int (zI v2), .int (zI v1), .ref 143], es)) i_301_728 rfl ?_
  refine x0 (r := (731, [some (.ref 7), some (.ref 64), some (.ref 143), some (.ref 171), some (.int (zI i)), some (.int (zI k)), x6, x7], [.int (zI i), .ref 7, .int (zI v3), .int (zI v2), .int (zI v1), .ref 143], es)) i_301_729 rfl ?_
  refine x0 (r := (732, [some (.ref 7), some (.ref 64), some (.ref 143), some (.ref 171), some (.int (zI i)), some (.int (zI k)), x6, x7], [.int (zI 4), .int (zI i), .ref 7, .int (zI v3), .int (zI v2), .int (zI v1), .ref 143], es)) i_301_731 (by rfl) ?_
  refine x_iadd i_301_732 ?_
  refine x_oald (n := n0) (g := xs) i_301_733 hO (by unfold i32 iLO iHI; omega) (by omega) (by omega) ?_
  obtain ⟨v4, e_v4⟩ : ∃ z : Int, z = (xs (i + 4).toNat).toInt := ⟨_, rfl⟩
  rw [← e_v4]
  have r_v4 : iLO ≤ v4 ∧ v4 ≤ iHI := by rw [e_v4]; exact i32_rng _
  unfold iLO iHI at r_v4
  exact K1 v1 e_v1 v2 e_v2 v3 e_v3 v4 e_v4
theorem s_l11c {O : pOut} {d kc ks : Nat} {Q : pRes → Prop} {es : PH} {xs : Nat → Int32} {n0 : Nat} {i k b : Int} {x6 x7 : Option Value} (hs_es : sh es) (h_i : 0 ≤ i ∧ i + 7 ≤ (n0 : Int)) (hn0 : n0 ≤ 3584) (hO : O 7 = some (n0, xs)) (h_k : -2147483648 ≤ k ∧ k ≤ 2147483647) (h_b : -2147483648 ≤ b ∧ b ≤ 2147483647)
    (K1 : aW O d 301 kc ks Q (23, [some (.ref 7), some (.ref 64), some (.ref 143), some (.ref 171), some (.int (zI (i + 7))), some (.int (zI k)), some (.int (zI b)), x7], [], es)) :
    aW O d 301 kc ks Q (737, [some (.ref 7), some (.ref 64), some (.ref 143), some (.ref 171), some (.int (zI i)), some (.int (zI k)), x6, x7], [.int (zI b)], es) := by
  refine x0 (r := (739, [some (.ref 7), some (.ref 64), some (.ref 143), some (.ref 171), some (.int (zI i)), some (.int (zI k)), some (.int (zI b)), x7], [], es)) i_301_737 rfl ?_
  refine x0 (r := (1439, [some (.ref 7), some (.ref 64), some (.ref 143), some (.ref 171), some (.int (zI i)), some (.int (zI k)), some (.int (zI b)), x7], [], es)) i_301_739 rfl ?_
  refine x_iinc (x := i) i_301_1439 rfl (by show 4 < 8; decide) ?_
  show aW _ _ _ _ _ _ (1442, [some (.ref 7), some (.ref 64), some (.ref 143), some (.ref 171), some (.int (zI (i + 7))), some (.int (zI k)), some (.int (zI b)), x7], [], es)
  refine x0 (r := (23, [some (.ref 7), some (.ref 64), some (.ref 143), some (.ref 171), some (.int (zI (i + 7))), some (.int (zI k)), some (.int (zI b)), x7], [], es)) i_301_1442 rfl ?_
  exact K1
theorem lh_11 {xs : Nat → Int32} {n : Nat} (hn : n ≤ 3584) {i : Int} {es : PH} {kc ks : Nat} {x5 x6 x7 : Option Value} (h0 : 0 ≤ i) (h7 : i + 7 ≤ (n : Int)) (hT : hOK tT es) (hI : gInv es) (hJ : J es) (K : lawK J xs n i kc ks) : aW (pO0 xs n) 41 301 kc ks lawQ (678, lawL i x5 x6 x7, [], es) := by
  refine s_l11a (d := 41) (n0 := n) (xs := xs) (sh_of hT) ⟨h0, h7⟩ hn rfl (fun v1 e_v1 v2 e_v2 v3 e_v3 v4 e_v4 => ?_)
  have b_v1 : i32 v1 := by rw [e_v1]; exact i32_rng _
  have b_v2 : i32 v2 := by rw [e_v2]; exact i32_rng _
  have b_v3 : i32 v3 := by rw [e_v3]; exact i32_rng _
  have b_v4 : i32 v4 := by rw [e_v4]; exact i32_rng _
  have hJ0 := hJ
  obtain ⟨j_tape_, j_size_, j_flag_, j_kinds_, j_kindsI_, j_lines_, j_linesI_, j_start_, j_startI_, j_books_, j_booksI_, j_stK_, j_stKI_, j_notes_, j_notesI_⟩ := hJ0
  have hbk : gI es 7 5 = gA es 80 1 := j_books_
  have hB0 : 0 ≤ (gI es 7 5).toInt ∧ (gI es 7 5).toInt ≤ 3 := gI_bd hT (p := 7) (b := 5) rfl rfl
  have hBb : ∀ s, s < 36 → -1 ≤ (gA es 80 (13 + s)).toInt ∧ (gA es 80 (13 + s)).toInt ≤ 9 := fun s hs => by
    have h := gA_bd hT (p := 80) (t := 0) (n := 2125) (sp := tS80) (k := 13 + s) rfl (by omega) (by decide)
    rw [tS80_st s hs] at h
    exact h
  obtain ⟨B, hBd⟩ : ∃ B : Nat → Int, B = fun s => if s < 36 then (gA es 80 (13 + s)).toInt else 0 := ⟨_, rfl⟩
  have hB1 : ∀ s, s < 36 → (gA es 80 (13 + s)).toInt = B s := fun s hs => by
    rw [hBd]
    show _ = if s < 36 then (gA es 80 (13 + s)).toInt else 0
    rw [if_pos hs]
  have hB0 : ∀ s, 36 ≤ s → B s = 0 := fun s hs => by
    rw [hBd]
    show (if s < 36 then (gA es 80 (13 + s)).toInt else 0) = 0
    rw [if_neg (by omega)]
  have hBr : rwB B := fun s => by
    by_cases hs : s < 36
    · rw [← hB1 s hs]; exact hBb s hs
    · rw [hB0 s (by omega)]; exact ⟨by omega, by omega⟩
  have hB11 : bdC B 11 es := fun s hs => ⟨by rw [← hB1 s hs]; exact j_start_ s hs, hBr s⟩
  obtain ⟨KD, hKd⟩ : ∃ KD : Nat → Nat × (Nat → Int × Nat), KD = zKw (gA es 9) (gA es 10) (gA es 80) := ⟨_, rfl⟩
  have hKC : kdC KD 9 10 es := by rw [hKd]; exact kdC_of j_lines_
  have hkd : gI es 7 0 = gA es 80 0 := j_kinds_
  have hBk : ∀ t, t < 36 → B t < 2 * (gI es 7 0).toInt := fun t ht => by
    have h1 := (hB11 t ht).1
    have h2 := j_stK_ t ht
    omega
  have hkw : 0 ≤ (gA es 80 0).toInt ∧ (gA es 80 0).toInt ≤ 5 := gA_bd hT (p := 80) (t := 0) (n := 2125) (sp := tS80) (k := 0) rfl (by omega) (by decide)
  have hkX : 0 ≤ (gI es 7 0).toInt ∧ (gI es 7 0).toInt ≤ 5 := by rw [hkd]; exact hkw
  refine x_call (vs := [.ref 64, .int (zI v1), .int (zI v2), .int (zI v3), .int (zI v4), .ref 171]) (rs := []) i_301_704 rfl (fun _ => rfl) rfl rfl rfl rfl rfl rfl ?_
  show aW _ _ _ _ _ _ (0, [some (.ref 64), some (.int (zI v1)), some (.int (zI v2)), some (.int (zI v3)), some (.int (zI v4)), some (.ref 171), none], [], es)
  refine aW_sh (aW_and (bs_285 hn (by decide) b_v1 b_v2 b_v3 b_v4 hT hI) (fn_writeNy (xs := xs) (n := n) (d := 30) b_v1 b_v2 b_v3 b_v4 hT hB11 hBr hBk hkX hKC)) (fun r es1 c1 k1 hp => ?_)
  obtain ⟨⟨hT1, hI1, hf1, hc1, hk1⟩, hp1⟩ : (hOK tT es1 ∧ gInv es1 ∧ fr kc_386.2.2.2.2.2.1 es es1 ∧ c1 ≤ 1 ∧ k1 ≤ 6) ∧ writeNyP KD B v1 v2 v3 v4 es r es1 := hp
  obtain ⟨hs1, -, k, rfl, hk⟩ := hp1
  have hkr : -2147483648 ≤ k ∧ k ≤ 2147483647 := by rcases hk with ⟨h, -⟩ | ⟨h, -⟩ | ⟨h, -⟩ <;> omega
  have w80 : ∀ i, i < 2125 → gA es1 80 i = gA es 80 i := fun i hi => keepA hf1 (sh_of hT) (p := 80) (t := 0) (n := 2125) (sp := tS80) rfl (by decide) (by decide) i hi
  have e80 : gA es1 80 1 = gA es 80 1 := w80 1 (by omega)
  have e0 : gA es1 80 0 = gI es 7 0 := by rw [w80 0 (by omega), hkd]
  have hB2 : ∀ s, s < 36 → (gA es1 80 (13 + s)).toInt = B s := fun s hs => by rw [w80 _ (by omega)]; exact hB1 s hs
  have hKR : kdR KD (gA es1 80) := by rw [hKd]; exact kdR_of j_lines_ (fun i h1 h2 => w80 i (by omega))
  show aW _ _ _ _ _ _ (707, [some (.ref 7), some (.ref 64), some (.ref 143), some (.ref 171), some (.int (zI i)), x5, x6, x7], [.int (zI k)], es1)
  refine s_l11b (d := 41) (n0 := n) (xs := xs) (sh_of hT1) ⟨h0, h7⟩ hn rfl (fun wv1 e_wv1 wv2 e_wv2 wv3 e_wv3 wv4 e_wv4 => ?_)
  rw [show wv1 = v1 from by rw [e_wv1, e_v1]]
  rw [show wv2 = v2 from by rw [e_wv2, e_v2]]
  rw [show wv3 = v3 from by rw [e_wv3, e_v3]]
  rw [show wv4 = v4 from by rw [e_wv4, e_v4]]
  refine x_call (vs := [.ref 143, .int (zI v1), .int (zI v2), .int (zI v3), .int (zI v4)]) (rs := []) i_301_734 rfl (fun _ => rfl) rfl rfl rfl rfl rfl (pCall_v (p := 79) (sh_of hT1) rfl rfl rfl rfl rfl (by decide) rfl rfl rfl rfl rfl) ?_
  show aW _ _ _ _ _ _ (0, [some (.ref 143), some (.int (zI v1)), some (.int (zI v2)), some (.int (zI v3)), some (.int (zI v4)), none, none, none, none, none, none, none, none, none], [], es1)
  refine aW_sh (aW_and (bs_274 hn (by decide) b_v1 b_v2 b_v3 b_v4 hT1 hI1) (fn_writeNm (O := pO0 xs n) (d := 32) b_v1 b_v2 b_v3 b_v4 hT1 hB2 hB0 hBr (by rw [e0]; exact hBk) hKR)) (fun r2 es2 c2 k2 hq => ?_)
  obtain ⟨⟨hT2, hI2, hf2, hc2, hk2⟩, hp2⟩ : (hOK tT es2 ∧ gInv es2 ∧ fr kc_376.2.2.2.2.2.1 es1 es2 ∧ c2 ≤ 0 ∧ k2 ≤ 0) ∧ writeNmP KD B v1 v2 v3 v4 es1 r2 es2 := hq
  obtain ⟨hs2, b, rfl, hbr, hb⟩ := hp2
  unfold mwP at hb
  rw [e80, ← hbk, e0] at hb
  have hJ2 : J es2 := by
    have n_books : j_books es2 := by
      have a : gI es2 7 5 = gI es1 7 5 := keepI hf2 (sh_of hT1) (p := 7) (b := 5) rfl (by decide)
      show gI es2 7 5 = gA es2 80 1
      rw [a]
      rcases hk with ⟨-, h', e⟩ | ⟨-, h', e⟩ | ⟨-, h', hx, -⟩
      · rcases hb with ⟨-, q', z⟩ | ⟨-, q', z⟩ | ⟨-, q', -⟩
        · rw [e, z, e80]; exact hbk
        · rw [e, z, e80]; exact hbk
        · exfalso; omega
      · rcases hb with ⟨-, q', z⟩ | ⟨-, q', z⟩ | ⟨-, q', -⟩
        · rw [e, z, e80]; exact hbk
        · rw [e, z, e80]; exact hbk
        · exfalso; omega
      · rcases hb with ⟨-, q', z⟩ | ⟨-, q', z⟩ | ⟨-, q', -, hm⟩
        · exfalso; omega
        · exfalso; omega
        · apply Int32.toInt_inj.mp
          rw [hx.1, hm.1]
    have n_notes : j_notes es2 := by
      have a : gI es2 7 5 = gI es1 7 5 := keepI hf2 (sh_of hT1) (p := 7) (b := 5) rfl (by decide)
      have r12 : gA es2 12 = gA es1 12 := keepF hf2 (sh_of hT1) (p := 12) (t := 0) (n := 3) rfl (by decide) (by decide)
      have r13 : gA es2 13 = gA es1 13 := keepF hf2 (sh_of hT1) (p := 13) (t := 0) (n := 3) rfl (by decide) (by decide)
      have r14 : gA es2 14 = gA es1 14 := keepF hf2 (sh_of hT1) (p := 14) (t := 0) (n := 288) rfl (by decide) (by decide)
      show bkT _ _ _ _ (gI es2 7 5).toInt
      rw [a, r12, r13, r14]
      rcases hk with ⟨-, h', e⟩ | ⟨-, h', e⟩ | ⟨-, h', hx, -⟩
      · rcases hb with ⟨-, q', z⟩ | ⟨-, q', z⟩ | ⟨-, q', -⟩
        · rw [e]; exact bkT_c j_notes_ (fun _ _ => rfl) (fun _ _ => rfl) (fun _ _ => rfl) (fun i h1 h2 => by rw [z, w80 i (by omega)])
        · rw [e]; exact bkT_c j_notes_ (fun _ _ => rfl) (fun _ _ => rfl) (fun _ _ => rfl) (fun i h1 h2 => by rw [z, w80 i (by omega)])
        · exfalso; omega
      · rcases hb with ⟨-, q', z⟩ | ⟨-, q', z⟩ | ⟨-, q', -⟩
        · rw [e]; exact bkT_c j_notes_ (fun _ _ => rfl) (fun _ _ => rfl) (fun _ _ => rfl) (fun i h1 h2 => by rw [z, w80 i (by omega)])
        · rw [e]; exact bkT_c j_notes_ (fun _ _ => rfl) (fun _ _ => rfl) (fun _ _ => rfl) (fun i h1 h2 => by rw [z, w80 i (by omega)])
        · exfalso; omega
      · rcases hb with ⟨-, q', z⟩ | ⟨-, q', z⟩ | ⟨-, q', -, hm⟩
        · exfalso; omega
        · exfalso; omega
        · obtain ⟨x1, x2, x3, x4, x5, x6⟩ := hx
          obtain ⟨m1, m2, m3, m4, m5⟩ := hm
          rw [x1]
          have hlw : (zWr KD (gI es 7 0).toInt v1 v3 v2.toNat 0 B (zI v4)).length ≤ 24 := by
            have := zWr_len (K := KD) (kc := (gI es 7 0).toInt) (wy := v1) (sl := v3) v2.toNat 0 B (zI v4)
            omega
          exact bkT_write (x := v1) (c := (gI es 7 5).toInt.toNat) (l := (zWr KD (gI es 7 0).toInt v1 v3 v2.toNat 0 B (zI v4))) j_notes_ (by omega) (by omega) hlw x2 x3 x4 x5 x6 m2 m3 m4 (fun i h1 h2 h3 => by rw [m5 i (by omega) h3, w80 i (by omega)])
    exact ⟨kp_tape hf2 (sh_of hT1) (by decide) (kp_tape hf1 (sh_of hT) (by decide) j_tape_), kp_size hf2 (sh_of hT1) (by decide) (kp_size hf1 (sh_of hT) (by decide) j_size_), kp_flag hf2 (sh_of hT1) (by decide) (kp_flag hf1 (sh_of hT) (by decide) j_flag_), kp_kinds hf2 (sh_of hT1) (by decide) (kp_kinds hf1 (sh_of hT) (by decide) j_kinds_), kp_kindsI hf2 (sh_of hT1) (by decide) (kp_kindsI hf1 (sh_of hT) (by decide) j_kindsI_), kp_lines hf2 (sh_of hT1) (by decide) (kp_lines hf1 (sh_of hT) (by decide) j_lines_), kp_linesI hf2 (sh_of hT1) (by decide) (kp_linesI hf1 (sh_of hT) (by decide) j_linesI_), kp_start hf2 (sh_of hT1) (by decide) (kp_start hf1 (sh_of hT) (by decide) j_start_), kp_startI hf2 (sh_of hT1) (by decide) (kp_startI hf1 (sh_of hT) (by decide) j_startI_), n_books, kp_booksI hf2 (sh_of hT1) (by decide) (kp_booksI hf1 (sh_of hT) (by decide) j_booksI_), kp_stK hf2 (sh_of hT1) (by decide) (kp_stK hf1 (sh_of hT) (by decide) j_stK_), kp_stKI hf2 (sh_of hT1) (by decide) (kp_stKI hf1 (sh_of hT) (by decide) j_stKI_), n_notes, kp_notesI hf2 (sh_of hT1) (by decide) (kp_notesI hf1 (sh_of hT) (by decide) j_notesI_)⟩
  have fin : ∀ y5 y6 y7, aW (pO0 xs n) 41 301 (kc + c1 + c2) (ks + k1 + k2) lawQ (23, lawL (i + 7) y5 y6 y7, [], es2) := fun y5 y6 y7 => K es2 _ _ y5 y6 y7 hT2 hI2 hJ2 (by omega) (by omega)
  show aW _ _ _ _ _ _ (737, [some (.ref 7), some (.ref 64), some (.ref 143), some (.ref 171), some (.int (zI i)), some (.int (zI k)), x6, x7], [.int (zI b)], es2)
  exact s_l11c (O := pO0 xs n) (d := 41) (n0 := n) (xs := xs) (sh_of hT2) ⟨h0, h7⟩ hn rfl hkr hbr (fin _ _ _)
theorem s_l21a {O : pOut} {d kc ks : Nat} {Q : pRes → Prop} {es : PH} {xs : Nat → Int32} {n0 : Nat} {i : Int} {x5 x6 x7 : Option Value} (hs_es : sh es) (h_i : 0 ≤ i ∧ i + 7 ≤ (n0 : Int)) (hn0 : n0 ≤ 3584) (hO : O 7 = some (n0, xs))
    (K1 : ∀ v1 : Int, v1 = (xs (i + 1).toNat).toInt → aW O d 301 kc ks Q (1041, [some (.ref 7), some (.ref 64), some (.ref 143), some (.ref 171), some (.int (zI i)), x5, x6, x7], [.ref 171, .int (zI v1), .ref 64], es)) :
    aW O d 301 kc ks Q (1033, [some (.ref 7), some (.ref 64), some (.ref 143), some (.ref 171), some (.int (zI i)), x5, x6, x7], [], es) := by
  refine x0 (r := (1034, [some (.ref 7), some (.ref 64), some (.ref 143), some (.ref 171), some (.int (zI i)), x5, x6, x7], [.ref 64], es)) i_301_1033 rfl ?_
  refine x0 (r := (1035, [some (.ref 7), some (.ref 64), some (.ref 143), some (.ref 171), some (.int (zI i)), x5, x6, x7], [.ref 7, .ref 64], es)) i_301_1034 rfl ?_
  refine x0 (r := (1037, [some (.ref 7), some (.ref 64), some (.ref 143), some (.ref 171), some (.int (zI i)), x5, x6, x7], [.int (zI i), .ref 7, .ref 64], es)) i_301_1035 rfl ?_
  refine x0 (r := (1038, [some (.ref 7), some (.ref 64), some (.ref 143), some (.ref 171), some (.int (zI i)), x5, x6, x7], [.int (zI 1), .int (zI i), .ref 7, .ref 64], es)) i_301_1037 (by rfl) ?_
  refine x_iadd i_301_1038 ?_
  refine x_oald (n := n0) (g := xs) i_301_1039 hO (by unfold i32 iLO iHI; omega) (by omega) (by omega) ?_
  obtain ⟨v1, e_v1⟩ : ∃ z : Int, z = (xs (i + 1).toNat).toInt := ⟨_, rfl⟩
  rw [← e_v1]
  have r_v1 : iLO ≤ v1 ∧ v1 ≤ iHI := by rw [e_v1]; exact i32_rng _
  unfold iLO iHI at r_v1
  refine x0 (r := (1041, [some (.ref 7), some (.ref 64), some (.ref 143), some (.ref 171), some (.int (zI i)), x5, x6, x7], [.ref 171, .int (zI v1), .ref 64], es)) i_301_1040 rfl ?_
  exact K1 v1 e_v1
theorem s_l21b {O : pOut} {d kc ks : Nat} {Q : pRes → Prop} {es : PH} {xs : Nat → Int32} {n0 : Nat} {i k : Int} {x5 x6 x7 : Option Value} (hs_es : sh es) (h_i : 0 ≤ i ∧ i + 7 ≤ (n0 : Int)) (hn0 : n0 ≤ 3584) (hO : O 7 = some (n0, xs))
    (K1 : ∀ v1 : Int, v1 = (xs (i + 1).toNat).toInt → aW O d 301 kc ks Q (1053, [some (.ref 7), some (.ref 64), some (.ref 143), some (.ref 171), some (.int (zI i)), some (.int (zI k)), x6, x7], [.int (zI v1), .ref 143], es)) :
    aW O d 301 kc ks Q (1044, [some (.ref 7), some (.ref 64), some (.ref 143), some (.ref 171), some (.int (zI i)), x5, x6, x7], [.int (zI k)], es) := by
  refine x0 (r := (1046, [some (.ref 7), some (.ref 64), some (.ref 143), some (.ref 171), some (.int (zI i)), some (.int (zI k)), x6, x7], [], es)) i_301_1044 rfl ?_
  refine x0 (r := (1047, [some (.ref 7), some (.ref 64), some (.ref 143), some (.ref 171), some (.int (zI i)), some (.int (zI k)), x6, x7], [.ref 143], es)) i_301_1046 rfl ?_
  refine x0 (r := (1048, [some (.ref 7), some (.ref 64), some (.ref 143), some (.ref 171), some (.int (zI i)), some (.int (zI k)), x6, x7], [.ref 7, .ref 143], es)) i_301_1047 rfl ?_
  refine x0 (r := (1050, [some (.ref 7), some (.ref 64), some (.ref 143), some (.ref 171), some (.int (zI i)), some (.int (zI k)), x6, x7], [.int (zI i), .ref 7, .ref 143], es)) i_301_1048 rfl ?_
  refine x0 (r := (1051, [some (.ref 7), some (.ref 64), some (.ref 143), some (.ref 171), some (.int (zI i)), some (.int (zI k)), x6, x7], [.int (zI 1), .int (zI i), .ref 7, .ref 143], es)) i_301_1050 (by rfl) ?_
  refine x_iadd i_301_1051 ?_
  refine x_oald (n := n0) (g := xs) i_301_1052 hO (by unfold i32 iLO iHI; omega) (by omega) (by omega) ?_
  obtain ⟨v1, e_v1⟩ : ∃ z : Int, z = (xs (i + 1).toNat).toInt := ⟨_, rfl⟩
  rw [← e_v1]
  have r_v1 : iLO ≤ v1 ∧ v1 ≤ iHI := by rw [e_v1]; exact i32_rng _
  unfold iLO iHI at r_v1
  exact K1 v1 e_v1
theorem s_l21c {O : pOut} {d kc ks : Nat} {Q : pRes → Prop} {es : PH} {xs : Nat → Int32} {n0 : Nat} {i k b : Int} {x6 x7 : Option Value} (hs_es : sh es) (h_i : 0 ≤ i ∧ i + 7 ≤ (n0 : Int)) (hn0 : n0 ≤ 3584) (hO : O 7 = some (n0, xs)) (h_k : -2147483648 ≤ k ∧ k ≤ 2147483647) (h_b : -2147483648 ≤ b ∧ b ≤ 2147483647)
    (K1 : ∀ v1 : Int, v1 = (gI es 79 0).toInt → v1 = k → k ≠ 0 → aW O (d + 1) 301 kc ks Q (23, [some (.ref 7), some (.ref 64), some (.ref 143), some (.ref 171), some (.int (zI (i + 7))), some (.int (zI k)), some (.int (zI b)), x7], [], es))
    (K2 : ∀ v1 : Int, v1 = (gI es 79 0).toInt → v1 = k → ¬ (k ≠ 0) → ∀ w4 : Int64, w4 = gJ es 107 (Int.toNat 0) → ∀ v5 : Int, v5 = sgn (w4.toInt - ((zI b).toInt64).toInt) → v5 = 0 → aW O (d + 1) 301 kc ks Q (23, [some (.ref 7), some (.ref 64), some (.ref 143), some (.ref 171), some (.int (zI (i + 7))), some (.int (zI k)), some (.int (zI b)), x7], [], es))
    (K3 : ∀ v1 : Int, v1 = (gI es 79 0).toInt → v1 = k → ¬ (k ≠ 0) → ∀ w4 : Int64, w4 = gJ es 107 (Int.toNat 0) → ∀ v5 : Int, v5 = sgn (w4.toInt - ((zI b).toInt64).toInt) → ¬ (v5 = 0) → Q (.inl (some (.int (zI 0))), es, kc, ks))
    (K4 : ∀ v1 : Int, v1 = (gI es 79 0).toInt → ¬ (v1 = k) → Q (.inl (some (.int (zI 0))), es, kc, ks)) :
    aW O (d + 1) 301 kc ks Q (1056, [some (.ref 7), some (.ref 64), some (.ref 143), some (.ref 171), some (.int (zI i)), some (.int (zI k)), x6, x7], [.int (zI b)], es) := by
  refine x0 (r := (1058, [some (.ref 7), some (.ref 64), some (.ref 143), some (.ref 171), some (.int (zI i)), some (.int (zI k)), some (.int (zI b)), x7], [], es)) i_301_1056 rfl ?_
  refine x0 (r := (1059, [some (.ref 7), some (.ref 64), some (.ref 143), some (.ref 171), some (.int (zI i)), some (.int (zI k)), some (.int (zI b)), x7], [.ref 143], es)) i_301_1058 rfl ?_
  refine x_call (vs := [.ref 143]) (rs := []) i_301_1059 rfl (fun _ => rfl) rfl rfl rfl rfl rfl (pCall_v (p := 79) hs_es rfl rfl rfl rfl rfl (by decide) rfl rfl rfl rfl rfl) ?_
  show aW _ _ _ _ _ _ (0, [some (.ref 143)], [], es)
  refine x0 (r := (1, [some (.ref 143)], [.ref 143], es)) i_167_0 rfl ?_
  refine x_geti (p := 79) i_167_1 hs_es rfl rfl ?_
  obtain ⟨v1, e_v1⟩ : ∃ z : Int, z = (gI es 79 0).toInt := ⟨_, rfl⟩
  rw [← e_v1]
  have r_v1 : iLO ≤ v1 ∧ v1 ≤ iHI := by rw [e_v1]; exact i32_rng _
  unfold iLO iHI at r_v1
  refine x_ret (v := some (.int (zI v1))) i_167_4 rfl (fun _ => rfl) rfl rfl rfl ?_
  show aW _ _ _ _ _ _ (1062, [some (.ref 7), some (.ref 64), some (.ref 143), some (.ref 171), some (.int (zI i)), some (.int (zI k)), some (.int (zI b)), x7], [.int (zI v1)], es)
  refine x0 (r := (1064, [some (.ref 7), some (.ref 64), some (.ref 143), some (.ref 171), some (.int (zI i)), some (.int (zI k)), some (.int (zI b)), x7], [.int (zI k), .int (zI v1)], es)) i_301_1062 rfl ?_
  by_cases c2 : v1 = k
  · refine x_cmpT i_301_1064 (by unfold i32 iLO iHI; omega) (by unfold i32 iLO iHI; omega) rfl (by simp only [zC, cR]; omega) ?_
    refine x0 (r := (1071, [some (.ref 7), some (.ref 64), some (.ref 143), some (.ref 171), some (.int (zI i)), some (.int (zI k)), some (.int (zI b)), x7], [.int (zI k)], es)) i_301_1069 rfl ?_
    by_cases c3 : k ≠ 0
    · refine x_ifT i_301_1071 (by unfold i32 iLO iHI; omega) rfl (by simp only [zC, cR]; omega) ?_
      refine x0 (r := (1439, [some (.ref 7), some (.ref 64), some (.ref 143), some (.ref 171), some (.int (zI i)), some (.int (zI k)), some (.int (zI b)), x7], [], es)) i_301_1086 rfl ?_
      refine x_iinc (x := i) i_301_1439 rfl (by show 4 < 8; decide) ?_
      show aW _ _ _ _ _ _ (1442, [some (.ref 7), some (.ref 64), some (.ref 143), some (.ref 171), some (.int (zI (i + 7))), some (.int (zI k)), some (.int (zI b)), x7], [], es)
      refine x0 (r := (23, [some (.ref 7), some (.ref 64), some (.ref 143), some (.ref 171), some (.int (zI (i + 7))), some (.int (zI k)), some (.int (zI b)), x7], [], es)) i_301_1442 rfl ?_
      exact K1 v1 e_v1 c2 c3
    · refine x_ifF i_301_1071 (by unfold i32 iLO iHI; omega) rfl (by simp only [zC, cR]; omega) ?_
      refine x0 (r := (1075, [some (.ref 7), some (.ref 64), some (.ref 143), some (.ref 171), some (.int (zI i)), some (.int (zI k)), some (.int (zI b)), x7], [.ref 171], es)) i_301_1074 rfl ?_
      refine x0 (r := (1076, [some (.ref 7), some (.ref 64), some (.ref 143), some (.ref 171), some (.int (zI i)), some (.int (zI k)), some (.int (zI b)), x7], [.int (zI 0), .ref 171], es)) i_301_1075 (by rfl) ?_
      refine x_lald (p := 107) i_301_1076 hs_es rfl (by unfold i32 iLO iHI; omega) (by omega) (by omega) ?_
      obtain ⟨w4, e_w4⟩ : ∃ z : Int64, z = gJ es 107 (Int.toNat 0) := ⟨_, rfl⟩
      rw [← e_w4]
      refine x0 (r := (1079, [some (.ref 7), some (.ref 64), some (.ref 143), some (.ref 171), some (.int (zI i)), some (.int (zI k)), some (.int (zI b)), x7], [.int (zI b), .long w4], es)) i_301_1077 rfl ?_
      refine x0 (r := (1080, [some (.ref 7), some (.ref 64), some (.ref 143), some (.ref 171), some (.int (zI i)), some (.int (zI k)), some (.int (zI b)), x7], [.long ((zI b).toInt64), .long w4], es)) i_301_1079 rfl ?_
      refine x_lcmp i_301_1080 ?_
      obtain ⟨v5, e_v5⟩ : ∃ z : Int, z = sgn (w4.toInt - ((zI b).toInt64).toInt) := ⟨_, rfl⟩
      rw [← e_v5]
      have r_v5 : iLO ≤ v5 ∧ v5 ≤ iHI := by rw [e_v5]; exact sgn_i32
      unfold iLO iHI at r_v5
      by_cases c6 : v5 = 0
      · refine x_ifT i_301_1081 (by unfold i32 iLO iHI; omega) rfl (by simp only [zC, cR]; omega) ?_
        refine x0 (r := (1439, [some (.ref 7), some (.ref 64), some (.ref 143), some (.ref 171), some (.int (zI i)), some (.int (zI k)), some (.int (zI b)), x7], [], es)) i_301_1086 rfl ?_
        refine x_iinc (x := i) i_301_1439 rfl (by show 4 < 8; decide) ?_
        show aW _ _ _ _ _ _ (1442, [some (.ref 7), some (.ref 64), some (.ref 143), some (.ref 171), some (.int (zI (i + 7))), some (.int (zI k)), some (.int (zI b)), x7], [], es)
        refine x0 (r := (23, [some (.ref 7), some (.ref 64), some (.ref 143), some (.ref 171), some (.int (zI (i + 7))), some (.int (zI k)), some (.int (zI b)), x7], [], es)) i_301_1442 rfl ?_
        exact K2 v1 e_v1 c2 c3 w4 e_w4 v5 e_v5 c6
      · refine x_ifF i_301_1081 (by unfold i32 iLO iHI; omega) rfl (by simp only [zC, cR]; omega) ?_
        refine x0 (r := (1085, [some (.ref 7), some (.ref 64), some (.ref 143), some (.ref 171), some (.int (zI i)), some (.int (zI k)), some (.int (zI b)), x7], [.int (zI 0)], es)) i_301_1084 (by rfl) ?_
        refine x_ret (v := some (.int (zI 0))) i_301_1085 rfl (fun _ => rfl) rfl rfl (pFin_b (by omega)) ?_
        exact K3 v1 e_v1 c2 c3 w4 e_w4 v5 e_v5 c6
  · refine x_cmpF i_301_1064 (by unfold i32 iLO iHI; omega) (by unfold i32 iLO iHI; omega) rfl (by simp only [zC, cR]; omega) ?_
    refine x0 (r := (1068, [some (.ref 7), some (.ref 64), some (.ref 143), some (.ref 171), some (.int (zI i)), some (.int (zI k)), some (.int (zI b)), x7], [.int (zI 0)], es)) i_301_1067 (by rfl) ?_
    refine x_ret (v := some (.int (zI 0))) i_301_1068 rfl (fun _ => rfl) rfl rfl (pFin_b (by omega)) ?_
    exact K4 v1 e_v1 c2
theorem lh_21 {xs : Nat → Int32} {n : Nat} (hn : n ≤ 3584) {i : Int} {es : PH} {kc ks : Nat} {x5 x6 x7 : Option Value} (h0 : 0 ≤ i) (h7 : i + 7 ≤ (n : Int)) (hT : hOK tT es) (hI : gInv es) (hJ : J es) (K : lawK J xs n i kc ks) : aW (pO0 xs n) 41 301 kc ks lawQ (1033, lawL i x5 x6 x7, [], es) := by
  refine s_l21a (d := 41) (n0 := n) (xs := xs) (sh_of hT) ⟨h0, h7⟩ hn rfl (fun v1 e_v1 => ?_)
  have b_v1 : i32 v1 := by rw [e_v1]; exact i32_rng _
  have hJ0 := hJ
  obtain ⟨j_tape_, j_size_, j_flag_, j_kinds_, j_kindsI_, j_lines_, j_linesI_, j_start_, j_startI_, j_books_, j_booksI_, j_stK_, j_stKI_, j_notes_, j_notesI_⟩ := hJ0
  have hBb : ∀ s, s < 36 → -1 ≤ (gA es 80 (13 + s)).toInt ∧ (gA es 80 (13 + s)).toInt ≤ 9 := fun s hs => by
    have h := gA_bd hT (p := 80) (t := 0) (n := 2125) (sp := tS80) (k := 13 + s) rfl (by omega) (by decide)
    rw [tS80_st s hs] at h
    exact h
  obtain ⟨B, hBd⟩ : ∃ B : Nat → Int, B = fun s => if s < 36 then (gA es 80 (13 + s)).toInt else 0 := ⟨_, rfl⟩
  have hB1 : ∀ s, s < 36 → (gA es 80 (13 + s)).toInt = B s := fun s hs => by
    rw [hBd]
    show _ = if s < 36 then (gA es 80 (13 + s)).toInt else 0
    rw [if_pos hs]
  have hB0 : ∀ s, 36 ≤ s → B s = 0 := fun s hs => by
    rw [hBd]
    show (if s < 36 then (gA es 80 (13 + s)).toInt else 0) = 0
    rw [if_neg (by omega)]
  have hBr : rwB B := fun s => by
    by_cases hs : s < 36
    · rw [← hB1 s hs]; exact hBb s hs
    · rw [hB0 s (by omega)]; exact ⟨by omega, by omega⟩
  have hB11 : bdC B 11 es := fun s hs => ⟨by rw [← hB1 s hs]; exact j_start_ s hs, hBr s⟩
  obtain ⟨KD, hKd⟩ : ∃ KD : Nat → Nat × (Nat → Int × Nat), KD = zKw (gA es 9) (gA es 10) (gA es 80) := ⟨_, rfl⟩
  have hKC : kdC KD 9 10 es := by rw [hKd]; exact kdC_of j_lines_
  have hbk : gI es 7 5 = gA es 80 1 := j_books_
  have hB05 : 0 ≤ (gI es 7 5).toInt ∧ (gI es 7 5).toInt ≤ 3 := gI_bd hT (p := 7) (b := 5) rfl rfl
  have hcn : (gI es 7 5).toInt = (((gI es 7 5).toInt.toNat : Nat) : Int) := by omega
  refine x_call (vs := [.ref 64, .int (zI v1), .ref 171]) (rs := []) i_301_1041 rfl (fun _ => rfl) rfl rfl rfl rfl rfl rfl ?_
  show aW _ _ _ _ _ _ (0, [some (.ref 64), some (.int (zI v1)), some (.ref 171), none], [], es)
  refine aW_sh (aW_and (bs_293 hn (by decide) b_v1 hT hI) (fn_lbk (xs := xs) (N := n) (d := 8) hn b_v1 hT hcn (bkC_of hT j_notes_ hcn) hBr hB11 hKC)) (fun r es1 c1 k1 hp => ?_)
  obtain ⟨⟨hT1, hI1, hf1, hc1, hk1⟩, hp1⟩ : (hOK tT es1 ∧ gInv es1 ∧ fr kc_396.2.2.2.2.2.1 es es1 ∧ c1 ≤ 1 ∧ k1 ≤ 6) ∧ lbkP KD (cNB es) (cWY es) (cNT es) B (gI es 7 5).toInt.toNat v1 r es1 := hp
  obtain ⟨hs1, k, rfl, hk⟩ := hp1
  have hkr : -2147483648 ≤ k ∧ k ≤ 2147483647 := by rcases hk with ⟨h, -⟩ | ⟨h, -⟩ <;> omega
  have w80 : ∀ i, i < 2125 → gA es1 80 i = gA es 80 i := fun i hi => keepA hf1 (sh_of hT) (p := 80) (t := 0) (n := 2125) (sp := tS80) rfl (by decide) (by decide) i hi
  have hKR : kdR KD (gA es1 80) := by rw [hKd]; exact kdR_of j_lines_ (fun i h1 h2 => w80 i (by omega))
  have hBB : bdF (gA es1 80) (fun _ => 0) 0 = B := by
    rw [hBd]
    funext s
    show (if s < 36 then (gA es1 80 (13 + s)).toInt else 0) = if s < 36 then (gA es 80 (13 + s)).toInt else 0
    by_cases hs : s < 36
    · rw [if_pos hs, if_pos hs, w80 _ (by omega)]
    · rw [if_neg hs, if_neg hs]
  have e1n : (gA es1 80 1).toInt = (((gI es 7 5).toInt.toNat : Nat) : Int) := by rw [w80 1 (by omega), ← hbk]; exact hcn
  have hfm := fn_mbk (O := pO0 xs n) (d := 32) (kv_365 (aWd_I (xs := xs) hn) hm_measured) b_v1 hT1 hI1 e1n (bkR_of hT j_notes_ hcn w80) hKR (by rw [hBB]; exact hBr)
  rw [hBB] at hfm
  show aW _ _ _ _ _ _ (1044, [some (.ref 7), some (.ref 64), some (.ref 143), some (.ref 171), some (.int (zI i)), x5, x6, x7], [.int (zI k)], es1)
  refine s_l21b (d := 41) (n0 := n) (xs := xs) (sh_of hT1) ⟨h0, h7⟩ hn rfl (fun wv1 e_wv1 => ?_)
  rw [show wv1 = v1 from by rw [e_wv1, e_v1]]
  refine x_call (vs := [.ref 143, .int (zI v1)]) (rs := []) i_301_1053 rfl (fun _ => rfl) rfl rfl rfl rfl rfl (pCall_v (p := 79) (sh_of hT1) rfl rfl rfl rfl rfl (by decide) rfl rfl rfl rfl rfl) ?_
  show aW _ _ _ _ _ _ (0, [some (.ref 143), some (.int (zI v1)), none], [], es1)
  refine aW_sh (aW_and (bs_263 hn (by decide) b_v1 hT1 hI1) (hfm)) (fun r2 es2 c2 k2 hq => ?_)
  obtain ⟨⟨hT2, hI2, hf2, hc2, hk2⟩, hp2⟩ : (hOK tT es2 ∧ gInv es2 ∧ fr kc_347.2.2.2.2.2.1 es1 es2 ∧ c2 ≤ 0 ∧ k2 ≤ 0) ∧ mbkP KD (cNB es) (cWY es) (cNT es) B (gI es 7 5).toInt.toNat v1 r2 es2 := hq
  obtain ⟨hs2, b, rfl, hbr, hb⟩ := hp2
  have hJ2 : J es2 := by
    exact ⟨kp_tape hf2 (sh_of hT1) (by decide) (kp_tape hf1 (sh_of hT) (by decide) j_tape_), kp_size hf2 (sh_of hT1) (by decide) (kp_size hf1 (sh_of hT) (by decide) j_size_), kp_flag hf2 (sh_of hT1) (by decide) (kp_flag hf1 (sh_of hT) (by decide) j_flag_), kp_kinds hf2 (sh_of hT1) (by decide) (kp_kinds hf1 (sh_of hT) (by decide) j_kinds_), kp_kindsI hf2 (sh_of hT1) (by decide) (kp_kindsI hf1 (sh_of hT) (by decide) j_kindsI_), kp_lines hf2 (sh_of hT1) (by decide) (kp_lines hf1 (sh_of hT) (by decide) j_lines_), kp_linesI hf2 (sh_of hT1) (by decide) (kp_linesI hf1 (sh_of hT) (by decide) j_linesI_), kp_start hf2 (sh_of hT1) (by decide) (kp_start hf1 (sh_of hT) (by decide) j_start_), kp_startI hf2 (sh_of hT1) (by decide) (kp_startI hf1 (sh_of hT) (by decide) j_startI_), kp_books hf2 (sh_of hT1) (by decide) (kp_books hf1 (sh_of hT) (by decide) j_books_), kp_booksI hf2 (sh_of hT1) (by decide) (kp_booksI hf1 (sh_of hT) (by decide) j_booksI_), kp_stK hf2 (sh_of hT1) (by decide) (kp_stK hf1 (sh_of hT) (by decide) j_stK_), kp_stKI hf2 (sh_of hT1) (by decide) (kp_stKI hf1 (sh_of hT) (by decide) j_stKI_), kp_notes hf2 (sh_of hT1) (by decide) (kp_notes hf1 (sh_of hT) (by decide) j_notes_), kp_notesI hf2 (sh_of hT1) (by decide) (kp_notesI hf1 (sh_of hT) (by decide) j_notesI_)⟩
  have fin : ∀ y5 y6 y7, aW (pO0 xs n) 41 301 (kc + c1 + c2) (ks + k1 + k2) lawQ (23, lawL (i + 7) y5 y6 y7, [], es2) := fun y5 y6 y7 => K es2 _ _ y5 y6 y7 hT2 hI2 hJ2 (by omega) (by omega)
  show aW _ _ _ _ _ _ (1056, [some (.ref 7), some (.ref 64), some (.ref 143), some (.ref 171), some (.int (zI i)), some (.int (zI k)), x6, x7], [.int (zI b)], es2)
  have t0 : (gI es2 79 0).toInt = k := by
    rcases hk with ⟨h, h'⟩ | ⟨h, c, h', h2, -⟩ <;> rcases hb with ⟨q, q'⟩ | ⟨q, c', q', q2, -⟩ <;> omega
  have t1 : k = 0 → (gJ es2 107 (Int.toNat 0)).toInt = b := by
    intro hk0
    rw [keepJ hf2 (sh_of hT1) (p := 107) (n := 1) rfl (by decide) (Int.toNat 0) (by decide)]
    rcases hk with ⟨h, -⟩ | ⟨h, c, h', h2, h3⟩
    · exfalso; omega
    · rcases hb with ⟨q, q'⟩ | ⟨q, c', q', q2, q3⟩
      · exfalso; omega
      · have hcc : c = c' := by omega
        rw [h3, q3, hcc]
  exact s_l21c (O := pO0 xs n) (d := 40) (n0 := n) (xs := xs) (sh_of hT2) ⟨h0, h7⟩ hn rfl hkr hbr (fun v1 e_v1 c2 c3 => (fin _ _ _)) (fun v1 e_v1 c2 c3 w4 e_w4 v5 e_v5 c6 => (fin _ _ _)) (fun v1 e_v1 c2 c3 w4 e_w4 v5 e_v5 c6 => (absurd (show v5 = 0 by rw [e_v5, sgn_z, i2l_int hbr, e_w4]; have := t1 (by omega); omega) c6)) (fun v1 e_v1 c2 => (by exfalso; omega))
theorem s_l30a {O : pOut} {d kc ks : Nat} {Q : pRes → Prop} {es : PH} {xs : Nat → Int32} {n0 : Nat} {i : Int} {x5 x6 x7 : Option Value} (hs_es : sh es) (h_i : 0 ≤ i ∧ i + 7 ≤ (n0 : Int)) (hn0 : n0 ≤ 3584) (hO : O 7 = some (n0, xs))
    (K1 : aW O d 301 kc ks Q (1391, [some (.ref 7), some (.ref 64), some (.ref 143), some (.ref 171), some (.int (zI i)), x5, x6, x7], [.ref 64], es)) :
    aW O d 301 kc ks Q (1390, [some (.ref 7), some (.ref 64), some (.ref 143), some (.ref 171), some (.int (zI i)), x5, x6, x7], [], es) := by
  refine x0 (r := (1391, [some (.ref 7), some (.ref 64), some (.ref 143), some (.ref 171), some (.int (zI i)), x5, x6, x7], [.ref 64], es)) i_301_1390 rfl ?_
  exact K1
theorem s_l30b {O : pOut} {d kc ks : Nat} {Q : pRes → Prop} {es : PH} {xs : Nat → Int32} {n0 : Nat} {i : Int} {x5 x6 x7 : Option Value} (hs_es : sh es) (h_i : 0 ≤ i ∧ i + 7 ≤ (n0 : Int)) (hn0 : n0 ≤ 3584) (hO : O 7 = some (n0, xs))
    (K1 : aW O d 301 kc ks Q (1395, [some (.ref 7), some (.ref 64), some (.ref 143), some (.ref 171), some (.int (zI i)), x5, x6, x7], [.ref 143], es)) :
    aW O d 301 kc ks Q (1394, [some (.ref 7), some (.ref 64), some (.ref 143), some (.ref 171), some (.int (zI i)), x5, x6, x7], [], es) := by
  refine x0 (r := (1395, [some (.ref 7), some (.ref 64), some (.ref 143), some (.ref 171), some (.int (zI i)), x5, x6, x7], [.ref 143], es)) i_301_1394 rfl ?_
  exact K1
theorem s_l30c {O : pOut} {d kc ks : Nat} {Q : pRes → Prop} {es : PH} {xs : Nat → Int32} {n0 : Nat} {i : Int} {x5 x6 x7 : Option Value} (hs_es : sh es) (h_i : 0 ≤ i ∧ i + 7 ≤ (n0 : Int)) (hn0 : n0 ≤ 3584) (hO : O 7 = some (n0, xs))
    (K1 : aW O d 301 kc ks Q (23, [some (.ref 7), some (.ref 64), some (.ref 143), some (.ref 171), some (.int (zI (i + 7))), x5, x6, x7], [], es)) :
    aW O d 301 kc ks Q (1398, [some (.ref 7), some (.ref 64), some (.ref 143), some (.ref 171), some (.int (zI i)), x5, x6, x7], [], es) := by
  refine x0 (r := (1439, [some (.ref 7), some (.ref 64), some (.ref 143), some (.ref 171), some (.int (zI i)), x5, x6, x7], [], es)) i_301_1398 rfl ?_
  refine x_iinc (x := i) i_301_1439 rfl (by show 4 < 8; decide) ?_
  show aW _ _ _ _ _ _ (1442, [some (.ref 7), some (.ref 64), some (.ref 143), some (.ref 171), some (.int (zI (i + 7))), x5, x6, x7], [], es)
  refine x0 (r := (23, [some (.ref 7), some (.ref 64), some (.ref 143), some (.ref 171), some (.int (zI (i + 7))), x5, x6, x7], [], es)) i_301_1442 rfl ?_
  exact K1
theorem lh_30 {xs : Nat → Int32} {n : Nat} (hn : n ≤ 3584) {i : Int} {es : PH} {kc ks : Nat} {x5 x6 x7 : Option Value} (h0 : 0 ≤ i) (h7 : i + 7 ≤ (n : Int)) (hT : hOK tT es) (hI : gInv es) (hJ : J es) (K : lawK J xs n i kc ks) : aW (pO0 xs n) 41 301 kc ks lawQ (1390, lawL i x5 x6 x7, [], es) := by
  refine s_l30a (d := 41) (n0 := n) (xs := xs) (sh_of hT) ⟨h0, h7⟩ hn rfl ?_
  have hJ0 := hJ
  obtain ⟨j_tape_, j_size_, j_flag_, j_kinds_, j_kindsI_, j_lines_, j_linesI_, j_start_, j_startI_, j_books_, j_booksI_, j_stK_, j_stKI_, j_notes_, j_notesI_⟩ := hJ0
  refine x_call (vs := [.ref 64]) (rs := []) i_301_1391 rfl (fun _ => rfl) rfl rfl rfl rfl rfl (pCall_v (p := 0) (sh_of hT) rfl rfl rfl rfl rfl (by decide) rfl rfl rfl rfl rfl) ?_
  show aW _ _ _ _ _ _ (0, [some (.ref 64)], [], es)
  refine aW_sh (aW_and (bs_70 hn (by decide) hT hI) (fn_ximage (O := pO0 xs n) (d := 37) (sh_of hT))) (fun r es1 c1 k1 hp => ?_)
  obtain ⟨⟨hT1, hI1, hf1, hc1, hk1⟩, hp1⟩ : (hOK tT es1 ∧ gInv es1 ∧ fr kc_299.2.2.2.2.2.1 es es1 ∧ c1 ≤ 0 ∧ k1 ≤ 0) ∧ r = .inl none ∧ ximP es es1 := hp
  obtain ⟨rfl, hs1, x_f0, x_f5, x8, x9, x10, x11, x12, x13, x14, x15, x_fl⟩ := hp1
  show aW _ _ _ _ _ _ (1394, [some (.ref 7), some (.ref 64), some (.ref 143), some (.ref 171), some (.int (zI i)), x5, x6, x7], [], es1)
  refine s_l30b (d := 41) (n0 := n) (xs := xs) (sh_of hT1) ⟨h0, h7⟩ hn rfl ?_
  refine x_call (vs := [.ref 143]) (rs := []) i_301_1395 rfl (fun _ => rfl) rfl rfl rfl rfl rfl (pCall_v (p := 79) (sh_of hT1) rfl rfl rfl rfl rfl (by decide) rfl rfl rfl rfl rfl) ?_
  show aW _ _ _ _ _ _ (0, [some (.ref 143), none], [], es1)
  refine aW_sh (aW_and (bs_169 hn (by decide) hT1 hI1) (fn_mimage (O := pO0 xs n) (d := 40) hT1)) (fun r2 es2 c2 k2 hq => ?_)
  obtain ⟨⟨hT2, hI2, hf2, hc2, hk2⟩, hp2⟩ : (hOK tT es2 ∧ gInv es2 ∧ fr kc_406.2.2.2.2.2.1 es1 es2 ∧ c2 ≤ 0 ∧ k2 ≤ 0) ∧ r2 = .inl none ∧ hOK tT es2 ∧ fr frIm es1 es2 ∧ (∀ k, k < 1284 → gA es2 81 k = gA es1 80 k) ∧ gA es2 80 = gA es1 80 ∧ gI es2 79 3 = zI 1 := hq
  obtain ⟨rfl, -, g1, g2, g3, g4⟩ := hp2
  have hJ2 : J es2 := by
    have n_flag : j_flag es2 := by
      show gI es2 0 9 = gI es2 79 3
      rw [keepI g1 (sh_of hT1) (p := 0) (b := 9) rfl (by decide), x_fl, g4]
    have n_kindsI : j_kindsI es2 := by
      intro _
      rw [keepI hf2 (sh_of hT1) (p := 18) (b := 0) rfl (by decide), x_f0, g2 0 (by omega), keepA hf1 (sh_of hT) (p := 80) (t := 0) (n := 2125) (sp := tS80) rfl (by decide) (by decide) 0 (by omega)]
      exact j_kinds_
    have n_linesI : j_linesI es2 := by
      intro _
      exact lnT_c j_lines_ (fun i hi => by rw [keepA hf2 (sh_of hT1) (p := 20) (t := 0) (n := 5) rfl (by decide) (by decide) i hi, x9 i hi]) (fun i hi => by rw [keepA hf2 (sh_of hT1) (p := 21) (t := 0) (n := 60) rfl (by decide) (by decide) i hi, x10 i hi]) (fun i h1 h2 => by rw [g2 i (by omega), keepA hf1 (sh_of hT) (p := 80) (t := 0) (n := 2125) (sp := tS80) rfl (by decide) (by decide) i (by omega)])
    have n_startI : j_startI es2 := by
      intro _
      exact stT_c j_start_ (fun i hi => by rw [keepA hf2 (sh_of hT1) (p := 22) (t := 0) (n := 36) rfl (by decide) (by decide) i hi, x11 i hi]) (fun i h1 h2 => by rw [g2 i (by omega), keepA hf1 (sh_of hT) (p := 80) (t := 0) (n := 2125) (sp := tS80) rfl (by decide) (by decide) i (by omega)])
    have n_booksI : j_booksI es2 := by
      intro _
      rw [keepI hf2 (sh_of hT1) (p := 18) (b := 5) rfl (by decide), x_f5, g2 1 (by omega), keepA hf1 (sh_of hT) (p := 80) (t := 0) (n := 2125) (sp := tS80) rfl (by decide) (by decide) 1 (by omega)]
      exact j_books_
    have n_stKI : j_stKI es2 := by
      intro _ i hi
      rw [keepA hf2 (sh_of hT1) (p := 22) (t := 0) (n := 36) rfl (by decide) (by decide) i hi, x11 i hi, keepI hf2 (sh_of hT1) (p := 18) (b := 0) rfl (by decide), x_f0]
      exact j_stK_ i hi
    have n_notesI : j_notesI es2 := by
      intro _
      rw [keepI hf2 (sh_of hT1) (p := 18) (b := 5) rfl (by decide), x_f5]
      exact bkT_c j_notes_ (fun i hi => by rw [keepA hf2 (sh_of hT1) (p := 23) (t := 0) (n := 3) rfl (by decide) (by decide) i hi, x12 i hi]) (fun i hi => by rw [keepA hf2 (sh_of hT1) (p := 24) (t := 0) (n := 3) rfl (by decide) (by decide) i hi, x13 i hi]) (fun i hi => by rw [keepA hf2 (sh_of hT1) (p := 25) (t := 0) (n := 288) rfl (by decide) (by decide) i hi, x14 i hi]) (fun i h1 h2 => by rw [g2 i (by omega), keepA hf1 (sh_of hT) (p := 80) (t := 0) (n := 2125) (sp := tS80) rfl (by decide) (by decide) i (by omega)])
    exact ⟨kp_tape hf2 (sh_of hT1) (by decide) (kp_tape hf1 (sh_of hT) (by decide) j_tape_), kp_size hf2 (sh_of hT1) (by decide) (kp_size hf1 (sh_of hT) (by decide) j_size_), n_flag, kp_kinds hf2 (sh_of hT1) (by decide) (kp_kinds hf1 (sh_of hT) (by decide) j_kinds_), n_kindsI, kp_lines hf2 (sh_of hT1) (by decide) (kp_lines hf1 (sh_of hT) (by decide) j_lines_), n_linesI, kp_start hf2 (sh_of hT1) (by decide) (kp_start hf1 (sh_of hT) (by decide) j_start_), n_startI, kp_books hf2 (sh_of hT1) (by decide) (kp_books hf1 (sh_of hT) (by decide) j_books_), n_booksI, kp_stK hf2 (sh_of hT1) (by decide) (kp_stK hf1 (sh_of hT) (by decide) j_stK_), n_stKI, kp_notes hf2 (sh_of hT1) (by decide) (kp_notes hf1 (sh_of hT) (by decide) j_notes_), n_notesI⟩
  have fin : ∀ y5 y6 y7, aW (pO0 xs n) 41 301 (kc + c1 + c2) (ks + k1 + k2) lawQ (23, lawL (i + 7) y5 y6 y7, [], es2) := fun y5 y6 y7 => K es2 _ _ y5 y6 y7 hT2 hI2 hJ2 (by omega) (by omega)
  show aW _ _ _ _ _ _ (1398, [some (.ref 7), some (.ref 64), some (.ref 143), some (.ref 171), some (.int (zI i)), x5, x6, x7], [], es2)
  exact s_l30c (O := pO0 xs n) (d := 41) (n0 := n) (xs := xs) (sh_of hT2) ⟨h0, h7⟩ hn rfl (fin _ _ _)
theorem s_l31a {O : pOut} {d kc ks : Nat} {Q : pRes → Prop} {es : PH} {xs : Nat → Int32} {n0 : Nat} {i : Int} {x5 x6 x7 : Option Value} (hs_es : sh es) (h_i : 0 ≤ i ∧ i + 7 ≤ (n0 : Int)) (hn0 : n0 ≤ 3584) (hO : O 7 = some (n0, xs))
    (K1 : aW O d 301 kc ks Q (1402, [some (.ref 7), some (.ref 64), some (.ref 143), some (.ref 171), some (.int (zI i)), x5, x6, x7], [.ref 64], es)) :
    aW O d 301 kc ks Q (1401, [some (.ref 7), some (.ref 64), some (.ref 143), some (.ref 171), some (.int (zI i)), x5, x6, x7], [], es) := by
  refine x0 (r := (1402, [some (.ref 7), some (.ref 64), some (.ref 143), some (.ref 171), some (.int (zI i)), x5, x6, x7], [.ref 64], es)) i_301_1401 rfl ?_
  exact K1
theorem s_l31b {O : pOut} {d kc ks : Nat} {Q : pRes → Prop} {es : PH} {xs : Nat → Int32} {n0 : Nat} {i k : Int} {x5 x6 x7 : Option Value} (hs_es : sh es) (h_i : 0 ≤ i ∧ i + 7 ≤ (n0 : Int)) (hn0 : n0 ≤ 3584) (hO : O 7 = some (n0, xs))
    (K1 : aW O d 301 kc ks Q (1407, [some (.ref 7), some (.ref 64), some (.ref 143), some (.ref 171), some (.int (zI i)), x5, x6, x7], [.ref 143], es)) :
    aW O d 301 kc ks Q (1405, [some (.ref 7), some (.ref 64), some (.ref 143), some (.ref 171), some (.int (zI i)), x5, x6, x7], [.int (zI k)], es) := by
  refine x0 (r := (1406, [some (.ref 7), some (.ref 64), some (.ref 143), some (.ref 171), some (.int (zI i)), x5, x6, x7], [], es)) i_301_1405 rfl ?_
  refine x0 (r := (1407, [some (.ref 7), some (.ref 64), some (.ref 143), some (.ref 171), some (.int (zI i)), x5, x6, x7], [.ref 143], es)) i_301_1406 rfl ?_
  exact K1
theorem s_l31c {O : pOut} {d kc ks : Nat} {Q : pRes → Prop} {es : PH} {xs : Nat → Int32} {n0 : Nat} {i b : Int} {x5 x6 x7 : Option Value} (hs_es : sh es) (h_i : 0 ≤ i ∧ i + 7 ≤ (n0 : Int)) (hn0 : n0 ≤ 3584) (hO : O 7 = some (n0, xs)) (h_b : -2147483648 ≤ b ∧ b ≤ 2147483647)
    (K1 : aW O d 301 kc ks Q (23, [some (.ref 7), some (.ref 64), some (.ref 143), some (.ref 171), some (.int (zI (i + 7))), x5, x6, x7], [], es)) :
    aW O d 301 kc ks Q (1410, [some (.ref 7), some (.ref 64), some (.ref 143), some (.ref 171), some (.int (zI i)), x5, x6, x7], [.int (zI b)], es) := by
  refine x0 (r := (1411, [some (.ref 7), some (.ref 64), some (.ref 143), some (.ref 171), some (.int (zI i)), x5, x6, x7], [], es)) i_301_1410 rfl ?_
  refine x0 (r := (1439, [some (.ref 7), some (.ref 64), some (.ref 143), some (.ref 171), some (.int (zI i)), x5, x6, x7], [], es)) i_301_1411 rfl ?_
  refine x_iinc (x := i) i_301_1439 rfl (by show 4 < 8; decide) ?_
  show aW _ _ _ _ _ _ (1442, [some (.ref 7), some (.ref 64), some (.ref 143), some (.ref 171), some (.int (zI (i + 7))), x5, x6, x7], [], es)
  refine x0 (r := (23, [some (.ref 7), some (.ref 64), some (.ref 143), some (.ref 171), some (.int (zI (i + 7))), x5, x6, x7], [], es)) i_301_1442 rfl ?_
  exact K1
theorem lh_31 {xs : Nat → Int32} {n : Nat} (hn : n ≤ 3584) {i : Int} {es : PH} {kc ks : Nat} {x5 x6 x7 : Option Value} (h0 : 0 ≤ i) (h7 : i + 7 ≤ (n : Int)) (hT : hOK tT es) (hI : gInv es) (hJ : J es) (K : lawK J xs n i kc ks) : aW (pO0 xs n) 41 301 kc ks lawQ (1401, lawL i x5 x6 x7, [], es) := by
  refine s_l31a (d := 41) (n0 := n) (xs := xs) (sh_of hT) ⟨h0, h7⟩ hn rfl ?_
  have hJ0 := hJ
  obtain ⟨j_tape_, j_size_, j_flag_, j_kinds_, j_kindsI_, j_lines_, j_linesI_, j_start_, j_startI_, j_books_, j_booksI_, j_stK_, j_stKI_, j_notes_, j_notesI_⟩ := hJ0
  refine x_call (vs := [.ref 64]) (rs := []) i_301_1402 rfl (fun _ => rfl) rfl rfl rfl rfl rfl (pCall_v (p := 0) (sh_of hT) rfl rfl rfl rfl rfl (by decide) rfl rfl rfl rfl rfl) ?_
  show aW _ _ _ _ _ _ (0, [some (.ref 64)], [], es)
  refine aW_sh (aW_and (bs_72 hn (by decide) hT hI) (fn_xback (O := pO0 xs n) (d := 37) hT)) (fun r es1 c1 k1 hp => ?_)
  obtain ⟨⟨hT1, hI1, hf1, hc1, hk1⟩, hp1⟩ : (hOK tT es1 ∧ gInv es1 ∧ fr kc_301.2.2.2.2.2.1 es es1 ∧ c1 ≤ 0 ∧ k1 ≤ 0) ∧ ((r = .inl (some (.int (zI 0))) ∧ (gI es 0 9).toInt = 0 ∧ es1 = es) ∨ (r = .inl (some (.int (zI 1))) ∧ ¬ (gI es 0 9).toInt = 0 ∧ xbaP es es1)) := hp
  have hk' : ∃ k : Int, r = .inl (some (.int (zI k))) ∧ ((k = 0 ∧ (gI es 0 9).toInt = 0 ∧ es1 = es) ∨ (k = 1 ∧ ¬ (gI es 0 9).toInt = 0 ∧ xbaP es es1)) := by
    rcases hp1 with ⟨q, q'⟩ | ⟨q, q'⟩
    · exact ⟨0, q, Or.inl ⟨rfl, q'⟩⟩
    · exact ⟨1, q, Or.inr (⟨rfl, q'⟩)⟩
  obtain ⟨k, rfl, hk⟩ := hk'
  have hkr : -2147483648 ≤ k ∧ k ≤ 2147483647 := by rcases hk with ⟨h, -⟩ | ⟨h, -⟩ <;> omega
  have e3 : gI es1 79 3 = gI es 79 3 := keepI hf1 (sh_of hT) (p := 79) (b := 3) rfl (by decide)
  have hfl : gI es 0 9 = gI es 79 3 := j_flag_
  show aW _ _ _ _ _ _ (1405, [some (.ref 7), some (.ref 64), some (.ref 143), some (.ref 171), some (.int (zI i)), x5, x6, x7], [.int (zI k)], es1)
  refine s_l31b (d := 41) (n0 := n) (xs := xs) (sh_of hT1) ⟨h0, h7⟩ hn rfl ?_
  refine x_call (vs := [.ref 143]) (rs := []) i_301_1407 rfl (fun _ => rfl) rfl rfl rfl rfl rfl (pCall_v (p := 79) (sh_of hT1) rfl rfl rfl rfl rfl (by decide) rfl rfl rfl rfl rfl) ?_
  show aW _ _ _ _ _ _ (0, [some (.ref 143), none], [], es1)
  refine aW_sh (aW_and (bs_170 hn (by decide) hT1 hI1) (fn_mback (O := pO0 xs n) (d := 40) hT1)) (fun r2 es2 c2 k2 hq => ?_)
  obtain ⟨⟨hT2, hI2, hf2, hc2, hk2⟩, hp2⟩ : (hOK tT es2 ∧ gInv es2 ∧ fr kc_407.2.2.2.2.2.1 es1 es2 ∧ c2 ≤ 0 ∧ k2 ≤ 0) ∧ hOK tT es2 ∧ fr frBa es1 es2 ∧ gA es2 81 = gA es1 81 ∧ ((r2 = .inl (some (.int (zI 0))) ∧ (gI es1 79 3).toInt = 0 ∧ gA es2 80 = gA es1 80) ∨ (r2 = .inl (some (.int (zI 1))) ∧ ¬ (gI es1 79 3).toInt = 0 ∧ ∀ k, k < 1284 → gA es2 80 k = gA es1 81 k)) := hq
  obtain ⟨-, g1, g2, hp3⟩ := hp2
  have hb' : ∃ b : Int, r2 = .inl (some (.int (zI b))) ∧ ((b = 0 ∧ (gI es1 79 3).toInt = 0 ∧ gA es2 80 = gA es1 80) ∨ (b = 1 ∧ ¬ (gI es1 79 3).toInt = 0 ∧ ∀ k, k < 1284 → gA es2 80 k = gA es1 81 k)) := by
    rcases hp3 with ⟨q, q'⟩ | ⟨q, q'⟩
    · exact ⟨0, q, Or.inl ⟨rfl, q'⟩⟩
    · exact ⟨1, q, Or.inr (⟨rfl, q'⟩)⟩
  obtain ⟨b, rfl, hb⟩ := hb'
  have hbr : -2147483648 ≤ b ∧ b ≤ 2147483647 := by rcases hb with ⟨h, -⟩ | ⟨h, -⟩ <;> omega
  rw [e3, ← hfl] at hb
  have hJ2 : J es2 := by
    have n_kinds : j_kinds es2 := by
      have a : gI es2 7 0 = gI es1 7 0 := keepI g1 (sh_of hT1) (p := 7) (b := 0) rfl (by decide)
      show gI es2 7 0 = gA es2 80 0
      rw [a]
      rcases hk with ⟨-, h, he⟩ | ⟨-, h, hx⟩
      · rcases hb with ⟨-, -, g3⟩ | ⟨-, h', -⟩
        · rw [g3, he]; exact j_kinds_
        · exact absurd h h'
      · rcases hb with ⟨-, h', -⟩ | ⟨-, -, g3⟩
        · exact absurd h' h
        · obtain ⟨-, x_f0, x_f5, x8, x9, x10, x11, x12, x13, x14, x15⟩ := hx
          have h3 : (gI es 79 3).toInt ≠ 0 := by rw [← hfl]; exact h
          rw [x_f0, g3 0 (by omega), keepA hf1 (sh_of hT) (p := 81) (t := 0) (n := 1284) (sp := tS81) rfl (by decide) (by decide) 0 (by omega)]; exact j_kindsI_ h3
    have n_lines : j_lines es2 := by
      have a : ∀ i, i < 5 → gA es2 9 i = gA es1 9 i := fun i hi => keepA g1 (sh_of hT1) (p := 9) (t := 0) (n := 5) rfl (by decide) (by decide) i hi
      have b : ∀ i, i < 60 → gA es2 10 i = gA es1 10 i := fun i hi => keepA g1 (sh_of hT1) (p := 10) (t := 0) (n := 60) rfl (by decide) (by decide) i hi
      rcases hk with ⟨-, h, he⟩ | ⟨-, h, hx⟩
      · rcases hb with ⟨-, -, g3⟩ | ⟨-, h', -⟩
        · exact lnT_c j_lines_ (fun i hi => by rw [a i hi, he]) (fun i hi => by rw [b i hi, he]) (fun i _ _ => by rw [g3, he])
        · exact absurd h h'
      · rcases hb with ⟨-, h', -⟩ | ⟨-, -, g3⟩
        · exact absurd h' h
        · obtain ⟨-, x_f0, x_f5, x8, x9, x10, x11, x12, x13, x14, x15⟩ := hx
          have h3 : (gI es 79 3).toInt ≠ 0 := by rw [← hfl]; exact h
          exact lnT_c (j_linesI_ h3) (fun i hi => by rw [a i hi, x9 i hi]) (fun i hi => by rw [b i hi, x10 i hi]) (fun i h1 h2 => by rw [g3 i (by omega), keepA hf1 (sh_of hT) (p := 81) (t := 0) (n := 1284) (sp := tS81) rfl (by decide) (by decide) i (by omega)])
    have n_start : j_start es2 := by
      have a : ∀ i, i < 36 → gA es2 11 i = gA es1 11 i := fun i hi => keepA g1 (sh_of hT1) (p := 11) (t := 0) (n := 36) rfl (by decide) (by decide) i hi
      rcases hk with ⟨-, h, he⟩ | ⟨-, h, hx⟩
      · rcases hb with ⟨-, -, g3⟩ | ⟨-, h', -⟩
        · exact stT_c j_start_ (fun i hi => by rw [a i hi, he]) (fun i _ _ => by rw [g3, he])
        · exact absurd h h'
      · rcases hb with ⟨-, h', -⟩ | ⟨-, -, g3⟩
        · exact absurd h' h
        · obtain ⟨-, x_f0, x_f5, x8, x9, x10, x11, x12, x13, x14, x15⟩ := hx
          have h3 : (gI es 79 3).toInt ≠ 0 := by rw [← hfl]; exact h
          exact stT_c (j_startI_ h3) (fun i hi => by rw [a i hi, x11 i hi]) (fun i h1 h2 => by rw [g3 i (by omega), keepA hf1 (sh_of hT) (p := 81) (t := 0) (n := 1284) (sp := tS81) rfl (by decide) (by decide) i (by omega)])
    have n_books : j_books es2 := by
      have a : gI es2 7 5 = gI es1 7 5 := keepI g1 (sh_of hT1) (p := 7) (b := 5) rfl (by decide)
      show gI es2 7 5 = gA es2 80 1
      rw [a]
      rcases hk with ⟨-, h, he⟩ | ⟨-, h, hx⟩
      · rcases hb with ⟨-, -, g3⟩ | ⟨-, h', -⟩
        · rw [g3, he]; exact j_books_
        · exact absurd h h'
      · rcases hb with ⟨-, h', -⟩ | ⟨-, -, g3⟩
        · exact absurd h' h
        · obtain ⟨-, x_f0, x_f5, x8, x9, x10, x11, x12, x13, x14, x15⟩ := hx
          have h3 : (gI es 79 3).toInt ≠ 0 := by rw [← hfl]; exact h
          rw [x_f5, g3 1 (by omega), keepA hf1 (sh_of hT) (p := 81) (t := 0) (n := 1284) (sp := tS81) rfl (by decide) (by decide) 1 (by omega)]; exact j_booksI_ h3
    have n_stK : j_stK es2 := by
      intro i hi
      have a : gA es2 11 i = gA es1 11 i := keepA g1 (sh_of hT1) (p := 11) (t := 0) (n := 36) rfl (by decide) (by decide) i hi
      have b : gI es2 7 0 = gI es1 7 0 := keepI g1 (sh_of hT1) (p := 7) (b := 0) rfl (by decide)
      rw [a, b]
      rcases hk with ⟨-, h, he⟩ | ⟨-, h, hx⟩
      · rcases hb with ⟨-, -, g3⟩ | ⟨-, h', -⟩
        · rw [he]; exact j_stK_ i hi
        · exact absurd h h'
      · rcases hb with ⟨-, h', -⟩ | ⟨-, -, g3⟩
        · exact absurd h' h
        · obtain ⟨-, x_f0, x_f5, x8, x9, x10, x11, x12, x13, x14, x15⟩ := hx
          have h3 : (gI es 79 3).toInt ≠ 0 := by rw [← hfl]; exact h
          rw [x11 i hi, x_f0]; exact j_stKI_ h3 i hi
    have n_notes : j_notes es2 := by
      have a : ∀ i, i < 3 → gA es2 12 i = gA es1 12 i := fun i hi => keepA g1 (sh_of hT1) (p := 12) (t := 0) (n := 3) rfl (by decide) (by decide) i hi
      have b : ∀ i, i < 3 → gA es2 13 i = gA es1 13 i := fun i hi => keepA g1 (sh_of hT1) (p := 13) (t := 0) (n := 3) rfl (by decide) (by decide) i hi
      have c : ∀ i, i < 288 → gA es2 14 i = gA es1 14 i := fun i hi => keepA g1 (sh_of hT1) (p := 14) (t := 0) (n := 288) rfl (by decide) (by decide) i hi
      have d : gI es2 7 5 = gI es1 7 5 := keepI g1 (sh_of hT1) (p := 7) (b := 5) rfl (by decide)
      show bkT _ _ _ _ (gI es2 7 5).toInt
      rw [d]
      rcases hk with ⟨-, h, he⟩ | ⟨-, h, hx⟩
      · rcases hb with ⟨-, -, g3⟩ | ⟨-, h', -⟩
        · rw [he]; exact bkT_c j_notes_ (fun i hi => by rw [a i hi, he]) (fun i hi => by rw [b i hi, he]) (fun i hi => by rw [c i hi, he]) (fun i _ _ => by rw [g3, he])
        · exact absurd h h'
      · rcases hb with ⟨-, h', -⟩ | ⟨-, -, g3⟩
        · exact absurd h' h
        · obtain ⟨-, x_f0, x_f5, x8, x9, x10, x11, x12, x13, x14, x15⟩ := hx
          have h3 : (gI es 79 3).toInt ≠ 0 := by rw [← hfl]; exact h
          rw [x_f5]; exact bkT_c (j_notesI_ h3) (fun i hi => by rw [a i hi, x12 i hi]) (fun i hi => by rw [b i hi, x13 i hi]) (fun i hi => by rw [c i hi, x14 i hi]) (fun i h1 h2 => by rw [g3 i (by omega), keepA hf1 (sh_of hT) (p := 81) (t := 0) (n := 1284) (sp := tS81) rfl (by decide) (by decide) i (by omega)])
    exact ⟨kp_tape hf2 (sh_of hT1) (by decide) (kp_tape hf1 (sh_of hT) (by decide) j_tape_), kp_size hf2 (sh_of hT1) (by decide) (kp_size hf1 (sh_of hT) (by decide) j_size_), kp_flag hf2 (sh_of hT1) (by decide) (kp_flag hf1 (sh_of hT) (by decide) j_flag_), n_kinds, kp_kindsI hf2 (sh_of hT1) (by decide) (kp_kindsI hf1 (sh_of hT) (by decide) j_kindsI_), n_lines, kp_linesI hf2 (sh_of hT1) (by decide) (kp_linesI hf1 (sh_of hT) (by decide) j_linesI_), n_start, kp_startI hf2 (sh_of hT1) (by decide) (kp_startI hf1 (sh_of hT) (by decide) j_startI_), n_books, kp_booksI hf2 (sh_of hT1) (by decide) (kp_booksI hf1 (sh_of hT) (by decide) j_booksI_), n_stK, kp_stKI hf2 (sh_of hT1) (by decide) (kp_stKI hf1 (sh_of hT) (by decide) j_stKI_), n_notes, kp_notesI hf2 (sh_of hT1) (by decide) (kp_notesI hf1 (sh_of hT) (by decide) j_notesI_)⟩
  have fin : ∀ y5 y6 y7, aW (pO0 xs n) 41 301 (kc + c1 + c2) (ks + k1 + k2) lawQ (23, lawL (i + 7) y5 y6 y7, [], es2) := fun y5 y6 y7 => K es2 _ _ y5 y6 y7 hT2 hI2 hJ2 (by omega) (by omega)
  show aW _ _ _ _ _ _ (1410, [some (.ref 7), some (.ref 64), some (.ref 143), some (.ref 171), some (.int (zI i)), x5, x6, x7], [.int (zI b)], es2)
  have t9 : k = b := by rcases hk with ⟨h, h', -⟩ | ⟨h, h', -⟩ <;> rcases hb with ⟨q, q', -⟩ | ⟨q, q', -⟩ <;> omega
  exact s_l31c (O := pO0 xs n) (d := 41) (n0 := n) (xs := xs) (sh_of hT2) ⟨h0, h7⟩ hn rfl hbr (fin _ _ _)
theorem lawHand_ok {xs : Nat → Int32} {n : Nat} (hn : n ≤ 3584) {c : Nat} {i : Int} {es : PH} {kc ks : Nat} {x5 x6 x7 : Option Value} (hc : c ∈ lawHand) (h0 : 0 ≤ i) (h7 : i + 7 ≤ (n : Int)) (hT : hOK tT es) (hI : gInv es) (hJ : J es) (K : lawK J xs n i kc ks) : aW (pO0 xs n) 41 301 kc ks lawQ (c, lawL i x5 x6 x7, [], es) := by
  rcases List.mem_cons.mp hc with rfl | hc
  · exact lh_0 hn h0 h7 hT hI hJ K
  rcases List.mem_cons.mp hc with rfl | hc
  · exact lh_1 hn h0 h7 hT hI hJ K
  rcases List.mem_cons.mp hc with rfl | hc
  · exact lh_2 hn h0 h7 hT hI hJ K
  rcases List.mem_cons.mp hc with rfl | hc
  · exact lh_3 hn h0 h7 hT hI hJ K
  rcases List.mem_cons.mp hc with rfl | hc
  · exact lh_5 hn h0 h7 hT hI hJ K
  rcases List.mem_cons.mp hc with rfl | hc
  · exact lh_7 hn h0 h7 hT hI hJ K
  rcases List.mem_cons.mp hc with rfl | hc
  · exact lh_8 hn h0 h7 hT hI hJ K
  rcases List.mem_cons.mp hc with rfl | hc
  · exact lh_9 hn h0 h7 hT hI hJ K
  rcases List.mem_cons.mp hc with rfl | hc
  · exact lh_11 hn h0 h7 hT hI hJ K
  rcases List.mem_cons.mp hc with rfl | hc
  · exact lh_21 hn h0 h7 hT hI hJ K
  rcases List.mem_cons.mp hc with rfl | hc
  · exact lh_30 hn h0 h7 hT hI hJ K
  rcases List.mem_cons.mp hc with rfl | hc
  · exact lh_31 hn h0 h7 hT hI hJ K
  cases hc
