/-! THE RELATION, and the cases of the law by hand; printed by wip/rel/p6.py -/
theorem i_301_188 : iRow 301 188 = some (.aload_n 1, 0, 0, 0, (some (Jvm.ClassFile.FieldType.boolean))) := rfl
theorem i_301_189 : iRow 301 189 = some (.aload_n 0, 0, 0, 0, (some (Jvm.ClassFile.FieldType.boolean))) := rfl
theorem i_301_190 : iRow 301 190 = some (.iload 4, 0, 0, 0, (some (Jvm.ClassFile.FieldType.boolean))) := rfl
theorem i_301_192 : iRow 301 192 = some (.iconst 1, 0, 0, 0, (some (Jvm.ClassFile.FieldType.boolean))) := rfl
theorem i_301_193 : iRow 301 193 = some (.iadd, 0, 0, 0, (some (Jvm.ClassFile.FieldType.boolean))) := rfl
theorem i_301_194 : iRow 301 194 = some (.iaload, 0, 0, 0, (some (Jvm.ClassFile.FieldType.boolean))) := rfl
theorem i_301_195 : iRow 301 195 = some (.aload_n 0, 0, 0, 0, (some (Jvm.ClassFile.FieldType.boolean))) := rfl
theorem i_301_196 : iRow 301 196 = some (.iload 4, 0, 0, 0, (some (Jvm.ClassFile.FieldType.boolean))) := rfl
theorem i_301_198 : iRow 301 198 = some (.iconst 2, 0, 0, 0, (some (Jvm.ClassFile.FieldType.boolean))) := rfl
theorem i_301_199 : iRow 301 199 = some (.iadd, 0, 0, 0, (some (Jvm.ClassFile.FieldType.boolean))) := rfl
theorem i_301_200 : iRow 301 200 = some (.iaload, 0, 0, 0, (some (Jvm.ClassFile.FieldType.boolean))) := rfl
theorem i_301_201 : iRow 301 201 = some (.aload_n 0, 0, 0, 0, (some (Jvm.ClassFile.FieldType.boolean))) := rfl
theorem i_301_202 : iRow 301 202 = some (.iload 4, 0, 0, 0, (some (Jvm.ClassFile.FieldType.boolean))) := rfl
theorem i_301_204 : iRow 301 204 = some (.iconst 3, 0, 0, 0, (some (Jvm.ClassFile.FieldType.boolean))) := rfl
theorem i_301_205 : iRow 301 205 = some (.iadd, 0, 0, 0, (some (Jvm.ClassFile.FieldType.boolean))) := rfl
theorem i_301_206 : iRow 301 206 = some (.iaload, 0, 0, 0, (some (Jvm.ClassFile.FieldType.boolean))) := rfl
theorem i_301_207 : iRow 301 207 = some (.aload_n 0, 0, 0, 0, (some (Jvm.ClassFile.FieldType.boolean))) := rfl
theorem i_301_208 : iRow 301 208 = some (.iload 4, 0, 0, 0, (some (Jvm.ClassFile.FieldType.boolean))) := rfl
theorem i_301_210 : iRow 301 210 = some (.iconst 4, 0, 0, 0, (some (Jvm.ClassFile.FieldType.boolean))) := rfl
theorem i_301_211 : iRow 301 211 = some (.iadd, 0, 0, 0, (some (Jvm.ClassFile.FieldType.boolean))) := rfl
theorem i_301_212 : iRow 301 212 = some (.iaload, 0, 0, 0, (some (Jvm.ClassFile.FieldType.boolean))) := rfl
theorem i_301_213 : iRow 301 213 = some (.aload_n 0, 0, 0, 0, (some (Jvm.ClassFile.FieldType.boolean))) := rfl
theorem i_301_214 : iRow 301 214 = some (.iload 4, 0, 0, 0, (some (Jvm.ClassFile.FieldType.boolean))) := rfl
theorem i_301_216 : iRow 301 216 = some (.iconst 5, 0, 0, 0, (some (Jvm.ClassFile.FieldType.boolean))) := rfl
theorem i_301_217 : iRow 301 217 = some (.iadd, 0, 0, 0, (some (Jvm.ClassFile.FieldType.boolean))) := rfl
theorem i_301_218 : iRow 301 218 = some (.iaload, 0, 0, 0, (some (Jvm.ClassFile.FieldType.boolean))) := rfl
theorem i_301_219 : iRow 301 219 = some (.invokevirtual 104, 19, 11, 1, (some (Jvm.ClassFile.FieldType.boolean))) := rfl
theorem i_301_222 : iRow 301 222 = some (.pop, 0, 0, 0, (some (Jvm.ClassFile.FieldType.boolean))) := rfl
theorem i_301_223 : iRow 301 223 = some (.aload_n 2, 0, 0, 0, (some (Jvm.ClassFile.FieldType.boolean))) := rfl
theorem i_301_224 : iRow 301 224 = some (.aload_n 0, 0, 0, 0, (some (Jvm.ClassFile.FieldType.boolean))) := rfl
theorem i_301_225 : iRow 301 225 = some (.iload 4, 0, 0, 0, (some (Jvm.ClassFile.FieldType.boolean))) := rfl
theorem i_301_227 : iRow 301 227 = some (.iconst 1, 0, 0, 0, (some (Jvm.ClassFile.FieldType.boolean))) := rfl
theorem i_301_228 : iRow 301 228 = some (.iadd, 0, 0, 0, (some (Jvm.ClassFile.FieldType.boolean))) := rfl
theorem i_301_229 : iRow 301 229 = some (.iaload, 0, 0, 0, (some (Jvm.ClassFile.FieldType.boolean))) := rfl
theorem i_301_230 : iRow 301 230 = some (.aload_n 0, 0, 0, 0, (some (Jvm.ClassFile.FieldType.boolean))) := rfl
theorem i_301_231 : iRow 301 231 = some (.iload 4, 0, 0, 0, (some (Jvm.ClassFile.FieldType.boolean))) := rfl
theorem i_301_233 : iRow 301 233 = some (.iconst 2, 0, 0, 0, (some (Jvm.ClassFile.FieldType.boolean))) := rfl
theorem i_301_234 : iRow 301 234 = some (.iadd, 0, 0, 0, (some (Jvm.ClassFile.FieldType.boolean))) := rfl
theorem i_301_235 : iRow 301 235 = some (.iaload, 0, 0, 0, (some (Jvm.ClassFile.FieldType.boolean))) := rfl
theorem i_301_236 : iRow 301 236 = some (.aload_n 0, 0, 0, 0, (some (Jvm.ClassFile.FieldType.boolean))) := rfl
theorem i_301_237 : iRow 301 237 = some (.iload 4, 0, 0, 0, (some (Jvm.ClassFile.FieldType.boolean))) := rfl
theorem i_301_239 : iRow 301 239 = some (.iconst 3, 0, 0, 0, (some (Jvm.ClassFile.FieldType.boolean))) := rfl
theorem i_301_240 : iRow 301 240 = some (.iadd, 0, 0, 0, (some (Jvm.ClassFile.FieldType.boolean))) := rfl
set_option maxRecDepth 20000 in
theorem i_301_241 : iRow 301 241 = some (.iaload, 0, 0, 0, (some (Jvm.ClassFile.FieldType.boolean))) := rfl
set_option maxRecDepth 20000 in
theorem i_301_242 : iRow 301 242 = some (.aload_n 0, 0, 0, 0, (some (Jvm.ClassFile.FieldType.boolean))) := rfl
set_option maxRecDepth 20000 in
theorem i_301_243 : iRow 301 243 = some (.iload 4, 0, 0, 0, (some (Jvm.ClassFile.FieldType.boolean))) := rfl
set_option maxRecDepth 20000 in
theorem i_301_245 : iRow 301 245 = some (.iconst 4, 0, 0, 0, (some (Jvm.ClassFile.FieldType.boolean))) := rfl
set_option maxRecDepth 20000 in
theorem i_301_246 : iRow 301 246 = some (.iadd, 0, 0, 0, (some (Jvm.ClassFile.FieldType.boolean))) := rfl
set_option maxRecDepth 20000 in
theorem i_301_247 : iRow 301 247 = some (.iaload, 0, 0, 0, (some (Jvm.ClassFile.FieldType.boolean))) := rfl
set_option maxRecDepth 20000 in
theorem i_301_248 : iRow 301 248 = some (.aload_n 0, 0, 0, 0, (some (Jvm.ClassFile.FieldType.boolean))) := rfl
set_option maxRecDepth 20000 in
theorem i_301_249 : iRow 301 249 = some (.iload 4, 0, 0, 0, (some (Jvm.ClassFile.FieldType.boolean))) := rfl
set_option maxRecDepth 20000 in
theorem i_301_251 : iRow 301 251 = some (.iconst 5, 0, 0, 0, (some (Jvm.ClassFile.FieldType.boolean))) := rfl
set_option maxRecDepth 20000 in
theorem i_301_252 : iRow 301 252 = some (.iadd, 0, 0, 0, (some (Jvm.ClassFile.FieldType.boolean))) := rfl
set_option maxRecDepth 20000 in
theorem i_301_253 : iRow 301 253 = some (.iaload, 0, 0, 0, (some (Jvm.ClassFile.FieldType.boolean))) := rfl
set_option maxRecDepth 20000 in
theorem i_301_254 : iRow 301 254 = some (.invokevirtual 107, 258, 171, 1, (some (Jvm.ClassFile.FieldType.boolean))) := rfl
set_option maxRecDepth 20000 in
theorem i_301_257 : iRow 301 257 = some (.pop, 0, 0, 0, (some (Jvm.ClassFile.FieldType.boolean))) := rfl
set_option maxRecDepth 20000 in
theorem i_301_258 : iRow 301 258 = some (.goto 1153, 0, 0, 0, (some (Jvm.ClassFile.FieldType.boolean))) := rfl
set_option maxRecDepth 20000 in
theorem i_301_261 : iRow 301 261 = some (.aload_n 1, 0, 0, 0, (some (Jvm.ClassFile.FieldType.boolean))) := rfl
set_option maxRecDepth 20000 in
theorem i_301_262 : iRow 301 262 = some (.aload_n 0, 0, 0, 0, (some (Jvm.ClassFile.FieldType.boolean))) := rfl
set_option maxRecDepth 20000 in
theorem i_301_263 : iRow 301 263 = some (.iload 4, 0, 0, 0, (some (Jvm.ClassFile.FieldType.boolean))) := rfl
set_option maxRecDepth 20000 in
theorem i_301_265 : iRow 301 265 = some (.iconst 1, 0, 0, 0, (some (Jvm.ClassFile.FieldType.boolean))) := rfl
set_option maxRecDepth 20000 in
theorem i_301_266 : iRow 301 266 = some (.iadd, 0, 0, 0, (some (Jvm.ClassFile.FieldType.boolean))) := rfl
set_option maxRecDepth 20000 in
theorem i_301_267 : iRow 301 267 = some (.iaload, 0, 0, 0, (some (Jvm.ClassFile.FieldType.boolean))) := rfl
set_option maxRecDepth 20000 in
theorem i_301_268 : iRow 301 268 = some (.invokevirtual 108, 22, 15, 1, (some (Jvm.ClassFile.FieldType.boolean))) := rfl
set_option maxRecDepth 20000 in
theorem i_301_271 : iRow 301 271 = some (.pop, 0, 0, 0, (some (Jvm.ClassFile.FieldType.boolean))) := rfl
set_option maxRecDepth 20000 in
theorem i_301_272 : iRow 301 272 = some (.aload_n 2, 0, 0, 0, (some (Jvm.ClassFile.FieldType.boolean))) := rfl
set_option maxRecDepth 20000 in
theorem i_301_273 : iRow 301 273 = some (.aload_n 0, 0, 0, 0, (some (Jvm.ClassFile.FieldType.boolean))) := rfl
set_option maxRecDepth 20000 in
theorem i_301_274 : iRow 301 274 = some (.iload 4, 0, 0, 0, (some (Jvm.ClassFile.FieldType.boolean))) := rfl
set_option maxRecDepth 20000 in
theorem i_301_276 : iRow 301 276 = some (.iconst 1, 0, 0, 0, (some (Jvm.ClassFile.FieldType.boolean))) := rfl
set_option maxRecDepth 20000 in
theorem i_301_277 : iRow 301 277 = some (.iadd, 0, 0, 0, (some (Jvm.ClassFile.FieldType.boolean))) := rfl
set_option maxRecDepth 20000 in
theorem i_301_278 : iRow 301 278 = some (.iaload, 0, 0, 0, (some (Jvm.ClassFile.FieldType.boolean))) := rfl
set_option maxRecDepth 20000 in
theorem i_301_279 : iRow 301 279 = some (.invokevirtual 112, 259, 172, 1, (some (Jvm.ClassFile.FieldType.boolean))) := rfl
set_option maxRecDepth 20000 in
theorem i_301_282 : iRow 301 282 = some (.pop, 0, 0, 0, (some (Jvm.ClassFile.FieldType.boolean))) := rfl
set_option maxRecDepth 20000 in
theorem i_301_283 : iRow 301 283 = some (.goto 1128, 0, 0, 0, (some (Jvm.ClassFile.FieldType.boolean))) := rfl
set_option maxRecDepth 20000 in
theorem i_301_286 : iRow 301 286 = some (.aload_n 1, 0, 0, 0, (some (Jvm.ClassFile.FieldType.boolean))) := rfl
set_option maxRecDepth 20000 in
theorem i_301_287 : iRow 301 287 = some (.aload_n 0, 0, 0, 0, (some (Jvm.ClassFile.FieldType.boolean))) := rfl
set_option maxRecDepth 20000 in
theorem i_301_288 : iRow 301 288 = some (.iload 4, 0, 0, 0, (some (Jvm.ClassFile.FieldType.boolean))) := rfl
set_option maxRecDepth 20000 in
theorem i_301_290 : iRow 301 290 = some (.iconst 1, 0, 0, 0, (some (Jvm.ClassFile.FieldType.boolean))) := rfl
set_option maxRecDepth 20000 in
theorem i_301_291 : iRow 301 291 = some (.iadd, 0, 0, 0, (some (Jvm.ClassFile.FieldType.boolean))) := rfl
set_option maxRecDepth 20000 in
theorem i_301_292 : iRow 301 292 = some (.iaload, 0, 0, 0, (some (Jvm.ClassFile.FieldType.boolean))) := rfl
set_option maxRecDepth 20000 in
theorem i_301_293 : iRow 301 293 = some (.aload_n 3, 0, 0, 0, (some (Jvm.ClassFile.FieldType.boolean))) := rfl
set_option maxRecDepth 20000 in
theorem i_301_294 : iRow 301 294 = some (.invokestatic 113, 85, 277, 0, (some (Jvm.ClassFile.FieldType.boolean))) := rfl
set_option maxRecDepth 20000 in
theorem i_301_297 : iRow 301 297 = some (.istore 5, 0, 0, 0, (some (Jvm.ClassFile.FieldType.boolean))) := rfl
set_option maxRecDepth 20000 in
theorem i_301_299 : iRow 301 299 = some (.aload_n 2, 0, 0, 0, (some (Jvm.ClassFile.FieldType.boolean))) := rfl
set_option maxRecDepth 20000 in
theorem i_301_300 : iRow 301 300 = some (.aload_n 0, 0, 0, 0, (some (Jvm.ClassFile.FieldType.boolean))) := rfl
set_option maxRecDepth 20000 in
theorem i_301_301 : iRow 301 301 = some (.iload 4, 0, 0, 0, (some (Jvm.ClassFile.FieldType.boolean))) := rfl
set_option maxRecDepth 20000 in
theorem i_301_303 : iRow 301 303 = some (.iconst 1, 0, 0, 0, (some (Jvm.ClassFile.FieldType.boolean))) := rfl
set_option maxRecDepth 20000 in
theorem i_301_304 : iRow 301 304 = some (.iadd, 0, 0, 0, (some (Jvm.ClassFile.FieldType.boolean))) := rfl
set_option maxRecDepth 20000 in
theorem i_301_305 : iRow 301 305 = some (.iaload, 0, 0, 0, (some (Jvm.ClassFile.FieldType.boolean))) := rfl
set_option maxRecDepth 20000 in
theorem i_301_306 : iRow 301 306 = some (.invokevirtual 118, 261, 174, 1, (some (Jvm.ClassFile.FieldType.boolean))) := rfl
set_option maxRecDepth 20000 in
theorem i_301_309 : iRow 301 309 = some (.istore 6, 0, 0, 0, (some (Jvm.ClassFile.FieldType.boolean))) := rfl
set_option maxRecDepth 20000 in
theorem i_301_311 : iRow 301 311 = some (.goto 1100, 0, 0, 0, (some (Jvm.ClassFile.FieldType.boolean))) := rfl
set_option maxRecDepth 20000 in
theorem i_301_314 : iRow 301 314 = some (.aload_n 1, 0, 0, 0, (some (Jvm.ClassFile.FieldType.boolean))) := rfl
set_option maxRecDepth 20000 in
theorem i_301_315 : iRow 301 315 = some (.aload_n 3, 0, 0, 0, (some (Jvm.ClassFile.FieldType.boolean))) := rfl
set_option maxRecDepth 20000 in
theorem i_301_316 : iRow 301 316 = some (.invokestatic 119, 128, 278, 0, (some (Jvm.ClassFile.FieldType.boolean))) := rfl
set_option maxRecDepth 20000 in
theorem i_301_319 : iRow 301 319 = some (.istore 5, 0, 0, 0, (some (Jvm.ClassFile.FieldType.boolean))) := rfl
set_option maxRecDepth 20000 in
theorem i_301_321 : iRow 301 321 = some (.aload_n 2, 0, 0, 0, (some (Jvm.ClassFile.FieldType.boolean))) := rfl
set_option maxRecDepth 20000 in
theorem i_301_322 : iRow 301 322 = some (.invokevirtual 122, 284, 195, 1, (some (Jvm.ClassFile.FieldType.boolean))) := rfl
set_option maxRecDepth 20000 in
theorem i_301_325 : iRow 301 325 = some (.istore 6, 0, 0, 0, (some (Jvm.ClassFile.FieldType.boolean))) := rfl
set_option maxRecDepth 20000 in
theorem i_301_327 : iRow 301 327 = some (.goto 1084, 0, 0, 0, (some (Jvm.ClassFile.FieldType.boolean))) := rfl
set_option maxRecDepth 20000 in
theorem i_301_330 : iRow 301 330 = some (.aload_n 1, 0, 0, 0, (some (Jvm.ClassFile.FieldType.boolean))) := rfl
set_option maxRecDepth 20000 in
theorem i_301_331 : iRow 301 331 = some (.invokevirtual 123, 23, 16, 1, (some (Jvm.ClassFile.FieldType.boolean))) := rfl
set_option maxRecDepth 20000 in
theorem i_301_334 : iRow 301 334 = some (.aload_n 2, 0, 0, 0, (some (Jvm.ClassFile.FieldType.boolean))) := rfl
set_option maxRecDepth 20000 in
theorem i_301_335 : iRow 301 335 = some (.invokevirtual 126, 260, 173, 1, (some (Jvm.ClassFile.FieldType.boolean))) := rfl
set_option maxRecDepth 20000 in
theorem i_301_338 : iRow 301 338 = some (.if_icmp .eq 1073, 0, 0, 0, (some (Jvm.ClassFile.FieldType.boolean))) := rfl
set_option maxRecDepth 20000 in
theorem i_301_341 : iRow 301 341 = some (.iconst 0, 0, 0, 0, (some (Jvm.ClassFile.FieldType.boolean))) := rfl
set_option maxRecDepth 20000 in
theorem i_301_342 : iRow 301 342 = some (.ireturn, 0, 0, 0, (some (Jvm.ClassFile.FieldType.boolean))) := rfl
set_option maxRecDepth 20000 in
theorem i_301_1362 : iRow 301 1362 = some (.aload_n 1, 0, 0, 0, (some (Jvm.ClassFile.FieldType.boolean))) := rfl
set_option maxRecDepth 20000 in
theorem i_301_1363 : iRow 301 1363 = some (.invokevirtual 213, 75, 70, 1, (some (Jvm.ClassFile.FieldType.boolean))) := rfl
set_option maxRecDepth 20000 in
theorem i_301_1366 : iRow 301 1366 = some (.aload_n 2, 0, 0, 0, (some (Jvm.ClassFile.FieldType.boolean))) := rfl
set_option maxRecDepth 20000 in
theorem i_301_1367 : iRow 301 1367 = some (.invokevirtual 216, 256, 169, 1, (some (Jvm.ClassFile.FieldType.boolean))) := rfl
set_option maxRecDepth 20000 in
theorem i_301_1370 : iRow 301 1370 = some (.goto 41, 0, 0, 0, (some (Jvm.ClassFile.FieldType.boolean))) := rfl
set_option maxRecDepth 20000 in
theorem i_301_1373 : iRow 301 1373 = some (.aload_n 1, 0, 0, 0, (some (Jvm.ClassFile.FieldType.boolean))) := rfl
set_option maxRecDepth 20000 in
theorem i_301_1374 : iRow 301 1374 = some (.invokevirtual 217, 77, 72, 1, (some (Jvm.ClassFile.FieldType.boolean))) := rfl
set_option maxRecDepth 20000 in
theorem i_301_1377 : iRow 301 1377 = some (.pop, 0, 0, 0, (some (Jvm.ClassFile.FieldType.boolean))) := rfl
set_option maxRecDepth 20000 in
theorem i_301_1378 : iRow 301 1378 = some (.aload_n 2, 0, 0, 0, (some (Jvm.ClassFile.FieldType.boolean))) := rfl
set_option maxRecDepth 20000 in
theorem i_301_1379 : iRow 301 1379 = some (.invokevirtual 221, 257, 170, 1, (some (Jvm.ClassFile.FieldType.boolean))) := rfl
set_option maxRecDepth 20000 in
theorem i_301_1382 : iRow 301 1382 = some (.pop, 0, 0, 0, (some (Jvm.ClassFile.FieldType.boolean))) := rfl
set_option maxRecDepth 20000 in
theorem i_301_1383 : iRow 301 1383 = some (.goto 28, 0, 0, 0, (some (Jvm.ClassFile.FieldType.boolean))) := rfl
set_option maxRecDepth 20000 in
theorem i_301_1411 : iRow 301 1411 = some (.iinc 4 7, 0, 0, 0, (some (Jvm.ClassFile.FieldType.boolean))) := rfl
set_option maxRecDepth 20000 in
theorem i_301_1414 : iRow 301 1414 = some (.goto (-1391), 0, 0, 0, (some (Jvm.ClassFile.FieldType.boolean))) := rfl
def j_tape (es : PH) : Prop := ∀ k, k < 400 → (gA es 2 k).toInt = zU8 (gA es 82 k).toInt
def c_tape : List aMod := [(2, 0, 0, 400), (82, 0, 0, 400)]
theorem kp_tape {Mo : List aMod} {es es' : PH} (h : fr Mo es es') (hs : sh es) (hM : Mo.all (mFree c_tape) = true) (hj : j_tape es) : j_tape es' := by
  have q0 := (fun k h1 h2 => fr_gA h hs (p := 2) (t := 0) (n := 400) rfl (by decide) (mIn_free hM (lo := 0) (hi := 400) (by decide) h1 h2) : ∀ k, 0 ≤ k → k < 400 → gA es' 2 k = gA es 2 k)
  have q1 := (fun k h1 h2 => fr_gA h hs (p := 82) (t := 2) (n := 400) rfl (by decide) (mIn_free hM (lo := 0) (hi := 400) (by decide) h1 h2) : ∀ k, 0 ≤ k → k < 400 → gA es' 82 k = gA es 82 k)
  intro k hk
  rw [q0 k (Nat.zero_le k) hk, q1 k (Nat.zero_le k) hk]
  exact hj k hk
def j_size (es : PH) : Prop := gI es 1 1 = gI es 79 5
def c_size : List aMod := [(1, 3, 0, 1), (79, 7, 0, 1)]
theorem kp_size {Mo : List aMod} {es es' : PH} (h : fr Mo es es') (hs : sh es) (hM : Mo.all (mFree c_size) = true) (hj : j_size es) : j_size es' := by
  have q0 := (fr_gI h hs (p := 1) (b := 1) rfl (mIn_free hM (lo := 0) (hi := 1) (by decide) (Nat.le_refl 0) (by omega)) : gI es' 1 1 = gI es 1 1)
  have q1 := (fr_gI h hs (p := 79) (b := 5) rfl (mIn_free hM (lo := 0) (hi := 1) (by decide) (Nat.le_refl 0) (by omega)) : gI es' 79 5 = gI es 79 5)
  show gI es' 1 1 = gI es' 79 5
  rw [q0, q1]
  exact hj
def j_flag (es : PH) : Prop := gI es 0 9 = gI es 79 3
def c_flag : List aMod := [(0, 11, 0, 1), (79, 5, 0, 1)]
theorem kp_flag {Mo : List aMod} {es es' : PH} (h : fr Mo es es') (hs : sh es) (hM : Mo.all (mFree c_flag) = true) (hj : j_flag es) : j_flag es' := by
  have q0 := (fr_gI h hs (p := 0) (b := 9) rfl (mIn_free hM (lo := 0) (hi := 1) (by decide) (Nat.le_refl 0) (by omega)) : gI es' 0 9 = gI es 0 9)
  have q1 := (fr_gI h hs (p := 79) (b := 3) rfl (mIn_free hM (lo := 0) (hi := 1) (by decide) (Nat.le_refl 0) (by omega)) : gI es' 79 3 = gI es 79 3)
  show gI es' 0 9 = gI es' 79 3
  rw [q0, q1]
  exact hj
def j_kinds (es : PH) : Prop := gI es 7 0 = gA es 80 0
def c_kinds : List aMod := [(7, 2, 0, 1), (80, 0, 0, 1)]
theorem kp_kinds {Mo : List aMod} {es es' : PH} (h : fr Mo es es') (hs : sh es) (hM : Mo.all (mFree c_kinds) = true) (hj : j_kinds es) : j_kinds es' := by
  have q0 := (fr_gI h hs (p := 7) (b := 0) rfl (mIn_free hM (lo := 0) (hi := 1) (by decide) (Nat.le_refl 0) (by omega)) : gI es' 7 0 = gI es 7 0)
  have q1 := (fun k h1 h2 => fr_gA h hs (p := 80) (t := 0) (n := 2125) (sp := tS80) rfl (by decide) (mIn_free hM (lo := 0) (hi := 1) (by decide) h1 h2) : ∀ k, 0 ≤ k → k < 1 → gA es' 80 k = gA es 80 k)
  show gI es' 7 0 = gA es' 80 0
  rw [q0, q1 0 (Nat.le_refl 0) (by omega)]
  exact hj
def j_kindsI (es : PH) : Prop := (gI es 79 3).toInt ≠ 0 → gI es 18 0 = gA es 81 0
def c_kindsI : List aMod := [(18, 2, 0, 1), (81, 0, 0, 1), (79, 5, 0, 1)]
theorem kp_kindsI {Mo : List aMod} {es es' : PH} (h : fr Mo es es') (hs : sh es) (hM : Mo.all (mFree c_kindsI) = true) (hj : j_kindsI es) : j_kindsI es' := by
  have q0 := (fr_gI h hs (p := 18) (b := 0) rfl (mIn_free hM (lo := 0) (hi := 1) (by decide) (Nat.le_refl 0) (by omega)) : gI es' 18 0 = gI es 18 0)
  have q1 := (fun k h1 h2 => fr_gA h hs (p := 81) (t := 0) (n := 1284) (sp := tS81) rfl (by decide) (mIn_free hM (lo := 0) (hi := 1) (by decide) h1 h2) : ∀ k, 0 ≤ k → k < 1 → gA es' 81 k = gA es 81 k)
  have q2 := (fr_gI h hs (p := 79) (b := 3) rfl (mIn_free hM (lo := 0) (hi := 1) (by decide) (Nat.le_refl 0) (by omega)) : gI es' 79 3 = gI es 79 3)
  intro hf
  rw [q2] at hf
  rw [q0, q1 0 (Nat.le_refl 0) (by omega)]
  exact hj hf
def j_fault (es : PH) : Prop := gI es 0 8 = gI es 79 10
def c_fault : List aMod := [(0, 10, 0, 1), (79, 12, 0, 1)]
theorem kp_fault {Mo : List aMod} {es es' : PH} (h : fr Mo es es') (hs : sh es) (hM : Mo.all (mFree c_fault) = true) (hj : j_fault es) : j_fault es' := by
  have q0 := (fr_gI h hs (p := 0) (b := 8) rfl (mIn_free hM (lo := 0) (hi := 1) (by decide) (Nat.le_refl 0) (by omega)) : gI es' 0 8 = gI es 0 8)
  have q1 := (fr_gI h hs (p := 79) (b := 10) rfl (mIn_free hM (lo := 0) (hi := 1) (by decide) (Nat.le_refl 0) (by omega)) : gI es' 79 10 = gI es 79 10)
  show gI es' 0 8 = gI es' 79 10
  rw [q0, q1]
  exact hj
/-- what holds between both sides, ahead of every call -/
def J (es : PH) : Prop := j_tape es ∧ j_size es ∧ j_flag es ∧ j_kinds es ∧ j_kindsI es ∧ j_fault es
theorem jMo_free : lawMoJ.all (mFree jProt) = true := by decide +kernel
theorem J_fr {es es' : PH} (hT : hOK tT es) (hf : fr lawMoJ es es') (hJ : J es) : J es' := by
  have hs := sh_of hT
  obtain ⟨j0, j1, j2, j3, j4, j5⟩ := hJ
  exact ⟨kp_tape hf hs (free_sub jMo_free (by decide)) j0, kp_size hf hs (free_sub jMo_free (by decide)) j1, kp_flag hf hs (free_sub jMo_free (by decide)) j2, kp_kinds hf hs (free_sub jMo_free (by decide)) j3, kp_kindsI hf hs (free_sub jMo_free (by decide)) j4, kp_fault hf hs (free_sub jMo_free (by decide)) j5⟩
theorem J_start {es : PH} (h : startF es) : J es := by
  obtain ⟨f0, f1, f2, f3, f4, f5, f6, f7, f8, f9⟩ := h
  exact ⟨(fun k hk => by rw [f0 k hk, f1 k hk]; rfl : j_tape es), (by show gI es 1 1 = gI es 79 5; rw [f2, f3] : j_size es), (by show gI es 0 9 = gI es 79 3; rw [f4, f5] : j_flag es), (by show gI es 7 0 = gA es 80 0; rw [f6, f7] : j_kinds es), (fun hf => by rw [f5] at hf; exact absurd rfl hf : j_kindsI es), (by show gI es 0 8 = gI es 79 10; rw [f8, f9] : j_fault es)⟩
theorem s_l0a {O : pOut} {d kc ks : Nat} {Q : pRes → Prop} {es : PH} {xs : Nat → Int32} {n0 : Nat} {i : Int} {x5 x6 x7 : Option Value} (hs_es : sh es) (h_i : 0 ≤ i ∧ i + 7 ≤ (n0 : Int)) (hn0 : n0 ≤ 3584) (hO : O 7 = some (n0, xs))
    (K1 : ∀ v1 : Int, v1 = (xs (i + 1).toNat).toInt → ∀ v2 : Int, v2 = (xs (i + 2).toNat).toInt → ∀ v3 : Int, v3 = (xs (i + 3).toNat).toInt → ∀ v4 : Int, v4 = (xs (i + 4).toNat).toInt → ∀ v5 : Int, v5 = (xs (i + 5).toNat).toInt → aW O d 301 kc ks Q (219, [some (.ref 7), some (.ref 64), some (.ref 143), some (.ref 171), some (.int (zI i)), x5, x6, x7], [.int (zI v5), .int (zI v4), .int (zI v3), .int (zI v2), .int (zI v1), .ref 64], es)) :
    aW O d 301 kc ks Q (188, [some (.ref 7), some (.ref 64), some (.ref 143), some (.ref 171), some (.int (zI i)), x5, x6, x7], [], es) := by
  refine x0 (r := (189, [some (.ref 7), some (.ref 64), some (.ref 143), some (.ref 171), some (.int (zI i)), x5, x6, x7], [.ref 64], es)) i_301_188 rfl ?_
  refine x0 (r := (190, [some (.ref 7), some (.ref 64), some (.ref 143), some (.ref 171), some (.int (zI i)), x5, x6, x7], [.ref 7, .ref 64], es)) i_301_189 rfl ?_
  refine x0 (r := (192, [some (.ref 7), some (.ref 64), some (.ref 143), some (.ref 171), some (.int (zI i)), x5, x6, x7], [.int (zI i), .ref 7, .ref 64], es)) i_301_190 rfl ?_
  refine x0 (r := (193, [some (.ref 7), some (.ref 64), some (.ref 143), some (.ref 171), some (.int (zI i)), x5, x6, x7], [.int (zI 1), .int (zI i), .ref 7, .ref 64], es)) i_301_192 (by rfl) ?_
  refine x_iadd i_301_193 ?_
  refine x_oald (n := n0) (g := xs) i_301_194 hO (by unfold i32 iLO iHI; omega) (by omega) (by omega) ?_
  obtain ⟨v1, e_v1⟩ : ∃ z : Int, z = (xs (i + 1).toNat).toInt := ⟨_, rfl⟩
  rw [← e_v1]
  have r_v1 : iLO ≤ v1 ∧ v1 ≤ iHI := by rw [e_v1]; exact i32_rng _
  unfold iLO iHI at r_v1
  refine x0 (r := (196, [some (.ref 7), some (.ref 64), some (.ref 143), some (.ref 171), some (.int (zI i)), x5, x6, x7], [.ref 7, .int (zI v1), .ref 64], es)) i_301_195 rfl ?_
  refine x0 (r := (198, [some (.ref 7), some (.ref 64), some (.ref 143), some (.ref 171), some (.int (zI i)), x5, x6, x7], [.int (zI i), .ref 7, .int (zI v1), .ref 64], es)) i_301_196 rfl ?_
  refine x0 (r := (199, [some (.ref 7), some (.ref 64), some (.ref 143), some (.ref 171), some (.int (zI i)), x5, x6, x7], [.int (zI 2), .int (zI i), .ref 7, .int (zI v1), .ref 64], es)) i_301_198 (by rfl) ?_
  refine x_iadd i_301_199 ?_
  refine x_oald (n := n0) (g := xs) i_301_200 hO (by unfold i32 iLO iHI; omega) (by omega) (by omega) ?_
  obtain ⟨v2, e_v2⟩ : ∃ z : Int, z = (xs (i + 2).toNat).toInt := ⟨_, rfl⟩
  rw [← e_v2]
  have r_v2 : iLO ≤ v2 ∧ v2 ≤ iHI := by rw [e_v2]; exact i32_rng _
  unfold iLO iHI at r_v2
  refine x0 (r := (202, [some (.ref 7), some (.ref 64), some (.ref 143), some (.ref 171), some (.int (zI i)), x5, x6, x7], [.ref 7, .int (zI v2), .int (zI v1), .ref 64], es)) i_301_201 rfl ?_
  refine x0 (r := (204, [some (.ref 7), some (.ref 64), some (.ref 143), some (.ref 171), some (.int (zI i)), x5, x6, x7], [.int (zI i), .ref 7, .int (zI v2), .int (zI v1), .ref 64], es)) i_301_202 rfl ?_
  refine x0 (r := (205, [some (.ref 7), some (.ref 64), some (.ref 143), some (.ref 171), some (.int (zI i)), x5, x6, x7], [.int (zI 3), .int (zI i), .ref 7, .int (zI v2), .int (zI v1), .ref 64], es)) i_301_204 (by rfl) ?_
  refine x_iadd i_301_205 ?_
  refine x_oald (n := n0) (g := xs) i_301_206 hO (by unfold i32 iLO iHI; omega) (by omega) (by omega) ?_
  obtain ⟨v3, e_v3⟩ : ∃ z : Int, z = (xs (i + 3).toNat).toInt := ⟨_, rfl⟩
  rw [← e_v3]
  have r_v3 : iLO ≤ v3 ∧ v3 ≤ iHI := by rw [e_v3]; exact i32_rng _
  unfold iLO iHI at r_v3
  refine x0 (r := (208, [some (.ref 7), some (.ref 64), some (.ref 143), some (.ref 171), some (.int (zI i)), x5, x6, x7], [.ref 7, .int (zI v3), .int (zI v2), .int (zI v1), .ref 64], es)) i_301_207 rfl ?_
  refine x0 (r := (210, [some (.ref 7), some (.ref 64), some (.ref 143), some (.ref 171), some (.int (zI i)), x5, x6, x7], [.int (zI i), .ref 7, .int (zI v3), .int (zI v2), .int (zI v1), .ref 64], es)) i_301_208 rfl ?_
  refine x0 (r := (211, [some (.ref 7), some (.ref 64), some (.ref 143), some (.ref 171), some (.int (zI i)), x5, x6, x7], [.int (zI 4), .int (zI i), .ref 7, .int (zI v3), .int (zI v2), .int (zI v1), .ref 64], es)) i_301_210 (by rfl) ?_
  refine x_iadd i_301_211 ?_
  refine x_oald (n := n0) (g := xs) i_301_212 hO (by unfold i32 iLO iHI; omega) (by omega) (by omega) ?_
  obtain ⟨v4, e_v4⟩ : ∃ z : Int, z = (xs (i + 4).toNat).toInt := ⟨_, rfl⟩
  rw [← e_v4]
  have r_v4 : iLO ≤ v4 ∧ v4 ≤ iHI := by rw [e_v4]; exact i32_rng _
  unfold iLO iHI at r_v4
  refine x0 (r := (214, [some (.ref 7), some (.ref 64), some (.ref 143), some (.ref 171), some (.int (zI i)), x5, x6, x7], [.ref 7, .int (zI v4), .int (zI v3), .int (zI v2), .int (zI v1), .ref 64], es)) i_301_213 rfl ?_
  refine x0 (r := (216, [some (.ref 7), some (.ref 64), some (.ref 143), some (.ref 171), some (.int (zI i)), x5, x6, x7], [.int (zI i), .ref 7, .int (zI v4), .int (zI v3), .int (zI v2), .int (zI v1), .ref 64], es)) i_301_214 rfl ?_
  refine x0 (r := (217, [some (.ref 7), some (.ref 64), some (.ref 143), some (.ref 171), some (.int (zI i)), x5, x6, x7], [.int (zI 5), .int (zI i), .ref 7, .int (zI v4), .int (zI v3), .int (zI v2), .int (zI v1), .ref 64], es)) i_301_216 (by rfl) ?_
  refine x_iadd i_301_217 ?_
  refine x_oald (n := n0) (g := xs) i_301_218 hO (by unfold i32 iLO iHI; omega) (by omega) (by omega) ?_
  obtain ⟨v5, e_v5⟩ : ∃ z : Int, z = (xs (i + 5).toNat).toInt := ⟨_, rfl⟩
  rw [← e_v5]
  have r_v5 : iLO ≤ v5 ∧ v5 ≤ iHI := by rw [e_v5]; exact i32_rng _
  unfold iLO iHI at r_v5
  exact K1 v1 e_v1 v2 e_v2 v3 e_v3 v4 e_v4 v5 e_v5
theorem s_l0b {O : pOut} {d kc ks : Nat} {Q : pRes → Prop} {es : PH} {xs : Nat → Int32} {n0 : Nat} {i k : Int} {x5 x6 x7 : Option Value} (hs_es : sh es) (h_i : 0 ≤ i ∧ i + 7 ≤ (n0 : Int)) (hn0 : n0 ≤ 3584) (hO : O 7 = some (n0, xs))
    (K1 : ∀ v1 : Int, v1 = (xs (i + 1).toNat).toInt → ∀ v2 : Int, v2 = (xs (i + 2).toNat).toInt → ∀ v3 : Int, v3 = (xs (i + 3).toNat).toInt → ∀ v4 : Int, v4 = (xs (i + 4).toNat).toInt → ∀ v5 : Int, v5 = (xs (i + 5).toNat).toInt → aW O d 301 kc ks Q (254, [some (.ref 7), some (.ref 64), some (.ref 143), some (.ref 171), some (.int (zI i)), x5, x6, x7], [.int (zI v5), .int (zI v4), .int (zI v3), .int (zI v2), .int (zI v1), .ref 143], es)) :
    aW O d 301 kc ks Q (222, [some (.ref 7), some (.ref 64), some (.ref 143), some (.ref 171), some (.int (zI i)), x5, x6, x7], [.int (zI k)], es) := by
  refine x0 (r := (223, [some (.ref 7), some (.ref 64), some (.ref 143), some (.ref 171), some (.int (zI i)), x5, x6, x7], [], es)) i_301_222 rfl ?_
  refine x0 (r := (224, [some (.ref 7), some (.ref 64), some (.ref 143), some (.ref 171), some (.int (zI i)), x5, x6, x7], [.ref 143], es)) i_301_223 rfl ?_
  refine x0 (r := (225, [some (.ref 7), some (.ref 64), some (.ref 143), some (.ref 171), some (.int (zI i)), x5, x6, x7], [.ref 7, .ref 143], es)) i_301_224 rfl ?_
  refine x0 (r := (227, [some (.ref 7), some (.ref 64), some (.ref 143), some (.ref 171), some (.int (zI i)), x5, x6, x7], [.int (zI i), .ref 7, .ref 143], es)) i_301_225 rfl ?_
  refine x0 (r := (228, [some (.ref 7), some (.ref 64), some (.ref 143), some (.ref 171), some (.int (zI i)), x5, x6, x7], [.int (zI 1), .int (zI i), .ref 7, .ref 143], es)) i_301_227 (by rfl) ?_
  refine x_iadd i_301_228 ?_
  refine x_oald (n := n0) (g := xs) i_301_229 hO (by unfold i32 iLO iHI; omega) (by omega) (by omega) ?_
  obtain ⟨v1, e_v1⟩ : ∃ z : Int, z = (xs (i + 1).toNat).toInt := ⟨_, rfl⟩
  rw [← e_v1]
  have r_v1 : iLO ≤ v1 ∧ v1 ≤ iHI := by rw [e_v1]; exact i32_rng _
  unfold iLO iHI at r_v1
  refine x0 (r := (231, [some (.ref 7), some (.ref 64), some (.ref 143), some (.ref 171), some (.int (zI i)), x5, x6, x7], [.ref 7, .int (zI v1), .ref 143], es)) i_301_230 rfl ?_
  refine x0 (r := (233, [some (.ref 7), some (.ref 64), some (.ref 143), some (.ref 171), some (.int (zI i)), x5, x6, x7], [.int (zI i), .ref 7, .int (zI v1), .ref 143], es)) i_301_231 rfl ?_
  refine x0 (r := (234, [some (.ref 7), some (.ref 64), some (.ref 143), some (.ref 171), some (.int (zI i)), x5, x6, x7], [.int (zI 2), .int (zI i), .ref 7, .int (zI v1), .ref 143], es)) i_301_233 (by rfl) ?_
  refine x_iadd i_301_234 ?_
  refine x_oald (n := n0) (g := xs) i_301_235 hO (by unfold i32 iLO iHI; omega) (by omega) (by omega) ?_
  obtain ⟨v2, e_v2⟩ : ∃ z : Int, z = (xs (i + 2).toNat).toInt := ⟨_, rfl⟩
  rw [← e_v2]
  have r_v2 : iLO ≤ v2 ∧ v2 ≤ iHI := by rw [e_v2]; exact i32_rng _
  unfold iLO iHI at r_v2
  refine x0 (r := (237, [some (.ref 7), some (.ref 64), some (.ref 143), some (.ref 171), some (.int (zI i)), x5, x6, x7], [.ref 7, .int (zI v2), .int (zI v1), .ref 143], es)) i_301_236 rfl ?_
  refine x0 (r := (239, [some (.ref 7), some (.ref 64), some (.ref 143), some (.ref 171), some (.int (zI i)), x5, x6, x7], [.int (zI i), .ref 7, .int (zI v2), .int (zI v1), .ref 143], es)) i_301_237 rfl ?_
  refine x0 (r := (240, [some (.ref 7), some (.ref 64), some (.ref 143), some (.ref 171), some (.int (zI i)), x5, x6, x7], [.int (zI 3), .int (zI i), .ref 7, .int (zI v2), .int (zI v1), .ref 143], es)) i_301_239 (by rfl) ?_
  refine x_iadd i_301_240 ?_
  refine x_oald (n := n0) (g := xs) i_301_241 hO (by unfold i32 iLO iHI; omega) (by omega) (by omega) ?_
  obtain ⟨v3, e_v3⟩ : ∃ z : Int, z = (xs (i + 3).toNat).toInt := ⟨_, rfl⟩
  rw [← e_v3]
  have r_v3 : iLO ≤ v3 ∧ v3 ≤ iHI := by rw [e_v3]; exact i32_rng _
  unfold iLO iHI at r_v3
  refine x0 (r := (243, [some (.ref 7), some (.ref 64), some (.ref 143), some (.ref 171), some (.int (zI i)), x5, x6, x7], [.ref 7, .int (zI v3), .int (zI v2), .int (zI v1), .ref 143], es)) i_301_242 rfl ?_
  refine x0 (r := (245, [some (.ref 7), some (.ref 64), some (.ref 143), some (.ref 171), some (.int (zI i)), x5, x6, x7], [.int (zI i), .ref 7, .int (zI v3), .int (zI v2), .int (zI v1), .ref 143], es)) i_301_243 rfl ?_
  refine x0 (r := (246, [some (.ref 7), some (.ref 64), some (.ref 143), some (.ref 171), some (.int (zI i)), x5, x6, x7], [.int (zI 4), .int (zI i), .ref 7, .int (zI v3), .int (zI v2), .int (zI v1), .ref 143], es)) i_301_245 (by rfl) ?_
  refine x_iadd i_301_246 ?_
  refine x_oald (n := n0) (g := xs) i_301_247 hO (by unfold i32 iLO iHI; omega) (by omega) (by omega) ?_
  obtain ⟨v4, e_v4⟩ : ∃ z : Int, z = (xs (i + 4).toNat).toInt := ⟨_, rfl⟩
  rw [← e_v4]
  have r_v4 : iLO ≤ v4 ∧ v4 ≤ iHI := by rw [e_v4]; exact i32_rng _
  unfold iLO iHI at r_v4
  refine x0 (r := (249, [some (.ref 7), some (.ref 64), some (.ref 143), some (.ref 171), some (.int (zI i)), x5, x6, x7], [.ref 7, .int (zI v4), .int (zI v3), .int (zI v2), .int (zI v1), .ref 143], es)) i_301_248 rfl ?_
  refine x0 (r := (251, [some (.ref 7), some (.ref 64), some (.ref 143), some (.ref 171), some (.int (zI i)), x5, x6, x7], [.int (zI i), .ref 7, .int (zI v4), .int (zI v3), .int (zI v2), .int (zI v1), .ref 143], es)) i_301_249 rfl ?_
  refine x0 (r := (252, [some (.ref 7), some (.ref 64), some (.ref 143), some (.ref 171), some (.int (zI i)), x5, x6, x7], [.int (zI 5), .int (zI i), .ref 7, .int (zI v4), .int (zI v3), .int (zI v2), .int (zI v1), .ref 143], es)) i_301_251 (by rfl) ?_
  refine x_iadd i_301_252 ?_
  refine x_oald (n := n0) (g := xs) i_301_253 hO (by unfold i32 iLO iHI; omega) (by omega) (by omega) ?_
  obtain ⟨v5, e_v5⟩ : ∃ z : Int, z = (xs (i + 5).toNat).toInt := ⟨_, rfl⟩
  rw [← e_v5]
  have r_v5 : iLO ≤ v5 ∧ v5 ≤ iHI := by rw [e_v5]; exact i32_rng _
  unfold iLO iHI at r_v5
  exact K1 v1 e_v1 v2 e_v2 v3 e_v3 v4 e_v4 v5 e_v5
theorem s_l0c {O : pOut} {d kc ks : Nat} {Q : pRes → Prop} {es : PH} {xs : Nat → Int32} {n0 : Nat} {i b : Int} {x5 x6 x7 : Option Value} (hs_es : sh es) (h_i : 0 ≤ i ∧ i + 7 ≤ (n0 : Int)) (hn0 : n0 ≤ 3584) (hO : O 7 = some (n0, xs)) (h_b : -2147483648 ≤ b ∧ b ≤ 2147483647)
    (K1 : aW O d 301 kc ks Q (23, [some (.ref 7), some (.ref 64), some (.ref 143), some (.ref 171), some (.int (zI (i + 7))), x5, x6, x7], [], es)) :
    aW O d 301 kc ks Q (257, [some (.ref 7), some (.ref 64), some (.ref 143), some (.ref 171), some (.int (zI i)), x5, x6, x7], [.int (zI b)], es) := by
  refine x0 (r := (258, [some (.ref 7), some (.ref 64), some (.ref 143), some (.ref 171), some (.int (zI i)), x5, x6, x7], [], es)) i_301_257 rfl ?_
  refine x0 (r := (1411, [some (.ref 7), some (.ref 64), some (.ref 143), some (.ref 171), some (.int (zI i)), x5, x6, x7], [], es)) i_301_258 rfl ?_
  refine x_iinc (x := i) i_301_1411 rfl (by show 4 < 8; decide) ?_
  show aW _ _ _ _ _ _ (1414, [some (.ref 7), some (.ref 64), some (.ref 143), some (.ref 171), some (.int (zI (i + 7))), x5, x6, x7], [], es)
  refine x0 (r := (23, [some (.ref 7), some (.ref 64), some (.ref 143), some (.ref 171), some (.int (zI (i + 7))), x5, x6, x7], [], es)) i_301_1414 rfl ?_
  exact K1
theorem lh_0 {xs : Nat → Int32} {n : Nat} (hn : n ≤ 3584) {i : Int} {es : PH} {kc ks : Nat} {x5 x6 x7 : Option Value} (h0 : 0 ≤ i) (h7 : i + 7 ≤ (n : Int)) (hT : hOK tT es) (hI : gInv es) (hJ : J es) (K : lawK J xs n i kc ks) : aW (pO0 xs n) 41 301 kc ks lawQ (188, lawL i x5 x6 x7, [], es) := by
  refine s_l0a (d := 41) (n0 := n) (xs := xs) (sh_of hT) ⟨h0, h7⟩ hn rfl (fun v1 e_v1 v2 e_v2 v3 e_v3 v4 e_v4 v5 e_v5 => ?_)
  have b_v1 : i32 v1 := by rw [e_v1]; exact i32_rng _
  have b_v2 : i32 v2 := by rw [e_v2]; exact i32_rng _
  have b_v3 : i32 v3 := by rw [e_v3]; exact i32_rng _
  have b_v4 : i32 v4 := by rw [e_v4]; exact i32_rng _
  have b_v5 : i32 v5 := by rw [e_v5]; exact i32_rng _
  have hJ0 := hJ
  obtain ⟨j_tape_, j_size_, j_flag_, j_kinds_, j_kindsI_, j_fault_⟩ := hJ0
  have hz2 : 0 ≤ (gI es 79 5).toInt ∧ (gI es 79 5).toInt ≤ 400 := gI_bd hT (p := 79) (b := 5) rfl rfl
  have hsz : gI es 1 1 = gI es 79 5 := j_size_
  have hz1 : 0 ≤ (gI es 1 1).toInt ∧ (gI es 1 1).toInt ≤ 400 := by rw [hsz]; exact hz2
  refine x_call (vs := [.ref 64, .int (zI v1), .int (zI v2), .int (zI v3), .int (zI v4), .int (zI v5)]) (rs := []) i_301_219 rfl (fun _ => rfl) rfl rfl rfl rfl rfl (pCall_v (p := 0) (sh_of hT) rfl rfl rfl rfl rfl (by decide) rfl rfl rfl rfl rfl) ?_
  show aW _ _ _ _ _ _ (0, [some (.ref 64), some (.int (zI v1)), some (.int (zI v2)), some (.int (zI v3)), some (.int (zI v4)), some (.int (zI v5))], [], es)
  refine aW_sh (aW_and (bs_11 hn (by decide) b_v1 b_v2 b_v3 b_v4 b_v5 hT hI) (fn_xfeed (O := pO0 xs n) (d := 38) b_v1 b_v2 b_v3 b_v4 b_v5 (sh_of hT) hz1)) (fun r es1 c1 k1 hp => ?_)
  obtain ⟨⟨hT1, hI1, hf1, hc1, hk1⟩, hp1⟩ : (hOK tT es1 ∧ gInv es1 ∧ fr kc_3.2.2.2.2.2.1 es es1 ∧ c1 ≤ 0 ∧ k1 ≤ 0) ∧ xfP (wsel v1 v2 v3 v4 v5) es r es1 := hp
  obtain ⟨hs1, hp1⟩ := hp1
  have hp1a : (r = .inl (some (.int (zI (-1)))) ∧ 380 < (gI es 1 1).toInt ∧ es1 = es) ∨ (r = .inl (some (.int (zI ((gI es 1 1).toInt + 20)))) ∧ (gI es 1 1).toInt ≤ 380 ∧ fdP (wsel v1 v2 v3 v4 v5) es 5 es1) := by
    rcases hp1 with ⟨a, b, c⟩ | ⟨a, b, c⟩
    · exact Or.inl ⟨b, a, c⟩
    · exact Or.inr ⟨b, a, c⟩
  have hk' : ∃ k : Int, r = .inl (some (.int (zI k))) ∧ ((k = -1 ∧ 380 < (gI es 1 1).toInt ∧ es1 = es) ∨ (k = (gI es 1 1).toInt + 20 ∧ (gI es 1 1).toInt ≤ 380 ∧ fdP (wsel v1 v2 v3 v4 v5) es 5 es1)) := by
    rcases hp1a with ⟨q, q'⟩ | ⟨q, q'⟩
    · exact ⟨-1, q, Or.inl ⟨rfl, q'⟩⟩
    · exact ⟨(gI es 1 1).toInt + 20, q, Or.inr (⟨rfl, q'⟩)⟩
  obtain ⟨k, rfl, hk⟩ := hk'
  have hkr : -2147483648 ≤ k ∧ k ≤ 2147483647 := by rcases hk with ⟨h, -⟩ | ⟨h, h', -⟩ <;> omega
  have e79 : gI es1 79 5 = gI es 79 5 := keepI hf1 (sh_of hT) (p := 79) (b := 5) rfl (by decide)
  have hz3 : 0 ≤ (gI es1 79 5).toInt ∧ (gI es1 79 5).toInt ≤ 400 := by rw [e79]; exact hz2
  have hT12 : (gI es 1 1).toInt = (gI es1 79 5).toInt := by rw [e79, hsz]
  show aW _ _ _ _ _ _ (222, [some (.ref 7), some (.ref 64), some (.ref 143), some (.ref 171), some (.int (zI i)), x5, x6, x7], [.int (zI k)], es1)
  refine s_l0b (d := 41) (n0 := n) (xs := xs) (sh_of hT1) ⟨h0, h7⟩ hn rfl (fun wv1 e_wv1 wv2 e_wv2 wv3 e_wv3 wv4 e_wv4 wv5 e_wv5 => ?_)
  rw [show wv1 = v1 from by rw [e_wv1, e_v1]]
  rw [show wv2 = v2 from by rw [e_wv2, e_v2]]
  rw [show wv3 = v3 from by rw [e_wv3, e_v3]]
  rw [show wv4 = v4 from by rw [e_wv4, e_v4]]
  rw [show wv5 = v5 from by rw [e_wv5, e_v5]]
  refine x_call (vs := [.ref 143, .int (zI v1), .int (zI v2), .int (zI v3), .int (zI v4), .int (zI v5)]) (rs := []) i_301_254 rfl (fun _ => rfl) rfl rfl rfl rfl rfl (pCall_v (p := 79) (sh_of hT1) rfl rfl rfl rfl rfl (by decide) rfl rfl rfl rfl rfl) ?_
  show aW _ _ _ _ _ _ (0, [some (.ref 143), some (.int (zI v1)), some (.int (zI v2)), some (.int (zI v3)), some (.int (zI v4)), some (.int (zI v5)), none], [], es1)
  refine aW_sh (aW_and (bs_171 hn (by decide) b_v1 b_v2 b_v3 b_v4 b_v5 hT1 hI1) (fn_mfeed (O := pO0 xs n) (d := 40) (sh_of hT1) hz3)) (fun r2 es2 c2 k2 hq => ?_)
  obtain ⟨⟨hT2, hI2, hf2, hc2, hk2⟩, hp2⟩ : (hOK tT es2 ∧ gInv es2 ∧ fr kc_307.2.2.2.2.2.1 es1 es2 ∧ c2 ≤ 0 ∧ k2 ≤ 0) ∧ mfP (wsel v1 v2 v3 v4 v5) es1 r2 es2 := hq
  obtain ⟨hs2, hp2⟩ := hp2
  have hp2a : (r2 = .inl (some (.int (zI (-1)))) ∧ 380 < (gI es1 79 5).toInt ∧ gA es2 82 = gA es1 82 ∧ gI es2 79 5 = gI es1 79 5) ∨ (r2 = .inl (some (.int (zI ((gI es1 79 5).toInt + 20)))) ∧ (gI es1 79 5).toInt ≤ 380 ∧ (gI es2 79 5).toInt = (gI es1 79 5).toInt + 20 ∧ (∀ j, j < 20 → gA es2 82 ((gI es1 79 5).toInt.toNat + j) = rByte (zI ((wsel v1 v2 v3 v4 v5) (j / 4))) (j % 4)) ∧ ∀ i, (i < (gI es1 79 5).toInt.toNat ∨ (gI es1 79 5).toInt.toNat + 20 ≤ i) → gA es2 82 i = gA es1 82 i) := by
    rcases hp2 with ⟨a, b, c⟩ | ⟨a, b, c⟩
    · exact Or.inl ⟨b, a, c⟩
    · exact Or.inr ⟨b, a, c⟩
  have hb' : ∃ b : Int, r2 = .inl (some (.int (zI b))) ∧ ((b = -1 ∧ 380 < (gI es1 79 5).toInt ∧ gA es2 82 = gA es1 82 ∧ gI es2 79 5 = gI es1 79 5) ∨ (b = (gI es1 79 5).toInt + 20 ∧ (gI es1 79 5).toInt ≤ 380 ∧ (gI es2 79 5).toInt = (gI es1 79 5).toInt + 20 ∧ (∀ j, j < 20 → gA es2 82 ((gI es1 79 5).toInt.toNat + j) = rByte (zI ((wsel v1 v2 v3 v4 v5) (j / 4))) (j % 4)) ∧ ∀ i, (i < (gI es1 79 5).toInt.toNat ∨ (gI es1 79 5).toInt.toNat + 20 ≤ i) → gA es2 82 i = gA es1 82 i)) := by
    rcases hp2a with ⟨q, q'⟩ | ⟨q, q'⟩
    · exact ⟨-1, q, Or.inl ⟨rfl, q'⟩⟩
    · exact ⟨(gI es1 79 5).toInt + 20, q, Or.inr (⟨rfl, q'⟩)⟩
  obtain ⟨b, rfl, hb⟩ := hb'
  have hbr : -2147483648 ≤ b ∧ b ≤ 2147483647 := by rcases hb with ⟨h, -⟩ | ⟨h, h', -⟩ <;> omega
  have hJ2 : J es2 := by
    have n_tape : j_tape es2 := by
      intro i hi9
      have a2 : gA es2 2 i = gA es1 2 i := keepA hf2 (sh_of hT1) (p := 2) (t := 0) (n := 400) rfl (by decide) (by decide) i hi9
      have a82 : gA es1 82 i = gA es 82 i := keepA hf1 (sh_of hT) (p := 82) (t := 2) (n := 400) rfl (by decide) (by decide) i hi9
      rw [a2]
      rcases hk with ⟨-, h1, h3⟩ | ⟨-, h1, h3⟩
      · rcases hb with ⟨-, g1, g3, -⟩ | ⟨-, g1, -⟩
        · rw [g3, a82, h3]; exact j_tape_ i hi9
        · exfalso; omega
      · rcases hb with ⟨-, g1, -⟩ | ⟨-, g1, g3, g4, g5⟩
        · exfalso; omega
        · obtain ⟨-, f2, f3, f4⟩ := h3
          by_cases hin : (gI es 1 1).toInt.toNat ≤ i ∧ i < (gI es 1 1).toInt.toNat + 20
          · have c3 := f3 (i - (gI es 1 1).toInt.toNat) (by omega)
            have d4 := g4 (i - (gI es 1 1).toInt.toNat) (by omega)
            rw [show (gI es 1 1).toInt.toNat + (i - (gI es 1 1).toInt.toNat) = i by omega] at c3
            rw [show (gI es1 79 5).toInt.toNat + (i - (gI es 1 1).toInt.toNat) = i by omega] at d4
            rw [c3, d4]
            exact byte_zU _ _ (by omega)
          · rw [f4 i (by omega), g5 i (by omega), a82]
            exact j_tape_ i hi9
    have n_size : j_size es2 := by
      have a : gI es2 1 1 = gI es1 1 1 := keepI hf2 (sh_of hT1) (p := 1) (b := 1) rfl (by decide)
      show gI es2 1 1 = gI es2 79 5
      apply Int32.toInt_inj.mp
      rw [a]
      rcases hk with ⟨-, h1, h3⟩ | ⟨-, h1, h3⟩
      · rcases hb with ⟨-, g1, -, g3⟩ | ⟨-, g1, -⟩
        · rw [g3, h3, hsz]
        · exfalso; omega
      · rcases hb with ⟨-, g1, -⟩ | ⟨-, g1, g3, -⟩
        · exfalso; omega
        · have f2 := h3.2.1
          omega
    exact ⟨n_tape, n_size, kp_flag hf2 (sh_of hT1) (by decide) (kp_flag hf1 (sh_of hT) (by decide) j_flag_), kp_kinds hf2 (sh_of hT1) (by decide) (kp_kinds hf1 (sh_of hT) (by decide) j_kinds_), kp_kindsI hf2 (sh_of hT1) (by decide) (kp_kindsI hf1 (sh_of hT) (by decide) j_kindsI_), kp_fault hf2 (sh_of hT1) (by decide) (kp_fault hf1 (sh_of hT) (by decide) j_fault_)⟩
  have fin : ∀ y5 y6 y7, aW (pO0 xs n) 41 301 (kc + c1 + c2) (ks + k1 + k2) lawQ (23, lawL (i + 7) y5 y6 y7, [], es2) := fun y5 y6 y7 => K es2 _ _ y5 y6 y7 hT2 hI2 hJ2 (by omega) (by omega)
  show aW _ _ _ _ _ _ (257, [some (.ref 7), some (.ref 64), some (.ref 143), some (.ref 171), some (.int (zI i)), x5, x6, x7], [.int (zI b)], es2)
  have t9 : k = b := by rcases hk with ⟨h, h', -⟩ | ⟨h, h', -⟩ <;> rcases hb with ⟨q, q', -⟩ | ⟨q, q', -⟩ <;> omega
  exact s_l0c (O := pO0 xs n) (d := 41) (n0 := n) (xs := xs) (sh_of hT2) ⟨h0, h7⟩ hn rfl hbr (fin _ _ _)
theorem s_l1a {O : pOut} {d kc ks : Nat} {Q : pRes → Prop} {es : PH} {xs : Nat → Int32} {n0 : Nat} {i : Int} {x5 x6 x7 : Option Value} (hs_es : sh es) (h_i : 0 ≤ i ∧ i + 7 ≤ (n0 : Int)) (hn0 : n0 ≤ 3584) (hO : O 7 = some (n0, xs))
    (K1 : ∀ v1 : Int, v1 = (xs (i + 1).toNat).toInt → aW O d 301 kc ks Q (268, [some (.ref 7), some (.ref 64), some (.ref 143), some (.ref 171), some (.int (zI i)), x5, x6, x7], [.int (zI v1), .ref 64], es)) :
    aW O d 301 kc ks Q (261, [some (.ref 7), some (.ref 64), some (.ref 143), some (.ref 171), some (.int (zI i)), x5, x6, x7], [], es) := by
  refine x0 (r := (262, [some (.ref 7), some (.ref 64), some (.ref 143), some (.ref 171), some (.int (zI i)), x5, x6, x7], [.ref 64], es)) i_301_261 rfl ?_
  refine x0 (r := (263, [some (.ref 7), some (.ref 64), some (.ref 143), some (.ref 171), some (.int (zI i)), x5, x6, x7], [.ref 7, .ref 64], es)) i_301_262 rfl ?_
  refine x0 (r := (265, [some (.ref 7), some (.ref 64), some (.ref 143), some (.ref 171), some (.int (zI i)), x5, x6, x7], [.int (zI i), .ref 7, .ref 64], es)) i_301_263 rfl ?_
  refine x0 (r := (266, [some (.ref 7), some (.ref 64), some (.ref 143), some (.ref 171), some (.int (zI i)), x5, x6, x7], [.int (zI 1), .int (zI i), .ref 7, .ref 64], es)) i_301_265 (by rfl) ?_
  refine x_iadd i_301_266 ?_
  refine x_oald (n := n0) (g := xs) i_301_267 hO (by unfold i32 iLO iHI; omega) (by omega) (by omega) ?_
  obtain ⟨v1, e_v1⟩ : ∃ z : Int, z = (xs (i + 1).toNat).toInt := ⟨_, rfl⟩
  rw [← e_v1]
  have r_v1 : iLO ≤ v1 ∧ v1 ≤ iHI := by rw [e_v1]; exact i32_rng _
  unfold iLO iHI at r_v1
  exact K1 v1 e_v1
theorem s_l1b {O : pOut} {d kc ks : Nat} {Q : pRes → Prop} {es : PH} {xs : Nat → Int32} {n0 : Nat} {i k : Int} {x5 x6 x7 : Option Value} (hs_es : sh es) (h_i : 0 ≤ i ∧ i + 7 ≤ (n0 : Int)) (hn0 : n0 ≤ 3584) (hO : O 7 = some (n0, xs))
    (K1 : ∀ v1 : Int, v1 = (xs (i + 1).toNat).toInt → aW O d 301 kc ks Q (279, [some (.ref 7), some (.ref 64), some (.ref 143), some (.ref 171), some (.int (zI i)), x5, x6, x7], [.int (zI v1), .ref 143], es)) :
    aW O d 301 kc ks Q (271, [some (.ref 7), some (.ref 64), some (.ref 143), some (.ref 171), some (.int (zI i)), x5, x6, x7], [.int (zI k)], es) := by
  refine x0 (r := (272, [some (.ref 7), some (.ref 64), some (.ref 143), some (.ref 171), some (.int (zI i)), x5, x6, x7], [], es)) i_301_271 rfl ?_
  refine x0 (r := (273, [some (.ref 7), some (.ref 64), some (.ref 143), some (.ref 171), some (.int (zI i)), x5, x6, x7], [.ref 143], es)) i_301_272 rfl ?_
  refine x0 (r := (274, [some (.ref 7), some (.ref 64), some (.ref 143), some (.ref 171), some (.int (zI i)), x5, x6, x7], [.ref 7, .ref 143], es)) i_301_273 rfl ?_
  refine x0 (r := (276, [some (.ref 7), some (.ref 64), some (.ref 143), some (.ref 171), some (.int (zI i)), x5, x6, x7], [.int (zI i), .ref 7, .ref 143], es)) i_301_274 rfl ?_
  refine x0 (r := (277, [some (.ref 7), some (.ref 64), some (.ref 143), some (.ref 171), some (.int (zI i)), x5, x6, x7], [.int (zI 1), .int (zI i), .ref 7, .ref 143], es)) i_301_276 (by rfl) ?_
  refine x_iadd i_301_277 ?_
  refine x_oald (n := n0) (g := xs) i_301_278 hO (by unfold i32 iLO iHI; omega) (by omega) (by omega) ?_
  obtain ⟨v1, e_v1⟩ : ∃ z : Int, z = (xs (i + 1).toNat).toInt := ⟨_, rfl⟩
  rw [← e_v1]
  have r_v1 : iLO ≤ v1 ∧ v1 ≤ iHI := by rw [e_v1]; exact i32_rng _
  unfold iLO iHI at r_v1
  exact K1 v1 e_v1
theorem s_l1c {O : pOut} {d kc ks : Nat} {Q : pRes → Prop} {es : PH} {xs : Nat → Int32} {n0 : Nat} {i b : Int} {x5 x6 x7 : Option Value} (hs_es : sh es) (h_i : 0 ≤ i ∧ i + 7 ≤ (n0 : Int)) (hn0 : n0 ≤ 3584) (hO : O 7 = some (n0, xs)) (h_b : -2147483648 ≤ b ∧ b ≤ 2147483647)
    (K1 : aW O d 301 kc ks Q (23, [some (.ref 7), some (.ref 64), some (.ref 143), some (.ref 171), some (.int (zI (i + 7))), x5, x6, x7], [], es)) :
    aW O d 301 kc ks Q (282, [some (.ref 7), some (.ref 64), some (.ref 143), some (.ref 171), some (.int (zI i)), x5, x6, x7], [.int (zI b)], es) := by
  refine x0 (r := (283, [some (.ref 7), some (.ref 64), some (.ref 143), some (.ref 171), some (.int (zI i)), x5, x6, x7], [], es)) i_301_282 rfl ?_
  refine x0 (r := (1411, [some (.ref 7), some (.ref 64), some (.ref 143), some (.ref 171), some (.int (zI i)), x5, x6, x7], [], es)) i_301_283 rfl ?_
  refine x_iinc (x := i) i_301_1411 rfl (by show 4 < 8; decide) ?_
  show aW _ _ _ _ _ _ (1414, [some (.ref 7), some (.ref 64), some (.ref 143), some (.ref 171), some (.int (zI (i + 7))), x5, x6, x7], [], es)
  refine x0 (r := (23, [some (.ref 7), some (.ref 64), some (.ref 143), some (.ref 171), some (.int (zI (i + 7))), x5, x6, x7], [], es)) i_301_1414 rfl ?_
  exact K1
theorem lh_1 {xs : Nat → Int32} {n : Nat} (hn : n ≤ 3584) {i : Int} {es : PH} {kc ks : Nat} {x5 x6 x7 : Option Value} (h0 : 0 ≤ i) (h7 : i + 7 ≤ (n : Int)) (hT : hOK tT es) (hI : gInv es) (hJ : J es) (K : lawK J xs n i kc ks) : aW (pO0 xs n) 41 301 kc ks lawQ (261, lawL i x5 x6 x7, [], es) := by
  refine s_l1a (d := 41) (n0 := n) (xs := xs) (sh_of hT) ⟨h0, h7⟩ hn rfl (fun v1 e_v1 => ?_)
  have b_v1 : i32 v1 := by rw [e_v1]; exact i32_rng _
  have hJ0 := hJ
  obtain ⟨j_tape_, j_size_, j_flag_, j_kinds_, j_kindsI_, j_fault_⟩ := hJ0
  refine x_call (vs := [.ref 64, .int (zI v1)]) (rs := []) i_301_268 rfl (fun _ => rfl) rfl rfl rfl rfl rfl (pCall_v (p := 0) (sh_of hT) rfl rfl rfl rfl rfl (by decide) rfl rfl rfl rfl rfl) ?_
  show aW _ _ _ _ _ _ (0, [some (.ref 64), some (.int (zI v1))], [], es)
  refine aW_sh (aW_and (bs_15 hn (by decide) b_v1 hT hI) (fn_endx (O := pO0 xs n) (d := 40) b_v1 hT)) (fun r es1 c1 k1 hp => ?_)
  obtain ⟨⟨hT1, hI1, hf1, hc1, hk1⟩, hp1⟩ : (hOK tT es1 ∧ gInv es1 ∧ fr kc_4.2.2.2.2.2.1 es es1 ∧ c1 ≤ 0 ∧ k1 ≤ 0) ∧ endxP v1 es r es1 := hp
  obtain ⟨hs1, -, hp1⟩ := hp1
  have hk' : ∃ k : Int, r = .inl (some (.int (zI k))) ∧ ((k = 0 ∧ (v1 < 0 ∨ (gI es 1 1).toInt < v1) ∧ gI es1 1 1 = gI es 1 1) ∨ (k = 1 ∧ (0 ≤ v1 ∧ v1 ≤ (gI es 1 1).toInt) ∧ (gI es1 1 1).toInt = v1)) := by
    rcases hp1 with ⟨q, q'⟩ | ⟨q, q'⟩
    · exact ⟨0, q, Or.inl ⟨rfl, q'⟩⟩
    · exact ⟨1, q, Or.inr (⟨rfl, q'⟩)⟩
  obtain ⟨k, rfl, hk⟩ := hk'
  have hkr : -2147483648 ≤ k ∧ k ≤ 2147483647 := by rcases hk with ⟨h, -⟩ | ⟨h, -⟩ <;> omega
  have e79 : gI es1 79 5 = gI es 79 5 := keepI hf1 (sh_of hT) (p := 79) (b := 5) rfl (by decide)
  have hsz : gI es 1 1 = gI es 79 5 := j_size_
  have hT12 : (gI es 1 1).toInt = (gI es1 79 5).toInt := by rw [e79, hsz]
  show aW _ _ _ _ _ _ (271, [some (.ref 7), some (.ref 64), some (.ref 143), some (.ref 171), some (.int (zI i)), x5, x6, x7], [.int (zI k)], es1)
  refine s_l1b (d := 41) (n0 := n) (xs := xs) (sh_of hT1) ⟨h0, h7⟩ hn rfl (fun wv1 e_wv1 => ?_)
  rw [show wv1 = v1 from by rw [e_wv1, e_v1]]
  refine x_call (vs := [.ref 143, .int (zI v1)]) (rs := []) i_301_279 rfl (fun _ => rfl) rfl rfl rfl rfl rfl (pCall_v (p := 79) (sh_of hT1) rfl rfl rfl rfl rfl (by decide) rfl rfl rfl rfl rfl) ?_
  show aW _ _ _ _ _ _ (0, [some (.ref 143), some (.int (zI v1))], [], es1)
  refine aW_sh (aW_and (bs_172 hn (by decide) b_v1 hT1 hI1) (fn_endm (O := pO0 xs n) (d := 40) b_v1 hT1)) (fun r2 es2 c2 k2 hq => ?_)
  obtain ⟨⟨hT2, hI2, hf2, hc2, hk2⟩, hp2⟩ : (hOK tT es2 ∧ gInv es2 ∧ fr kc_308.2.2.2.2.2.1 es1 es2 ∧ c2 ≤ 0 ∧ k2 ≤ 0) ∧ endmP v1 es1 r2 es2 := hq
  obtain ⟨hs2, -, b, rfl, hbr, hb⟩ := hp2
  have hJ2 : J es2 := by
    have n_size : j_size es2 := by
      have a : gI es2 1 1 = gI es1 1 1 := keepI hf2 (sh_of hT1) (p := 1) (b := 1) rfl (by decide)
      show gI es2 1 1 = gI es2 79 5
      rw [a]
      rcases hk with ⟨-, h1, h3⟩ | ⟨-, h1, h3⟩
      · rcases hb with ⟨-, g1, g3, -⟩ | ⟨-, g1, -⟩
        · rw [g3, h3, e79, hsz]
        · exfalso; omega
      · rcases hb with ⟨-, g1, -⟩ | ⟨-, g1, g3, -⟩
        · exfalso; omega
        · apply Int32.toInt_inj.mp
          rw [h3, g3]
    exact ⟨kp_tape hf2 (sh_of hT1) (by decide) (kp_tape hf1 (sh_of hT) (by decide) j_tape_), n_size, kp_flag hf2 (sh_of hT1) (by decide) (kp_flag hf1 (sh_of hT) (by decide) j_flag_), kp_kinds hf2 (sh_of hT1) (by decide) (kp_kinds hf1 (sh_of hT) (by decide) j_kinds_), kp_kindsI hf2 (sh_of hT1) (by decide) (kp_kindsI hf1 (sh_of hT) (by decide) j_kindsI_), kp_fault hf2 (sh_of hT1) (by decide) (kp_fault hf1 (sh_of hT) (by decide) j_fault_)⟩
  have fin : ∀ y5 y6 y7, aW (pO0 xs n) 41 301 (kc + c1 + c2) (ks + k1 + k2) lawQ (23, lawL (i + 7) y5 y6 y7, [], es2) := fun y5 y6 y7 => K es2 _ _ y5 y6 y7 hT2 hI2 hJ2 (by omega) (by omega)
  show aW _ _ _ _ _ _ (282, [some (.ref 7), some (.ref 64), some (.ref 143), some (.ref 171), some (.int (zI i)), x5, x6, x7], [.int (zI b)], es2)
  have t9 : k = b := by rcases hk with ⟨h, h', -⟩ | ⟨h, h', -⟩ <;> rcases hb with ⟨-, q', -, q⟩ | ⟨-, q', -, q⟩ <;> omega
  exact s_l1c (O := pO0 xs n) (d := 41) (n0 := n) (xs := xs) (sh_of hT2) ⟨h0, h7⟩ hn rfl hbr (fin _ _ _)
theorem s_l2a {O : pOut} {d kc ks : Nat} {Q : pRes → Prop} {es : PH} {xs : Nat → Int32} {n0 : Nat} {i : Int} {x5 x6 x7 : Option Value} (hs_es : sh es) (h_i : 0 ≤ i ∧ i + 7 ≤ (n0 : Int)) (hn0 : n0 ≤ 3584) (hO : O 7 = some (n0, xs))
    (K1 : ∀ v1 : Int, v1 = (xs (i + 1).toNat).toInt → aW O d 301 kc ks Q (294, [some (.ref 7), some (.ref 64), some (.ref 143), some (.ref 171), some (.int (zI i)), x5, x6, x7], [.ref 171, .int (zI v1), .ref 64], es)) :
    aW O d 301 kc ks Q (286, [some (.ref 7), some (.ref 64), some (.ref 143), some (.ref 171), some (.int (zI i)), x5, x6, x7], [], es) := by
  refine x0 (r := (287, [some (.ref 7), some (.ref 64), some (.ref 143), some (.ref 171), some (.int (zI i)), x5, x6, x7], [.ref 64], es)) i_301_286 rfl ?_
  refine x0 (r := (288, [some (.ref 7), some (.ref 64), some (.ref 143), some (.ref 171), some (.int (zI i)), x5, x6, x7], [.ref 7, .ref 64], es)) i_301_287 rfl ?_
  refine x0 (r := (290, [some (.ref 7), some (.ref 64), some (.ref 143), some (.ref 171), some (.int (zI i)), x5, x6, x7], [.int (zI i), .ref 7, .ref 64], es)) i_301_288 rfl ?_
  refine x0 (r := (291, [some (.ref 7), some (.ref 64), some (.ref 143), some (.ref 171), some (.int (zI i)), x5, x6, x7], [.int (zI 1), .int (zI i), .ref 7, .ref 64], es)) i_301_290 (by rfl) ?_
  refine x_iadd i_301_291 ?_
  refine x_oald (n := n0) (g := xs) i_301_292 hO (by unfold i32 iLO iHI; omega) (by omega) (by omega) ?_
  obtain ⟨v1, e_v1⟩ : ∃ z : Int, z = (xs (i + 1).toNat).toInt := ⟨_, rfl⟩
  rw [← e_v1]
  have r_v1 : iLO ≤ v1 ∧ v1 ≤ iHI := by rw [e_v1]; exact i32_rng _
  unfold iLO iHI at r_v1
  refine x0 (r := (294, [some (.ref 7), some (.ref 64), some (.ref 143), some (.ref 171), some (.int (zI i)), x5, x6, x7], [.ref 171, .int (zI v1), .ref 64], es)) i_301_293 rfl ?_
  exact K1 v1 e_v1
theorem s_l2b {O : pOut} {d kc ks : Nat} {Q : pRes → Prop} {es : PH} {xs : Nat → Int32} {n0 : Nat} {i k : Int} {x5 x6 x7 : Option Value} (hs_es : sh es) (h_i : 0 ≤ i ∧ i + 7 ≤ (n0 : Int)) (hn0 : n0 ≤ 3584) (hO : O 7 = some (n0, xs))
    (K1 : ∀ v1 : Int, v1 = (xs (i + 1).toNat).toInt → aW O d 301 kc ks Q (306, [some (.ref 7), some (.ref 64), some (.ref 143), some (.ref 171), some (.int (zI i)), some (.int (zI k)), x6, x7], [.int (zI v1), .ref 143], es)) :
    aW O d 301 kc ks Q (297, [some (.ref 7), some (.ref 64), some (.ref 143), some (.ref 171), some (.int (zI i)), x5, x6, x7], [.int (zI k)], es) := by
  refine x0 (r := (299, [some (.ref 7), some (.ref 64), some (.ref 143), some (.ref 171), some (.int (zI i)), some (.int (zI k)), x6, x7], [], es)) i_301_297 rfl ?_
  refine x0 (r := (300, [some (.ref 7), some (.ref 64), some (.ref 143), some (.ref 171), some (.int (zI i)), some (.int (zI k)), x6, x7], [.ref 143], es)) i_301_299 rfl ?_
  refine x0 (r := (301, [some (.ref 7), some (.ref 64), some (.ref 143), some (.ref 171), some (.int (zI i)), some (.int (zI k)), x6, x7], [.ref 7, .ref 143], es)) i_301_300 rfl ?_
  refine x0 (r := (303, [some (.ref 7), some (.ref 64), some (.ref 143), some (.ref 171), some (.int (zI i)), some (.int (zI k)), x6, x7], [.int (zI i), .ref 7, .ref 143], es)) i_301_301 rfl ?_
  refine x0 (r := (304, [some (.ref 7), some (.ref 64), some (.ref 143), some (.ref 171), some (.int (zI i)), some (.int (zI k)), x6, x7], [.int (zI 1), .int (zI i), .ref 7, .ref 143], es)) i_301_303 (by rfl) ?_
  refine x_iadd i_301_304 ?_
  refine x_oald (n := n0) (g := xs) i_301_305 hO (by unfold i32 iLO iHI; omega) (by omega) (by omega) ?_
  obtain ⟨v1, e_v1⟩ : ∃ z : Int, z = (xs (i + 1).toNat).toInt := ⟨_, rfl⟩
  rw [← e_v1]
  have r_v1 : iLO ≤ v1 ∧ v1 ≤ iHI := by rw [e_v1]; exact i32_rng _
  unfold iLO iHI at r_v1
  exact K1 v1 e_v1
theorem s_l2c {O : pOut} {d kc ks : Nat} {Q : pRes → Prop} {es : PH} {xs : Nat → Int32} {n0 : Nat} {i k b : Int} {x6 x7 : Option Value} (hs_es : sh es) (h_i : 0 ≤ i ∧ i + 7 ≤ (n0 : Int)) (hn0 : n0 ≤ 3584) (hO : O 7 = some (n0, xs)) (h_k : -2147483648 ≤ k ∧ k ≤ 2147483647) (h_b : -2147483648 ≤ b ∧ b ≤ 2147483647)
    (K1 : aW O d 301 kc ks Q (23, [some (.ref 7), some (.ref 64), some (.ref 143), some (.ref 171), some (.int (zI (i + 7))), some (.int (zI k)), some (.int (zI b)), x7], [], es)) :
    aW O d 301 kc ks Q (309, [some (.ref 7), some (.ref 64), some (.ref 143), some (.ref 171), some (.int (zI i)), some (.int (zI k)), x6, x7], [.int (zI b)], es) := by
  refine x0 (r := (311, [some (.ref 7), some (.ref 64), some (.ref 143), some (.ref 171), some (.int (zI i)), some (.int (zI k)), some (.int (zI b)), x7], [], es)) i_301_309 rfl ?_
  refine x0 (r := (1411, [some (.ref 7), some (.ref 64), some (.ref 143), some (.ref 171), some (.int (zI i)), some (.int (zI k)), some (.int (zI b)), x7], [], es)) i_301_311 rfl ?_
  refine x_iinc (x := i) i_301_1411 rfl (by show 4 < 8; decide) ?_
  show aW _ _ _ _ _ _ (1414, [some (.ref 7), some (.ref 64), some (.ref 143), some (.ref 171), some (.int (zI (i + 7))), some (.int (zI k)), some (.int (zI b)), x7], [], es)
  refine x0 (r := (23, [some (.ref 7), some (.ref 64), some (.ref 143), some (.ref 171), some (.int (zI (i + 7))), some (.int (zI k)), some (.int (zI b)), x7], [], es)) i_301_1414 rfl ?_
  exact K1
theorem lh_2 {xs : Nat → Int32} {n : Nat} (hn : n ≤ 3584) {i : Int} {es : PH} {kc ks : Nat} {x5 x6 x7 : Option Value} (h0 : 0 ≤ i) (h7 : i + 7 ≤ (n : Int)) (hT : hOK tT es) (hI : gInv es) (hJ : J es) (K : lawK J xs n i kc ks) : aW (pO0 xs n) 41 301 kc ks lawQ (286, lawL i x5 x6 x7, [], es) := by
  refine s_l2a (d := 41) (n0 := n) (xs := xs) (sh_of hT) ⟨h0, h7⟩ hn rfl (fun v1 e_v1 => ?_)
  have b_v1 : i32 v1 := by rw [e_v1]; exact i32_rng _
  have hJ0 := hJ
  obtain ⟨j_tape_, j_size_, j_flag_, j_kinds_, j_kindsI_, j_fault_⟩ := hJ0
  have hz2 : 0 ≤ (gI es 79 5).toInt ∧ (gI es 79 5).toInt ≤ 400 := gI_bd hT (p := 79) (b := 5) rfl rfl
  have hsz : gI es 1 1 = gI es 79 5 := j_size_
  have hz1 : 0 ≤ (gI es 1 1).toInt ∧ (gI es 1 1).toInt ≤ 400 := by rw [hsz]; exact hz2
  have hjB : jB (gA es 82) (gI es 1 1).toInt.toNat es := ⟨j_tape_, fun i hi => gA_bd hT (p := 82) (k := i) rfl hi (by decide), by omega, by omega⟩
  have hw0 : (0 : Int) ≤ (gA es 80 0).toInt ∧ (gA es 80 0).toInt ≤ (5 : Int) := gA_bd hT (p := 80) (k := 0) rfl (by omega) (by decide)
  have hkd : gI es 7 0 = gA es 80 0 := j_kinds_
  have h7b : 0 ≤ (gI es 7 0).toInt ∧ (gI es 7 0).toInt ≤ 5 := by rw [hkd]; exact hw0
  refine x_call (vs := [.ref 64, .int (zI v1), .ref 171]) (rs := []) i_301_294 rfl (fun _ => rfl) rfl rfl rfl rfl rfl rfl ?_
  show aW _ _ _ _ _ _ (0, [some (.ref 64), some (.int (zI v1)), some (.ref 171), none], [], es)
  refine aW_sh (aW_and (bs_277 hn (by decide) b_v1 hT hI) (aW_and (fn_ykind (xs := xs) (d := 14) hn b_v1 hT hjB h7b) (fnf_ykind (xs := xs) (d := 14) hn b_v1 hT hjB))) (fun r es1 c1 k1 hp => ?_)
  obtain ⟨⟨hT1, hI1, hf1, hc1, hk1⟩, hp1⟩ : (hOK tT es1 ∧ gInv es1 ∧ fr kc_377.2.2.2.2.2.1 es es1 ∧ c1 ≤ 1 ∧ k1 ≤ 6) ∧ (ykP (gA es 82) (gI es 1 1).toInt.toNat v1 es r es1 ∧ (gI es1 0 8).toInt = wrK (gA es 82) (gI es 1 1).toInt.toNat) := hp
  obtain ⟨⟨hs1, h11, k, rfl, hk⟩, hf8⟩ := hp1
  have hkr : -2147483648 ≤ k ∧ k ≤ 2147483647 := by rcases hk with ⟨h, -⟩ | ⟨h, -⟩ | ⟨h, -⟩ <;> omega
  have e79 : gI es1 79 5 = gI es 79 5 := keepI hf1 (sh_of hT) (p := 79) (b := 5) rfl (by decide)
  have e82 : gA es1 82 = gA es 82 := keepF hf1 (sh_of hT) (p := 82) (t := 2) (n := 400) rfl (by decide) (by decide)
  have e80 : gA es1 80 0 = gA es 80 0 := keepA hf1 (sh_of hT) (p := 80) (t := 0) (n := 2125) (sp := tS80) rfl (by decide) (by decide) 0 (by omega)
  show aW _ _ _ _ _ _ (297, [some (.ref 7), some (.ref 64), some (.ref 143), some (.ref 171), some (.int (zI i)), x5, x6, x7], [.int (zI k)], es1)
  refine s_l2b (d := 41) (n0 := n) (xs := xs) (sh_of hT1) ⟨h0, h7⟩ hn rfl (fun wv1 e_wv1 => ?_)
  rw [show wv1 = v1 from by rw [e_wv1, e_v1]]
  refine x_call (vs := [.ref 143, .int (zI v1)]) (rs := []) i_301_306 rfl (fun _ => rfl) rfl rfl rfl rfl rfl (pCall_v (p := 79) (sh_of hT1) rfl rfl rfl rfl rfl (by decide) rfl rfl rfl rfl rfl) ?_
  show aW _ _ _ _ _ _ (0, [some (.ref 143), some (.int (zI v1)), none, none, none], [], es1)
  refine aW_sh (aW_and (bs_174 hn (by decide) b_v1 hT1 hI1) (aW_and (fn_mkind (xs := xs) (R := gA es 82) (n := (gI es 1 1).toInt.toNat) (d := 35) hn b_v1 hT1 e82 (by rw [e79, ← hsz]; omega)) (fnf_mkind (O := pO0 xs n) (R := gA es 82) (n := (gI es 1 1).toInt.toNat) (d := 35) b_v1 hT1 e82 (by rw [e79, ← hsz]; omega)))) (fun r2 es2 c2 k2 hq => ?_)
  obtain ⟨⟨hT2, hI2, hf2, hc2, hk2⟩, hp2⟩ : (hOK tT es2 ∧ gInv es2 ∧ fr kc_319.2.2.2.2.2.1 es1 es2 ∧ c2 ≤ 0 ∧ k2 ≤ 0) ∧ (mkP (gA es 82) (gI es 1 1).toInt.toNat v1 es1 r2 es2 ∧ (gI es2 79 10).toInt = wrK (gA es 82) (gI es 1 1).toInt.toNat) := hq
  obtain ⟨⟨h75, b, rfl, hbr, hb⟩, hf10⟩ := hp2
  rw [e80, ← hkd] at hb
  have hJ2 : J es2 := by
    have n_size : j_size es2 := by
      have a : gI es2 1 1 = gI es1 1 1 := keepI hf2 (sh_of hT1) (p := 1) (b := 1) rfl (by decide)
      show gI es2 1 1 = gI es2 79 5
      apply Int32.toInt_inj.mp
      rw [a, h11, h75]
    have n_kinds : j_kinds es2 := by
      have a : gI es2 7 0 = gI es1 7 0 := keepI hf2 (sh_of hT1) (p := 7) (b := 0) rfl (by decide)
      show gI es2 7 0 = gA es2 80 0
      rw [a]
      rcases hk with ⟨-, h1, h3⟩ | ⟨-, h1, h3⟩ | ⟨-, h1, h3, -⟩
      · rcases hb with ⟨-, g1, g3⟩ | ⟨-, g1, g3⟩ | ⟨-, g1, -⟩
        · rw [h3, g3]
        · rw [h3, g3]
        · exact absurd h1 g1.1
      · rcases hb with ⟨-, g1, g3⟩ | ⟨-, g1, g3⟩ | ⟨-, g1, -⟩
        · rw [h3, g3]
        · rw [h3, g3]
        · exfalso; omega
      · rcases hb with ⟨-, g1, -⟩ | ⟨-, g1, -⟩ | ⟨-, g1, g2, g3⟩
        · exact absurd g1 h1.1
        · exfalso; omega
        · apply Int32.toInt_inj.mp
          rw [h3, g3]
    have n_fault : j_fault es2 := by
      have a : gI es2 0 8 = gI es1 0 8 := keepI hf2 (sh_of hT1) (p := 0) (b := 8) rfl (by decide)
      show gI es2 0 8 = gI es2 79 10
      apply Int32.toInt_inj.mp
      rw [a, hf8, hf10]
    exact ⟨kp_tape hf2 (sh_of hT1) (by decide) (kp_tape hf1 (sh_of hT) (by decide) j_tape_), n_size, kp_flag hf2 (sh_of hT1) (by decide) (kp_flag hf1 (sh_of hT) (by decide) j_flag_), n_kinds, kp_kindsI hf2 (sh_of hT1) (by decide) (kp_kindsI hf1 (sh_of hT) (by decide) j_kindsI_), n_fault⟩
  have fin : ∀ y5 y6 y7, aW (pO0 xs n) 41 301 (kc + c1 + c2) (ks + k1 + k2) lawQ (23, lawL (i + 7) y5 y6 y7, [], es2) := fun y5 y6 y7 => K es2 _ _ y5 y6 y7 hT2 hI2 hJ2 (by omega) (by omega)
  show aW _ _ _ _ _ _ (309, [some (.ref 7), some (.ref 64), some (.ref 143), some (.ref 171), some (.int (zI i)), some (.int (zI k)), x6, x7], [.int (zI b)], es2)
  exact s_l2c (O := pO0 xs n) (d := 41) (n0 := n) (xs := xs) (sh_of hT2) ⟨h0, h7⟩ hn rfl hkr hbr (fin _ _ _)
theorem s_l3a {O : pOut} {d kc ks : Nat} {Q : pRes → Prop} {es : PH} {xs : Nat → Int32} {n0 : Nat} {i : Int} {x5 x6 x7 : Option Value} (hs_es : sh es) (h_i : 0 ≤ i ∧ i + 7 ≤ (n0 : Int)) (hn0 : n0 ≤ 3584) (hO : O 7 = some (n0, xs))
    (K1 : aW O d 301 kc ks Q (316, [some (.ref 7), some (.ref 64), some (.ref 143), some (.ref 171), some (.int (zI i)), x5, x6, x7], [.ref 171, .ref 64], es)) :
    aW O d 301 kc ks Q (314, [some (.ref 7), some (.ref 64), some (.ref 143), some (.ref 171), some (.int (zI i)), x5, x6, x7], [], es) := by
  refine x0 (r := (315, [some (.ref 7), some (.ref 64), some (.ref 143), some (.ref 171), some (.int (zI i)), x5, x6, x7], [.ref 64], es)) i_301_314 rfl ?_
  refine x0 (r := (316, [some (.ref 7), some (.ref 64), some (.ref 143), some (.ref 171), some (.int (zI i)), x5, x6, x7], [.ref 171, .ref 64], es)) i_301_315 rfl ?_
  exact K1
theorem s_l3b {O : pOut} {d kc ks : Nat} {Q : pRes → Prop} {es : PH} {xs : Nat → Int32} {n0 : Nat} {i k : Int} {x5 x6 x7 : Option Value} (hs_es : sh es) (h_i : 0 ≤ i ∧ i + 7 ≤ (n0 : Int)) (hn0 : n0 ≤ 3584) (hO : O 7 = some (n0, xs))
    (K1 : aW O d 301 kc ks Q (322, [some (.ref 7), some (.ref 64), some (.ref 143), some (.ref 171), some (.int (zI i)), some (.int (zI k)), x6, x7], [.ref 143], es)) :
    aW O d 301 kc ks Q (319, [some (.ref 7), some (.ref 64), some (.ref 143), some (.ref 171), some (.int (zI i)), x5, x6, x7], [.int (zI k)], es) := by
  refine x0 (r := (321, [some (.ref 7), some (.ref 64), some (.ref 143), some (.ref 171), some (.int (zI i)), some (.int (zI k)), x6, x7], [], es)) i_301_319 rfl ?_
  refine x0 (r := (322, [some (.ref 7), some (.ref 64), some (.ref 143), some (.ref 171), some (.int (zI i)), some (.int (zI k)), x6, x7], [.ref 143], es)) i_301_321 rfl ?_
  exact K1
theorem s_l3c {O : pOut} {d kc ks : Nat} {Q : pRes → Prop} {es : PH} {xs : Nat → Int32} {n0 : Nat} {i k b : Int} {x6 x7 : Option Value} (hs_es : sh es) (h_i : 0 ≤ i ∧ i + 7 ≤ (n0 : Int)) (hn0 : n0 ≤ 3584) (hO : O 7 = some (n0, xs)) (h_k : -2147483648 ≤ k ∧ k ≤ 2147483647) (h_b : -2147483648 ≤ b ∧ b ≤ 2147483647)
    (K1 : aW O d 301 kc ks Q (23, [some (.ref 7), some (.ref 64), some (.ref 143), some (.ref 171), some (.int (zI (i + 7))), some (.int (zI k)), some (.int (zI b)), x7], [], es)) :
    aW O d 301 kc ks Q (325, [some (.ref 7), some (.ref 64), some (.ref 143), some (.ref 171), some (.int (zI i)), some (.int (zI k)), x6, x7], [.int (zI b)], es) := by
  refine x0 (r := (327, [some (.ref 7), some (.ref 64), some (.ref 143), some (.ref 171), some (.int (zI i)), some (.int (zI k)), some (.int (zI b)), x7], [], es)) i_301_325 rfl ?_
  refine x0 (r := (1411, [some (.ref 7), some (.ref 64), some (.ref 143), some (.ref 171), some (.int (zI i)), some (.int (zI k)), some (.int (zI b)), x7], [], es)) i_301_327 rfl ?_
  refine x_iinc (x := i) i_301_1411 rfl (by show 4 < 8; decide) ?_
  show aW _ _ _ _ _ _ (1414, [some (.ref 7), some (.ref 64), some (.ref 143), some (.ref 171), some (.int (zI (i + 7))), some (.int (zI k)), some (.int (zI b)), x7], [], es)
  refine x0 (r := (23, [some (.ref 7), some (.ref 64), some (.ref 143), some (.ref 171), some (.int (zI (i + 7))), some (.int (zI k)), some (.int (zI b)), x7], [], es)) i_301_1414 rfl ?_
  exact K1
theorem lh_3 {xs : Nat → Int32} {n : Nat} (hn : n ≤ 3584) {i : Int} {es : PH} {kc ks : Nat} {x5 x6 x7 : Option Value} (h0 : 0 ≤ i) (h7 : i + 7 ≤ (n : Int)) (hT : hOK tT es) (hI : gInv es) (hJ : J es) (K : lawK J xs n i kc ks) : aW (pO0 xs n) 41 301 kc ks lawQ (314, lawL i x5 x6 x7, [], es) := by
  refine s_l3a (d := 41) (n0 := n) (xs := xs) (sh_of hT) ⟨h0, h7⟩ hn rfl ?_
  have hJ0 := hJ
  obtain ⟨j_tape_, j_size_, j_flag_, j_kinds_, j_kindsI_, j_fault_⟩ := hJ0
  have hz2 : 0 ≤ (gI es 79 5).toInt ∧ (gI es 79 5).toInt ≤ 400 := gI_bd hT (p := 79) (b := 5) rfl rfl
  have hsz : gI es 1 1 = gI es 79 5 := j_size_
  have hz1 : 0 ≤ (gI es 1 1).toInt ∧ (gI es 1 1).toInt ≤ 400 := by rw [hsz]; exact hz2
  have hjB : jB (gA es 82) (gI es 1 1).toInt.toNat es := ⟨j_tape_, fun i hi => gA_bd hT (p := 82) (k := i) rfl hi (by decide), by omega, by omega⟩
  refine x_call (vs := [.ref 64, .ref 171]) (rs := []) i_301_316 rfl (fun _ => rfl) rfl rfl rfl rfl rfl rfl ?_
  show aW _ _ _ _ _ _ (0, [some (.ref 64), some (.ref 171), none], [], es)
  refine aW_sh (aW_and (bs_278 hn (by decide) hT hI) (fn_ymeasure (F := 401) (xs := xs) (d := 14) hn (by omega) hT hjB (fun j h => zMt_le h))) (fun r es1 c1 k1 hp => ?_)
  obtain ⟨⟨hT1, hI1, hf1, hc1, hk1⟩, hp1⟩ : (hOK tT es1 ∧ gInv es1 ∧ fr kc_378.2.2.2.2.2.1 es es1 ∧ c1 ≤ 1 ∧ k1 ≤ 6) ∧ ymP 401 (gA es 82) (gI es 1 1).toInt.toNat r es1 := hp
  obtain ⟨hs1, h11, k, rfl, hk⟩ := hp1
  have hkr : -2147483648 ≤ k ∧ k ≤ 2147483647 := by rcases hk with ⟨h, -⟩ | ⟨h, -⟩ <;> omega
  have e79 : gI es1 79 5 = gI es 79 5 := keepI hf1 (sh_of hT) (p := 79) (b := 5) rfl (by decide)
  have e82 : gA es1 82 = gA es 82 := keepF hf1 (sh_of hT) (p := 82) (t := 2) (n := 400) rfl (by decide) (by decide)
  show aW _ _ _ _ _ _ (319, [some (.ref 7), some (.ref 64), some (.ref 143), some (.ref 171), some (.int (zI i)), x5, x6, x7], [.int (zI k)], es1)
  refine s_l3b (d := 41) (n0 := n) (xs := xs) (sh_of hT1) ⟨h0, h7⟩ hn rfl ?_
  refine x_call (vs := [.ref 143]) (rs := []) i_301_322 rfl (fun _ => rfl) rfl rfl rfl rfl rfl (pCall_v (p := 79) (sh_of hT1) rfl rfl rfl rfl rfl (by decide) rfl rfl rfl rfl rfl) ?_
  show aW _ _ _ _ _ _ (0, [some (.ref 143), none, none], [], es1)
  refine aW_sh (aW_and (bs_195 hn (by decide) hT1 hI1) (aW_and (fn_mmeas hn (by decide) hT1 hI1) (fn_mmeasure (F := 401) (xs := xs) (R := gA es 82) (n := (gI es 1 1).toInt.toNat) (d := 11) hn (by omega) hT1 e82 (by rw [e79, ← hsz]; omega)))) (fun r2 es2 c2 k2 hq => ?_)
  obtain ⟨⟨hT2, hI2, hf2, hc2, hk2⟩, hp2⟩ : (hOK tT es2 ∧ gInv es2 ∧ fr kc_379.2.2.2.2.2.1 es1 es2 ∧ c2 ≤ 0 ∧ k2 ≤ 0) ∧ (((gI es2 79 5).toInt = 0 ∧ ∃ x : Int32, r2 = .inl (some (.int x))) ∧ mmeP 401 (gA es 82) (gI es 1 1).toInt.toNat r2 es2) := hq
  obtain ⟨⟨h75, -⟩, b, rfl, hbr, hb⟩ := hp2
  have hJ2 : J es2 := by
    have n_size : j_size es2 := by
      have a : gI es2 1 1 = gI es1 1 1 := keepI hf2 (sh_of hT1) (p := 1) (b := 1) rfl (by decide)
      show gI es2 1 1 = gI es2 79 5
      apply Int32.toInt_inj.mp
      rw [a, h11, h75]
    have n_fault : j_fault es2 := by
      have a : gI es2 0 8 = gI es1 0 8 := keepI hf2 (sh_of hT1) (p := 0) (b := 8) rfl (by decide)
      show gI es2 0 8 = gI es2 79 10
      apply Int32.toInt_inj.mp
      rw [a]
      rcases hk with ⟨-, h1, h2⟩ | ⟨-, j, h1, h2, -⟩
      · rcases hb with ⟨-, -, g2⟩ | ⟨-, j2, g1, -⟩
        · rw [h2, g2]
        · rw [h1] at g1; cases g1
      · rcases hb with ⟨-, g1, -⟩ | ⟨-, j2, g1, -, -, g2⟩
        · rw [h1] at g1; cases g1
        · rw [h2, g2]
    exact ⟨kp_tape hf2 (sh_of hT1) (by decide) (kp_tape hf1 (sh_of hT) (by decide) j_tape_), n_size, kp_flag hf2 (sh_of hT1) (by decide) (kp_flag hf1 (sh_of hT) (by decide) j_flag_), kp_kinds hf2 (sh_of hT1) (by decide) (kp_kinds hf1 (sh_of hT) (by decide) j_kinds_), kp_kindsI hf2 (sh_of hT1) (by decide) (kp_kindsI hf1 (sh_of hT) (by decide) j_kindsI_), n_fault⟩
  have fin : ∀ y5 y6 y7, aW (pO0 xs n) 41 301 (kc + c1 + c2) (ks + k1 + k2) lawQ (23, lawL (i + 7) y5 y6 y7, [], es2) := fun y5 y6 y7 => K es2 _ _ y5 y6 y7 hT2 hI2 hJ2 (by omega) (by omega)
  show aW _ _ _ _ _ _ (325, [some (.ref 7), some (.ref 64), some (.ref 143), some (.ref 171), some (.int (zI i)), some (.int (zI k)), x6, x7], [.int (zI b)], es2)
  have t0 : (gI es2 79 0).toInt = k := by
    rcases hk with ⟨h, h1, -⟩ | ⟨h, j, h1, -⟩
    · rcases hb with ⟨q, g1, -⟩ | ⟨q, j2, g1, -⟩
      · omega
      · rw [h1] at g1; cases g1
    · rcases hb with ⟨q, g1, -⟩ | ⟨q, j2, g1, -⟩
      · rw [h1] at g1; cases g1
      · omega
  have t1 : k = 0 → (gJ es2 107 (Int.toNat 0)).toInt = b := by
    intro hk0
    rw [keepJ hf2 (sh_of hT1) (p := 107) (n := 1) rfl (by decide) (Int.toNat 0) (by decide)]
    rcases hk with ⟨h, -⟩ | ⟨h, j, h1, -, h3⟩
    · exfalso; omega
    · rcases hb with ⟨q, g1, -⟩ | ⟨q, j2, g1, -, g2, -⟩
      · rw [h1] at g1; cases g1
      · have := Option.some.inj (h1.symm.trans g1)
        rw [h3, g2]
        omega
  exact s_l3c (O := pO0 xs n) (d := 41) (n0 := n) (xs := xs) (sh_of hT2) ⟨h0, h7⟩ hn rfl hkr hbr (fin _ _ _)
theorem s_l4a {O : pOut} {d kc ks : Nat} {Q : pRes → Prop} {es : PH} {xs : Nat → Int32} {n0 : Nat} {i : Int} {x5 x6 x7 : Option Value} (hs_es : sh es) (h_i : 0 ≤ i ∧ i + 7 ≤ (n0 : Int)) (hn0 : n0 ≤ 3584) (hO : O 7 = some (n0, xs))
    (K1 : aW O d 301 kc ks Q (331, [some (.ref 7), some (.ref 64), some (.ref 143), some (.ref 171), some (.int (zI i)), x5, x6, x7], [.ref 64], es)) :
    aW O d 301 kc ks Q (330, [some (.ref 7), some (.ref 64), some (.ref 143), some (.ref 171), some (.int (zI i)), x5, x6, x7], [], es) := by
  refine x0 (r := (331, [some (.ref 7), some (.ref 64), some (.ref 143), some (.ref 171), some (.int (zI i)), x5, x6, x7], [.ref 64], es)) i_301_330 rfl ?_
  exact K1
theorem s_l4b {O : pOut} {d kc ks : Nat} {Q : pRes → Prop} {es : PH} {xs : Nat → Int32} {n0 : Nat} {i k : Int} {x5 x6 x7 : Option Value} (hs_es : sh es) (h_i : 0 ≤ i ∧ i + 7 ≤ (n0 : Int)) (hn0 : n0 ≤ 3584) (hO : O 7 = some (n0, xs))
    (K1 : aW O d 301 kc ks Q (335, [some (.ref 7), some (.ref 64), some (.ref 143), some (.ref 171), some (.int (zI i)), x5, x6, x7], [.ref 143, .int (zI k)], es)) :
    aW O d 301 kc ks Q (334, [some (.ref 7), some (.ref 64), some (.ref 143), some (.ref 171), some (.int (zI i)), x5, x6, x7], [.int (zI k)], es) := by
  refine x0 (r := (335, [some (.ref 7), some (.ref 64), some (.ref 143), some (.ref 171), some (.int (zI i)), x5, x6, x7], [.ref 143, .int (zI k)], es)) i_301_334 rfl ?_
  exact K1
theorem s_l4c {O : pOut} {d kc ks : Nat} {Q : pRes → Prop} {es : PH} {xs : Nat → Int32} {n0 : Nat} {i k b : Int} {x5 x6 x7 : Option Value} (hs_es : sh es) (h_i : 0 ≤ i ∧ i + 7 ≤ (n0 : Int)) (hn0 : n0 ≤ 3584) (hO : O 7 = some (n0, xs)) (h_k : -2147483648 ≤ k ∧ k ≤ 2147483647) (h_b : -2147483648 ≤ b ∧ b ≤ 2147483647)
    (K1 : k = b → aW O d 301 kc ks Q (23, [some (.ref 7), some (.ref 64), some (.ref 143), some (.ref 171), some (.int (zI (i + 7))), x5, x6, x7], [], es))
    (K2 : ¬ (k = b) → Q (.inl (some (.int (zI 0))), es, kc, ks)) :
    aW O d 301 kc ks Q (338, [some (.ref 7), some (.ref 64), some (.ref 143), some (.ref 171), some (.int (zI i)), x5, x6, x7], [.int (zI b), .int (zI k)], es) := by
  by_cases c1 : k = b
  · refine x_cmpT i_301_338 (by unfold i32 iLO iHI; omega) (by unfold i32 iLO iHI; omega) rfl (by simp only [zC, cR]; omega) ?_
    refine x_iinc (x := i) i_301_1411 rfl (by show 4 < 8; decide) ?_
    show aW _ _ _ _ _ _ (1414, [some (.ref 7), some (.ref 64), some (.ref 143), some (.ref 171), some (.int (zI (i + 7))), x5, x6, x7], [], es)
    refine x0 (r := (23, [some (.ref 7), some (.ref 64), some (.ref 143), some (.ref 171), some (.int (zI (i + 7))), x5, x6, x7], [], es)) i_301_1414 rfl ?_
    exact K1 c1
  · refine x_cmpF i_301_338 (by unfold i32 iLO iHI; omega) (by unfold i32 iLO iHI; omega) rfl (by simp only [zC, cR]; omega) ?_
    refine x0 (r := (342, [some (.ref 7), some (.ref 64), some (.ref 143), some (.ref 171), some (.int (zI i)), x5, x6, x7], [.int (zI 0)], es)) i_301_341 (by rfl) ?_
    refine x_ret (v := some (.int (zI 0))) i_301_342 rfl (fun _ => rfl) rfl rfl (pFin_b (by omega)) ?_
    exact K2 c1
theorem lh_4 {xs : Nat → Int32} {n : Nat} (hn : n ≤ 3584) {i : Int} {es : PH} {kc ks : Nat} {x5 x6 x7 : Option Value} (h0 : 0 ≤ i) (h7 : i + 7 ≤ (n : Int)) (hT : hOK tT es) (hI : gInv es) (hJ : J es) (K : lawK J xs n i kc ks) : aW (pO0 xs n) 41 301 kc ks lawQ (330, lawL i x5 x6 x7, [], es) := by
  refine s_l4a (d := 41) (n0 := n) (xs := xs) (sh_of hT) ⟨h0, h7⟩ hn rfl ?_
  have hJ0 := hJ
  obtain ⟨j_tape_, j_size_, j_flag_, j_kinds_, j_kindsI_, j_fault_⟩ := hJ0
  refine x_call (vs := [.ref 64]) (rs := []) i_301_331 rfl (fun _ => rfl) rfl rfl rfl rfl rfl (pCall_v (p := 0) (sh_of hT) rfl rfl rfl rfl rfl (by decide) rfl rfl rfl rfl rfl) ?_
  show aW _ _ _ _ _ _ (0, [some (.ref 64)], [], es)
  refine aW_sh (aW_and (bs_16 hn (by decide) hT hI) (fn_xfa (O := pO0 xs n) (d := 40) hT)) (fun r es1 c1 k1 hp => ?_)
  obtain ⟨⟨hT1, hI1, hf1, hc1, hk1⟩, hp1⟩ : (hOK tT es1 ∧ gInv es1 ∧ fr kc_53.2.2.2.2.2.1 es es1 ∧ c1 ≤ 0 ∧ k1 ≤ 0) ∧ xfaP es r es1 := hp
  obtain ⟨hs1, k, rfl, hkr, hk, he⟩ := hp1
  have hfa : gI es 0 8 = gI es 79 10 := j_fault_
  show aW _ _ _ _ _ _ (334, [some (.ref 7), some (.ref 64), some (.ref 143), some (.ref 171), some (.int (zI i)), x5, x6, x7], [.int (zI k)], es1)
  refine s_l4b (d := 41) (n0 := n) (xs := xs) (sh_of hT1) ⟨h0, h7⟩ hn rfl ?_
  refine x_call (vs := [.ref 143]) (rs := [.int (zI k)]) i_301_335 rfl (fun _ => rfl) rfl rfl rfl rfl rfl (pCall_v (p := 79) (sh_of hT1) rfl rfl rfl rfl rfl (by decide) rfl rfl rfl rfl rfl) ?_
  show aW _ _ _ _ _ _ (0, [some (.ref 143)], [], es1)
  refine aW_sh (aW_and (bs_173 hn (by decide) hT1 hI1) (fn_mfa (O := pO0 xs n) (d := 40) hT1)) (fun r2 es2 c2 k2 hq => ?_)
  obtain ⟨⟨hT2, hI2, hf2, hc2, hk2⟩, hp2⟩ : (hOK tT es2 ∧ gInv es2 ∧ fr kc_320.2.2.2.2.2.1 es1 es2 ∧ c2 ≤ 0 ∧ k2 ≤ 0) ∧ mfaP es1 r2 es2 := hq
  obtain ⟨hs2, b, rfl, hbr, hb⟩ := hp2
  rw [he] at hb
  have hJ2 : J es2 := by
    exact ⟨kp_tape hf2 (sh_of hT1) (by decide) (kp_tape hf1 (sh_of hT) (by decide) j_tape_), kp_size hf2 (sh_of hT1) (by decide) (kp_size hf1 (sh_of hT) (by decide) j_size_), kp_flag hf2 (sh_of hT1) (by decide) (kp_flag hf1 (sh_of hT) (by decide) j_flag_), kp_kinds hf2 (sh_of hT1) (by decide) (kp_kinds hf1 (sh_of hT) (by decide) j_kinds_), kp_kindsI hf2 (sh_of hT1) (by decide) (kp_kindsI hf1 (sh_of hT) (by decide) j_kindsI_), kp_fault hf2 (sh_of hT1) (by decide) (kp_fault hf1 (sh_of hT) (by decide) j_fault_)⟩
  have fin : ∀ y5 y6 y7, aW (pO0 xs n) 41 301 (kc + c1 + c2) (ks + k1 + k2) lawQ (23, lawL (i + 7) y5 y6 y7, [], es2) := fun y5 y6 y7 => K es2 _ _ y5 y6 y7 hT2 hI2 hJ2 (by omega) (by omega)
  show aW _ _ _ _ _ _ (338, [some (.ref 7), some (.ref 64), some (.ref 143), some (.ref 171), some (.int (zI i)), x5, x6, x7], [.int (zI b), .int (zI k)], es2)
  have t9 : k = b := by rw [hk, hb, hfa]
  exact s_l4c (O := pO0 xs n) (d := 41) (n0 := n) (xs := xs) (sh_of hT2) ⟨h0, h7⟩ hn rfl hkr hbr (fun c1 => (fin _ _ _)) (fun c1 => (by exfalso; omega))
theorem s_l30a {O : pOut} {d kc ks : Nat} {Q : pRes → Prop} {es : PH} {xs : Nat → Int32} {n0 : Nat} {i : Int} {x5 x6 x7 : Option Value} (hs_es : sh es) (h_i : 0 ≤ i ∧ i + 7 ≤ (n0 : Int)) (hn0 : n0 ≤ 3584) (hO : O 7 = some (n0, xs))
    (K1 : aW O d 301 kc ks Q (1363, [some (.ref 7), some (.ref 64), some (.ref 143), some (.ref 171), some (.int (zI i)), x5, x6, x7], [.ref 64], es)) :
    aW O d 301 kc ks Q (1362, [some (.ref 7), some (.ref 64), some (.ref 143), some (.ref 171), some (.int (zI i)), x5, x6, x7], [], es) := by
  refine x0 (r := (1363, [some (.ref 7), some (.ref 64), some (.ref 143), some (.ref 171), some (.int (zI i)), x5, x6, x7], [.ref 64], es)) i_301_1362 rfl ?_
  exact K1
theorem s_l30b {O : pOut} {d kc ks : Nat} {Q : pRes → Prop} {es : PH} {xs : Nat → Int32} {n0 : Nat} {i : Int} {x5 x6 x7 : Option Value} (hs_es : sh es) (h_i : 0 ≤ i ∧ i + 7 ≤ (n0 : Int)) (hn0 : n0 ≤ 3584) (hO : O 7 = some (n0, xs))
    (K1 : aW O d 301 kc ks Q (1367, [some (.ref 7), some (.ref 64), some (.ref 143), some (.ref 171), some (.int (zI i)), x5, x6, x7], [.ref 143], es)) :
    aW O d 301 kc ks Q (1366, [some (.ref 7), some (.ref 64), some (.ref 143), some (.ref 171), some (.int (zI i)), x5, x6, x7], [], es) := by
  refine x0 (r := (1367, [some (.ref 7), some (.ref 64), some (.ref 143), some (.ref 171), some (.int (zI i)), x5, x6, x7], [.ref 143], es)) i_301_1366 rfl ?_
  exact K1
theorem s_l30c {O : pOut} {d kc ks : Nat} {Q : pRes → Prop} {es : PH} {xs : Nat → Int32} {n0 : Nat} {i : Int} {x5 x6 x7 : Option Value} (hs_es : sh es) (h_i : 0 ≤ i ∧ i + 7 ≤ (n0 : Int)) (hn0 : n0 ≤ 3584) (hO : O 7 = some (n0, xs))
    (K1 : aW O d 301 kc ks Q (23, [some (.ref 7), some (.ref 64), some (.ref 143), some (.ref 171), some (.int (zI (i + 7))), x5, x6, x7], [], es)) :
    aW O d 301 kc ks Q (1370, [some (.ref 7), some (.ref 64), some (.ref 143), some (.ref 171), some (.int (zI i)), x5, x6, x7], [], es) := by
  refine x0 (r := (1411, [some (.ref 7), some (.ref 64), some (.ref 143), some (.ref 171), some (.int (zI i)), x5, x6, x7], [], es)) i_301_1370 rfl ?_
  refine x_iinc (x := i) i_301_1411 rfl (by show 4 < 8; decide) ?_
  show aW _ _ _ _ _ _ (1414, [some (.ref 7), some (.ref 64), some (.ref 143), some (.ref 171), some (.int (zI (i + 7))), x5, x6, x7], [], es)
  refine x0 (r := (23, [some (.ref 7), some (.ref 64), some (.ref 143), some (.ref 171), some (.int (zI (i + 7))), x5, x6, x7], [], es)) i_301_1414 rfl ?_
  exact K1
theorem lh_30 {xs : Nat → Int32} {n : Nat} (hn : n ≤ 3584) {i : Int} {es : PH} {kc ks : Nat} {x5 x6 x7 : Option Value} (h0 : 0 ≤ i) (h7 : i + 7 ≤ (n : Int)) (hT : hOK tT es) (hI : gInv es) (hJ : J es) (K : lawK J xs n i kc ks) : aW (pO0 xs n) 41 301 kc ks lawQ (1362, lawL i x5 x6 x7, [], es) := by
  refine s_l30a (d := 41) (n0 := n) (xs := xs) (sh_of hT) ⟨h0, h7⟩ hn rfl ?_
  have hJ0 := hJ
  obtain ⟨j_tape_, j_size_, j_flag_, j_kinds_, j_kindsI_, j_fault_⟩ := hJ0
  refine x_call (vs := [.ref 64]) (rs := []) i_301_1363 rfl (fun _ => rfl) rfl rfl rfl rfl rfl (pCall_v (p := 0) (sh_of hT) rfl rfl rfl rfl rfl (by decide) rfl rfl rfl rfl rfl) ?_
  show aW _ _ _ _ _ _ (0, [some (.ref 64)], [], es)
  refine aW_sh (aW_and (bs_70 hn (by decide) hT hI) (fn_ximage (O := pO0 xs n) (d := 37) (sh_of hT))) (fun r es1 c1 k1 hp => ?_)
  obtain ⟨⟨hT1, hI1, hf1, hc1, hk1⟩, hp1⟩ : (hOK tT es1 ∧ gInv es1 ∧ fr kc_299.2.2.2.2.2.1 es es1 ∧ c1 ≤ 0 ∧ k1 ≤ 0) ∧ r = .inl none ∧ ximP es es1 := hp
  obtain ⟨rfl, hs1, x_f0, x_f5, x8, x9, x10, x11, x12, x13, x14, x15, x_fl⟩ := hp1
  show aW _ _ _ _ _ _ (1366, [some (.ref 7), some (.ref 64), some (.ref 143), some (.ref 171), some (.int (zI i)), x5, x6, x7], [], es1)
  refine s_l30b (d := 41) (n0 := n) (xs := xs) (sh_of hT1) ⟨h0, h7⟩ hn rfl ?_
  refine x_call (vs := [.ref 143]) (rs := []) i_301_1367 rfl (fun _ => rfl) rfl rfl rfl rfl rfl (pCall_v (p := 79) (sh_of hT1) rfl rfl rfl rfl rfl (by decide) rfl rfl rfl rfl rfl) ?_
  show aW _ _ _ _ _ _ (0, [some (.ref 143), none], [], es1)
  refine aW_sh (aW_and (bs_169 hn (by decide) hT1 hI1) (fn_mimage (O := pO0 xs n) (d := 40) hT1)) (fun r2 es2 c2 k2 hq => ?_)
  obtain ⟨⟨hT2, hI2, hf2, hc2, hk2⟩, hp2⟩ : (hOK tT es2 ∧ gInv es2 ∧ fr kc_406.2.2.2.2.2.1 es1 es2 ∧ c2 ≤ 0 ∧ k2 ≤ 0) ∧ r2 = .inl none ∧ hOK tT es2 ∧ fr frIm es1 es2 ∧ (∀ k, k < 1284 → gA es2 81 k = gA es1 80 k) ∧ gA es2 80 = gA es1 80 ∧ gI es2 79 3 = zI 1 := hq
  obtain ⟨rfl, -, g1, g2, g3, g4⟩ := hp2
  have hJ2 : J es2 := by
    have n_flag : j_flag es2 := by
      show gI es2 0 9 = gI es2 79 3
      rw [keepI g1 (sh_of hT1) (p := 0) (b := 9) rfl (by decide), x_fl, g4]
    have n_kindsI : j_kindsI es2 := by
      intro _
      rw [keepI hf2 (sh_of hT1) (p := 18) (b := 0) rfl (by decide), x_f0, g2 0 (by omega), keepA hf1 (sh_of hT) (p := 80) (t := 0) (n := 2125) (sp := tS80) rfl (by decide) (by decide) 0 (by omega)]
      exact j_kinds_
    exact ⟨kp_tape hf2 (sh_of hT1) (by decide) (kp_tape hf1 (sh_of hT) (by decide) j_tape_), kp_size hf2 (sh_of hT1) (by decide) (kp_size hf1 (sh_of hT) (by decide) j_size_), n_flag, kp_kinds hf2 (sh_of hT1) (by decide) (kp_kinds hf1 (sh_of hT) (by decide) j_kinds_), n_kindsI, kp_fault hf2 (sh_of hT1) (by decide) (kp_fault hf1 (sh_of hT) (by decide) j_fault_)⟩
  have fin : ∀ y5 y6 y7, aW (pO0 xs n) 41 301 (kc + c1 + c2) (ks + k1 + k2) lawQ (23, lawL (i + 7) y5 y6 y7, [], es2) := fun y5 y6 y7 => K es2 _ _ y5 y6 y7 hT2 hI2 hJ2 (by omega) (by omega)
  show aW _ _ _ _ _ _ (1370, [some (.ref 7), some (.ref 64), some (.ref 143), some (.ref 171), some (.int (zI i)), x5, x6, x7], [], es2)
  exact s_l30c (O := pO0 xs n) (d := 41) (n0 := n) (xs := xs) (sh_of hT2) ⟨h0, h7⟩ hn rfl (fin _ _ _)
theorem s_l31a {O : pOut} {d kc ks : Nat} {Q : pRes → Prop} {es : PH} {xs : Nat → Int32} {n0 : Nat} {i : Int} {x5 x6 x7 : Option Value} (hs_es : sh es) (h_i : 0 ≤ i ∧ i + 7 ≤ (n0 : Int)) (hn0 : n0 ≤ 3584) (hO : O 7 = some (n0, xs))
    (K1 : aW O d 301 kc ks Q (1374, [some (.ref 7), some (.ref 64), some (.ref 143), some (.ref 171), some (.int (zI i)), x5, x6, x7], [.ref 64], es)) :
    aW O d 301 kc ks Q (1373, [some (.ref 7), some (.ref 64), some (.ref 143), some (.ref 171), some (.int (zI i)), x5, x6, x7], [], es) := by
  refine x0 (r := (1374, [some (.ref 7), some (.ref 64), some (.ref 143), some (.ref 171), some (.int (zI i)), x5, x6, x7], [.ref 64], es)) i_301_1373 rfl ?_
  exact K1
theorem s_l31b {O : pOut} {d kc ks : Nat} {Q : pRes → Prop} {es : PH} {xs : Nat → Int32} {n0 : Nat} {i k : Int} {x5 x6 x7 : Option Value} (hs_es : sh es) (h_i : 0 ≤ i ∧ i + 7 ≤ (n0 : Int)) (hn0 : n0 ≤ 3584) (hO : O 7 = some (n0, xs))
    (K1 : aW O d 301 kc ks Q (1379, [some (.ref 7), some (.ref 64), some (.ref 143), some (.ref 171), some (.int (zI i)), x5, x6, x7], [.ref 143], es)) :
    aW O d 301 kc ks Q (1377, [some (.ref 7), some (.ref 64), some (.ref 143), some (.ref 171), some (.int (zI i)), x5, x6, x7], [.int (zI k)], es) := by
  refine x0 (r := (1378, [some (.ref 7), some (.ref 64), some (.ref 143), some (.ref 171), some (.int (zI i)), x5, x6, x7], [], es)) i_301_1377 rfl ?_
  refine x0 (r := (1379, [some (.ref 7), some (.ref 64), some (.ref 143), some (.ref 171), some (.int (zI i)), x5, x6, x7], [.ref 143], es)) i_301_1378 rfl ?_
  exact K1
theorem s_l31c {O : pOut} {d kc ks : Nat} {Q : pRes → Prop} {es : PH} {xs : Nat → Int32} {n0 : Nat} {i b : Int} {x5 x6 x7 : Option Value} (hs_es : sh es) (h_i : 0 ≤ i ∧ i + 7 ≤ (n0 : Int)) (hn0 : n0 ≤ 3584) (hO : O 7 = some (n0, xs)) (h_b : -2147483648 ≤ b ∧ b ≤ 2147483647)
    (K1 : aW O d 301 kc ks Q (23, [some (.ref 7), some (.ref 64), some (.ref 143), some (.ref 171), some (.int (zI (i + 7))), x5, x6, x7], [], es)) :
    aW O d 301 kc ks Q (1382, [some (.ref 7), some (.ref 64), some (.ref 143), some (.ref 171), some (.int (zI i)), x5, x6, x7], [.int (zI b)], es) := by
  refine x0 (r := (1383, [some (.ref 7), some (.ref 64), some (.ref 143), some (.ref 171), some (.int (zI i)), x5, x6, x7], [], es)) i_301_1382 rfl ?_
  refine x0 (r := (1411, [some (.ref 7), some (.ref 64), some (.ref 143), some (.ref 171), some (.int (zI i)), x5, x6, x7], [], es)) i_301_1383 rfl ?_
  refine x_iinc (x := i) i_301_1411 rfl (by show 4 < 8; decide) ?_
  show aW _ _ _ _ _ _ (1414, [some (.ref 7), some (.ref 64), some (.ref 143), some (.ref 171), some (.int (zI (i + 7))), x5, x6, x7], [], es)
  refine x0 (r := (23, [some (.ref 7), some (.ref 64), some (.ref 143), some (.ref 171), some (.int (zI (i + 7))), x5, x6, x7], [], es)) i_301_1414 rfl ?_
  exact K1
theorem lh_31 {xs : Nat → Int32} {n : Nat} (hn : n ≤ 3584) {i : Int} {es : PH} {kc ks : Nat} {x5 x6 x7 : Option Value} (h0 : 0 ≤ i) (h7 : i + 7 ≤ (n : Int)) (hT : hOK tT es) (hI : gInv es) (hJ : J es) (K : lawK J xs n i kc ks) : aW (pO0 xs n) 41 301 kc ks lawQ (1373, lawL i x5 x6 x7, [], es) := by
  refine s_l31a (d := 41) (n0 := n) (xs := xs) (sh_of hT) ⟨h0, h7⟩ hn rfl ?_
  have hJ0 := hJ
  obtain ⟨j_tape_, j_size_, j_flag_, j_kinds_, j_kindsI_, j_fault_⟩ := hJ0
  refine x_call (vs := [.ref 64]) (rs := []) i_301_1374 rfl (fun _ => rfl) rfl rfl rfl rfl rfl (pCall_v (p := 0) (sh_of hT) rfl rfl rfl rfl rfl (by decide) rfl rfl rfl rfl rfl) ?_
  show aW _ _ _ _ _ _ (0, [some (.ref 64)], [], es)
  refine aW_sh (aW_and (bs_72 hn (by decide) hT hI) (fn_xback (O := pO0 xs n) (d := 37) hT)) (fun r es1 c1 k1 hp => ?_)
  obtain ⟨⟨hT1, hI1, hf1, hc1, hk1⟩, hp1⟩ : (hOK tT es1 ∧ gInv es1 ∧ fr kc_301.2.2.2.2.2.1 es es1 ∧ c1 ≤ 0 ∧ k1 ≤ 0) ∧ ((r = .inl (some (.int (zI 0))) ∧ (gI es 0 9).toInt = 0 ∧ es1 = es) ∨ (r = .inl (some (.int (zI 1))) ∧ ¬ (gI es 0 9).toInt = 0 ∧ xbaP es es1)) := hp
  have hk' : ∃ k : Int, r = .inl (some (.int (zI k))) ∧ ((k = 0 ∧ (gI es 0 9).toInt = 0 ∧ es1 = es) ∨ (k = 1 ∧ ¬ (gI es 0 9).toInt = 0 ∧ xbaP es es1)) := by
    rcases hp1 with ⟨q, q'⟩ | ⟨q, q'⟩
    · exact ⟨0, q, Or.inl ⟨rfl, q'⟩⟩
    · exact ⟨1, q, Or.inr (⟨rfl, q'⟩)⟩
  obtain ⟨k, rfl, hk⟩ := hk'
  have hkr : -2147483648 ≤ k ∧ k ≤ 2147483647 := by rcases hk with ⟨h, -⟩ | ⟨h, -⟩ <;> omega
  have e3 : gI es1 79 3 = gI es 79 3 := keepI hf1 (sh_of hT) (p := 79) (b := 3) rfl (by decide)
  have hfl : gI es 0 9 = gI es 79 3 := j_flag_
  show aW _ _ _ _ _ _ (1377, [some (.ref 7), some (.ref 64), some (.ref 143), some (.ref 171), some (.int (zI i)), x5, x6, x7], [.int (zI k)], es1)
  refine s_l31b (d := 41) (n0 := n) (xs := xs) (sh_of hT1) ⟨h0, h7⟩ hn rfl ?_
  refine x_call (vs := [.ref 143]) (rs := []) i_301_1379 rfl (fun _ => rfl) rfl rfl rfl rfl rfl (pCall_v (p := 79) (sh_of hT1) rfl rfl rfl rfl rfl (by decide) rfl rfl rfl rfl rfl) ?_
  show aW _ _ _ _ _ _ (0, [some (.ref 143), none], [], es1)
  refine aW_sh (aW_and (bs_170 hn (by decide) hT1 hI1) (fn_mback (O := pO0 xs n) (d := 40) hT1)) (fun r2 es2 c2 k2 hq => ?_)
  obtain ⟨⟨hT2, hI2, hf2, hc2, hk2⟩, hp2⟩ : (hOK tT es2 ∧ gInv es2 ∧ fr kc_407.2.2.2.2.2.1 es1 es2 ∧ c2 ≤ 0 ∧ k2 ≤ 0) ∧ hOK tT es2 ∧ fr frBa es1 es2 ∧ gA es2 81 = gA es1 81 ∧ ((r2 = .inl (some (.int (zI 0))) ∧ (gI es1 79 3).toInt = 0 ∧ gA es2 80 = gA es1 80) ∨ (r2 = .inl (some (.int (zI 1))) ∧ ¬ (gI es1 79 3).toInt = 0 ∧ ∀ k, k < 1284 → gA es2 80 k = gA es1 81 k)) := hq
  obtain ⟨-, g1, g2, hp3⟩ := hp2
  have hb' : ∃ b : Int, r2 = .inl (some (.int (zI b))) ∧ ((b = 0 ∧ (gI es1 79 3).toInt = 0 ∧ gA es2 80 = gA es1 80) ∨ (b = 1 ∧ ¬ (gI es1 79 3).toInt = 0 ∧ ∀ k, k < 1284 → gA es2 80 k = gA es1 81 k)) := by
    rcases hp3 with ⟨q, q'⟩ | ⟨q, q'⟩
    · exact ⟨0, q, Or.inl ⟨rfl, q'⟩⟩
    · exact ⟨1, q, Or.inr (⟨rfl, q'⟩)⟩
  obtain ⟨b, rfl, hb⟩ := hb'
  have hbr : -2147483648 ≤ b ∧ b ≤ 2147483647 := by rcases hb with ⟨h, -⟩ | ⟨h, -⟩ <;> omega
  rw [e3, ← hfl] at hb
  have hJ2 : J es2 := by
    have n_kinds : j_kinds es2 := by
      have a : gI es2 7 0 = gI es1 7 0 := keepI g1 (sh_of hT1) (p := 7) (b := 0) rfl (by decide)
      show gI es2 7 0 = gA es2 80 0
      rw [a]
      rcases hk with ⟨-, h, he⟩ | ⟨-, h, hx⟩
      · rcases hb with ⟨-, -, g3⟩ | ⟨-, h', -⟩
        · rw [g3, he]; exact j_kinds_
        · exact absurd h h'
      · rcases hb with ⟨-, h', -⟩ | ⟨-, -, g3⟩
        · exact absurd h' h
        · obtain ⟨-, x_f0, x_f5, x8, x9, x10, x11, x12, x13, x14, x15⟩ := hx
          have h3 : (gI es 79 3).toInt ≠ 0 := by rw [← hfl]; exact h
          rw [x_f0, g3 0 (by omega), keepA hf1 (sh_of hT) (p := 81) (t := 0) (n := 1284) (sp := tS81) rfl (by decide) (by decide) 0 (by omega)]; exact j_kindsI_ h3
    exact ⟨kp_tape hf2 (sh_of hT1) (by decide) (kp_tape hf1 (sh_of hT) (by decide) j_tape_), kp_size hf2 (sh_of hT1) (by decide) (kp_size hf1 (sh_of hT) (by decide) j_size_), kp_flag hf2 (sh_of hT1) (by decide) (kp_flag hf1 (sh_of hT) (by decide) j_flag_), n_kinds, kp_kindsI hf2 (sh_of hT1) (by decide) (kp_kindsI hf1 (sh_of hT) (by decide) j_kindsI_), kp_fault hf2 (sh_of hT1) (by decide) (kp_fault hf1 (sh_of hT) (by decide) j_fault_)⟩
  have fin : ∀ y5 y6 y7, aW (pO0 xs n) 41 301 (kc + c1 + c2) (ks + k1 + k2) lawQ (23, lawL (i + 7) y5 y6 y7, [], es2) := fun y5 y6 y7 => K es2 _ _ y5 y6 y7 hT2 hI2 hJ2 (by omega) (by omega)
  show aW _ _ _ _ _ _ (1382, [some (.ref 7), some (.ref 64), some (.ref 143), some (.ref 171), some (.int (zI i)), x5, x6, x7], [.int (zI b)], es2)
  have t9 : k = b := by rcases hk with ⟨h, h', -⟩ | ⟨h, h', -⟩ <;> rcases hb with ⟨q, q', -⟩ | ⟨q, q', -⟩ <;> omega
  exact s_l31c (O := pO0 xs n) (d := 41) (n0 := n) (xs := xs) (sh_of hT2) ⟨h0, h7⟩ hn rfl hbr (fin _ _ _)
theorem lawHand_ok {xs : Nat → Int32} {n : Nat} (hn : n ≤ 3584) {c : Nat} {i : Int} {es : PH} {kc ks : Nat} {x5 x6 x7 : Option Value} (hc : c ∈ lawHand) (h0 : 0 ≤ i) (h7 : i + 7 ≤ (n : Int)) (hT : hOK tT es) (hI : gInv es) (hJ : J es) (K : lawK J xs n i kc ks) : aW (pO0 xs n) 41 301 kc ks lawQ (c, lawL i x5 x6 x7, [], es) := by
  rcases List.mem_cons.mp hc with rfl | hc
  · exact lh_0 hn h0 h7 hT hI hJ K
  rcases List.mem_cons.mp hc with rfl | hc
  · exact lh_1 hn h0 h7 hT hI hJ K
  rcases List.mem_cons.mp hc with rfl | hc
  · exact lh_2 hn h0 h7 hT hI hJ K
  rcases List.mem_cons.mp hc with rfl | hc
  · exact lh_3 hn h0 h7 hT hI hJ K
  rcases List.mem_cons.mp hc with rfl | hc
  · exact lh_4 hn h0 h7 hT hI hJ K
  rcases List.mem_cons.mp hc with rfl | hc
  · exact lh_30 hn h0 h7 hT hI hJ K
  rcases List.mem_cons.mp hc with rfl | hc
  · exact lh_31 hn h0 h7 hT hI hJ K
  cases hc
