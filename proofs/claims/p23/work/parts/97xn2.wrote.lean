/-! printed by wip/rel/notes.py -/
theorem i_207_0 : iRow 207 0 = some (.aload_n 0, 0, 0, 0, (some (Jvm.ClassFile.FieldType.int))) := rfl
theorem i_207_1 : iRow 207 1 = some (.iload_n 1, 0, 0, 0, (some (Jvm.ClassFile.FieldType.int))) := rfl
theorem i_207_2 : iRow 207 2 = some (.aload_n 0, 0, 0, 0, (some (Jvm.ClassFile.FieldType.int))) := rfl
theorem i_207_3 : iRow 207 3 = some (.iload_n 1, 0, 0, 0, (some (Jvm.ClassFile.FieldType.int))) := rfl
theorem i_207_4 : iRow 207 4 = some (.invokevirtual 251, 294, 205, 1, (some (Jvm.ClassFile.FieldType.int))) := rfl
theorem i_207_7 : iRow 207 7 = some (.iload_n 2, 0, 0, 0, (some (Jvm.ClassFile.FieldType.int))) := rfl
theorem i_207_8 : iRow 207 8 = some (.iload_n 3, 0, 0, 0, (some (Jvm.ClassFile.FieldType.int))) := rfl
theorem i_207_9 : iRow 207 9 = some (.iload 4, 0, 0, 0, (some (Jvm.ClassFile.FieldType.int))) := rfl
theorem i_207_11 : iRow 207 11 = some (.iload 5, 0, 0, 0, (some (Jvm.ClassFile.FieldType.int))) := rfl
theorem i_207_13 : iRow 207 13 = some (.invokevirtual 255, 297, 208, 1, (some (Jvm.ClassFile.FieldType.int))) := rfl
theorem i_207_16 : iRow 207 16 = some (.aload_n 0, 0, 0, 0, (some (Jvm.ClassFile.FieldType.int))) := rfl
theorem i_207_17 : iRow 207 17 = some (.getfield 13, 165, 12, 1, (some (Jvm.ClassFile.FieldType.int))) := rfl
theorem i_207_20 : iRow 207 20 = some (.bipush 119, 0, 0, 0, (some (Jvm.ClassFile.FieldType.int))) := rfl
theorem i_207_22 : iRow 207 22 = some (.bipush 98, 0, 0, 0, (some (Jvm.ClassFile.FieldType.int))) := rfl
theorem i_207_24 : iRow 207 24 = some (.iload_n 1, 0, 0, 0, (some (Jvm.ClassFile.FieldType.int))) := rfl
theorem i_207_25 : iRow 207 25 = some (.imul, 0, 0, 0, (some (Jvm.ClassFile.FieldType.int))) := rfl
theorem i_207_26 : iRow 207 26 = some (.iadd, 0, 0, 0, (some (Jvm.ClassFile.FieldType.int))) := rfl
theorem i_207_27 : iRow 207 27 = some (.iconst 1, 0, 0, 0, (some (Jvm.ClassFile.FieldType.int))) := rfl
theorem i_207_28 : iRow 207 28 = some (.iadd, 0, 0, 0, (some (Jvm.ClassFile.FieldType.int))) := rfl
theorem i_207_29 : iRow 207 29 = some (.dup2, 0, 0, 0, (some (Jvm.ClassFile.FieldType.int))) := rfl
theorem i_207_30 : iRow 207 30 = some (.iaload, 0, 0, 0, (some (Jvm.ClassFile.FieldType.int))) := rfl
theorem i_207_31 : iRow 207 31 = some (.iconst 1, 0, 0, 0, (some (Jvm.ClassFile.FieldType.int))) := rfl
theorem i_207_32 : iRow 207 32 = some (.iadd, 0, 0, 0, (some (Jvm.ClassFile.FieldType.int))) := rfl
theorem i_207_33 : iRow 207 33 = some (.iastore, 0, 0, 0, (some (Jvm.ClassFile.FieldType.int))) := rfl
theorem i_207_34 : iRow 207 34 = some (.aload_n 0, 0, 0, 0, (some (Jvm.ClassFile.FieldType.int))) := rfl
theorem i_207_35 : iRow 207 35 = some (.iload_n 1, 0, 0, 0, (some (Jvm.ClassFile.FieldType.int))) := rfl
theorem i_207_36 : iRow 207 36 = some (.invokevirtual 251, 294, 205, 1, (some (Jvm.ClassFile.FieldType.int))) := rfl
theorem i_207_39 : iRow 207 39 = some (.iconst 1, 0, 0, 0, (some (Jvm.ClassFile.FieldType.int))) := rfl
theorem i_207_40 : iRow 207 40 = some (.isub, 0, 0, 0, (some (Jvm.ClassFile.FieldType.int))) := rfl
theorem i_207_41 : iRow 207 41 = some (.ireturn, 0, 0, 0, (some (Jvm.ClassFile.FieldType.int))) := rfl
theorem i_208_0 : iRow 208 0 = some (.bipush 119, 0, 0, 0, none) := rfl
theorem i_208_2 : iRow 208 2 = some (.bipush 98, 0, 0, 0, none) := rfl
theorem i_208_4 : iRow 208 4 = some (.iload_n 1, 0, 0, 0, none) := rfl
theorem i_208_5 : iRow 208 5 = some (.imul, 0, 0, 0, none) := rfl
theorem i_208_6 : iRow 208 6 = some (.iadd, 0, 0, 0, none) := rfl
theorem i_208_7 : iRow 208 7 = some (.iconst 2, 0, 0, 0, none) := rfl
theorem i_208_8 : iRow 208 8 = some (.iadd, 0, 0, 0, none) := rfl
theorem i_208_9 : iRow 208 9 = some (.iconst 4, 0, 0, 0, none) := rfl
theorem i_208_10 : iRow 208 10 = some (.iload_n 2, 0, 0, 0, none) := rfl
theorem i_208_11 : iRow 208 11 = some (.imul, 0, 0, 0, none) := rfl
theorem i_208_12 : iRow 208 12 = some (.iadd, 0, 0, 0, none) := rfl
theorem i_208_13 : iRow 208 13 = some (.istore 7, 0, 0, 0, none) := rfl
theorem i_208_15 : iRow 208 15 = some (.aload_n 0, 0, 0, 0, none) := rfl
theorem i_208_16 : iRow 208 16 = some (.getfield 13, 165, 12, 1, none) := rfl
theorem i_208_19 : iRow 208 19 = some (.iload 7, 0, 0, 0, none) := rfl
theorem i_208_21 : iRow 208 21 = some (.iload_n 3, 0, 0, 0, none) := rfl
theorem i_208_22 : iRow 208 22 = some (.iastore, 0, 0, 0, none) := rfl
theorem i_208_23 : iRow 208 23 = some (.aload_n 0, 0, 0, 0, none) := rfl
theorem i_208_24 : iRow 208 24 = some (.getfield 13, 165, 12, 1, none) := rfl
theorem i_208_27 : iRow 208 27 = some (.iload 7, 0, 0, 0, none) := rfl
theorem i_208_29 : iRow 208 29 = some (.iconst 1, 0, 0, 0, none) := rfl
theorem i_208_30 : iRow 208 30 = some (.iadd, 0, 0, 0, none) := rfl
theorem i_208_31 : iRow 208 31 = some (.iload 4, 0, 0, 0, none) := rfl
theorem i_208_33 : iRow 208 33 = some (.iastore, 0, 0, 0, none) := rfl
theorem i_208_34 : iRow 208 34 = some (.aload_n 0, 0, 0, 0, none) := rfl
theorem i_208_35 : iRow 208 35 = some (.getfield 13, 165, 12, 1, none) := rfl
theorem i_208_38 : iRow 208 38 = some (.iload 7, 0, 0, 0, none) := rfl
theorem i_208_40 : iRow 208 40 = some (.iconst 2, 0, 0, 0, none) := rfl
theorem i_208_41 : iRow 208 41 = some (.iadd, 0, 0, 0, none) := rfl
theorem i_208_42 : iRow 208 42 = some (.iload 5, 0, 0, 0, none) := rfl
theorem i_208_44 : iRow 208 44 = some (.iastore, 0, 0, 0, none) := rfl
theorem i_208_45 : iRow 208 45 = some (.aload_n 0, 0, 0, 0, none) := rfl
theorem i_208_46 : iRow 208 46 = some (.getfield 13, 165, 12, 1, none) := rfl
theorem i_208_49 : iRow 208 49 = some (.iload 7, 0, 0, 0, none) := rfl
theorem i_208_51 : iRow 208 51 = some (.iconst 3, 0, 0, 0, none) := rfl
theorem i_208_52 : iRow 208 52 = some (.iadd, 0, 0, 0, none) := rfl
theorem i_208_53 : iRow 208 53 = some (.iload 6, 0, 0, 0, none) := rfl
theorem i_208_55 : iRow 208 55 = some (.iastore, 0, 0, 0, none) := rfl
theorem i_208_56 : iRow 208 56 = some (.return_, 0, 0, 0, none) := rfl
theorem i_274_165 : iRow 274 165 = some (.aload_n 0, 0, 0, 0, (some (Jvm.ClassFile.FieldType.int))) := rfl
theorem i_274_166 : iRow 274 166 = some (.iload 6, 0, 0, 0, (some (Jvm.ClassFile.FieldType.int))) := rfl
theorem i_274_168 : iRow 274 168 = some (.aload_n 0, 0, 0, 0, (some (Jvm.ClassFile.FieldType.int))) := rfl
theorem i_274_169 : iRow 274 169 = some (.invokevirtual 462, 366, 275, 1, (some (Jvm.ClassFile.FieldType.int))) := rfl
theorem i_274_172 : iRow 274 172 = some (.iload 7, 0, 0, 0, (some (Jvm.ClassFile.FieldType.int))) := rfl
theorem i_274_174 : iRow 274 174 = some (.irem, 0, 0, 0, (some (Jvm.ClassFile.FieldType.int))) := rfl
theorem i_274_175 : iRow 274 175 = some (.invokevirtual 311, 317, 228, 1, (some (Jvm.ClassFile.FieldType.int))) := rfl
theorem i_274_178 : iRow 274 178 = some (.istore 8, 0, 0, 0, (some (Jvm.ClassFile.FieldType.int))) := rfl
theorem i_274_180 : iRow 274 180 = some (.iload 8, 0, 0, 0, (some (Jvm.ClassFile.FieldType.int))) := rfl
theorem i_274_182 : iRow 274 182 = some (.bipush 36, 0, 0, 0, (some (Jvm.ClassFile.FieldType.int))) := rfl
theorem i_274_184 : iRow 274 184 = some (.irem, 0, 0, 0, (some (Jvm.ClassFile.FieldType.int))) := rfl
theorem i_274_185 : iRow 274 185 = some (.istore 9, 0, 0, 0, (some (Jvm.ClassFile.FieldType.int))) := rfl
theorem i_274_187 : iRow 274 187 = some (.aload_n 0, 0, 0, 0, (some (Jvm.ClassFile.FieldType.int))) := rfl
theorem i_274_188 : iRow 274 188 = some (.iload 6, 0, 0, 0, (some (Jvm.ClassFile.FieldType.int))) := rfl
theorem i_274_190 : iRow 274 190 = some (.iload 8, 0, 0, 0, (some (Jvm.ClassFile.FieldType.int))) := rfl
theorem i_274_192 : iRow 274 192 = some (.bipush 36, 0, 0, 0, (some (Jvm.ClassFile.FieldType.int))) := rfl
theorem i_274_194 : iRow 274 194 = some (.idiv, 0, 0, 0, (some (Jvm.ClassFile.FieldType.int))) := rfl
theorem i_274_195 : iRow 274 195 = some (.invokevirtual 279, 308, 219, 1, (some (Jvm.ClassFile.FieldType.int))) := rfl
theorem i_274_198 : iRow 274 198 = some (.iconst 2, 0, 0, 0, (some (Jvm.ClassFile.FieldType.int))) := rfl
theorem i_274_199 : iRow 274 199 = some (.idiv, 0, 0, 0, (some (Jvm.ClassFile.FieldType.int))) := rfl
theorem i_274_200 : iRow 274 200 = some (.istore 10, 0, 0, 0, (some (Jvm.ClassFile.FieldType.int))) := rfl
theorem i_274_202 : iRow 274 202 = some (.iload 9, 0, 0, 0, (some (Jvm.ClassFile.FieldType.int))) := rfl
theorem i_274_204 : iRow 274 204 = some (.bipush 6, 0, 0, 0, (some (Jvm.ClassFile.FieldType.int))) := rfl
theorem i_274_206 : iRow 274 206 = some (.irem, 0, 0, 0, (some (Jvm.ClassFile.FieldType.int))) := rfl
theorem i_274_207 : iRow 274 207 = some (.istore 11, 0, 0, 0, (some (Jvm.ClassFile.FieldType.int))) := rfl
theorem i_274_209 : iRow 274 209 = some (.iload_n 1, 0, 0, 0, (some (Jvm.ClassFile.FieldType.int))) := rfl
theorem i_274_210 : iRow 274 210 = some (.iconst 1, 0, 0, 0, (some (Jvm.ClassFile.FieldType.int))) := rfl
theorem i_274_211 : iRow 274 211 = some (.if_icmp .ne 21, 0, 0, 0, (some (Jvm.ClassFile.FieldType.int))) := rfl
theorem i_274_214 : iRow 274 214 = some (.iload 6, 0, 0, 0, (some (Jvm.ClassFile.FieldType.int))) := rfl
theorem i_274_216 : iRow 274 216 = some (.iconst 2, 0, 0, 0, (some (Jvm.ClassFile.FieldType.int))) := rfl
theorem i_274_217 : iRow 274 217 = some (.irem, 0, 0, 0, (some (Jvm.ClassFile.FieldType.int))) := rfl
theorem i_274_218 : iRow 274 218 = some (.iconst 1, 0, 0, 0, (some (Jvm.ClassFile.FieldType.int))) := rfl
theorem i_274_219 : iRow 274 219 = some (.if_icmp .ne 13, 0, 0, 0, (some (Jvm.ClassFile.FieldType.int))) := rfl
theorem i_274_222 : iRow 274 222 = some (.iconst 5, 0, 0, 0, (some (Jvm.ClassFile.FieldType.int))) := rfl
theorem i_274_223 : iRow 274 223 = some (.iload 9, 0, 0, 0, (some (Jvm.ClassFile.FieldType.int))) := rfl
theorem i_274_225 : iRow 274 225 = some (.bipush 6, 0, 0, 0, (some (Jvm.ClassFile.FieldType.int))) := rfl
theorem i_274_227 : iRow 274 227 = some (.idiv, 0, 0, 0, (some (Jvm.ClassFile.FieldType.int))) := rfl
theorem i_274_228 : iRow 274 228 = some (.isub, 0, 0, 0, (some (Jvm.ClassFile.FieldType.int))) := rfl
theorem i_274_229 : iRow 274 229 = some (.goto 8, 0, 0, 0, (some (Jvm.ClassFile.FieldType.int))) := rfl
theorem i_274_232 : iRow 274 232 = some (.iload 9, 0, 0, 0, (some (Jvm.ClassFile.FieldType.int))) := rfl
theorem i_274_234 : iRow 274 234 = some (.bipush 6, 0, 0, 0, (some (Jvm.ClassFile.FieldType.int))) := rfl
theorem i_274_236 : iRow 274 236 = some (.idiv, 0, 0, 0, (some (Jvm.ClassFile.FieldType.int))) := rfl
theorem i_274_237 : iRow 274 237 = some (.istore 12, 0, 0, 0, (some (Jvm.ClassFile.FieldType.int))) := rfl
theorem i_274_239 : iRow 274 239 = some (.aload_n 0, 0, 0, 0, (some (Jvm.ClassFile.FieldType.int))) := rfl
theorem i_274_240 : iRow 274 240 = some (.invokevirtual 462, 366, 275, 1, (some (Jvm.ClassFile.FieldType.int))) := rfl
set_option maxRecDepth 20000 in
theorem i_274_243 : iRow 274 243 = some (.bipush 10, 0, 0, 0, (some (Jvm.ClassFile.FieldType.int))) := rfl
set_option maxRecDepth 20000 in
theorem i_274_245 : iRow 274 245 = some (.irem, 0, 0, 0, (some (Jvm.ClassFile.FieldType.int))) := rfl
set_option maxRecDepth 20000 in
theorem i_274_246 : iRow 274 246 = some (.iload_n 3, 0, 0, 0, (some (Jvm.ClassFile.FieldType.int))) := rfl
set_option maxRecDepth 20000 in
theorem i_274_247 : iRow 274 247 = some (.if_icmp .ge 79, 0, 0, 0, (some (Jvm.ClassFile.FieldType.int))) := rfl
set_option maxRecDepth 20000 in
theorem i_274_250 : iRow 274 250 = some (.aload_n 0, 0, 0, 0, (some (Jvm.ClassFile.FieldType.int))) := rfl
set_option maxRecDepth 20000 in
theorem i_274_251 : iRow 274 251 = some (.invokevirtual 462, 366, 275, 1, (some (Jvm.ClassFile.FieldType.int))) := rfl
set_option maxRecDepth 20000 in
theorem i_274_254 : iRow 274 254 = some (.iconst 3, 0, 0, 0, (some (Jvm.ClassFile.FieldType.int))) := rfl
set_option maxRecDepth 20000 in
theorem i_274_255 : iRow 274 255 = some (.irem, 0, 0, 0, (some (Jvm.ClassFile.FieldType.int))) := rfl
set_option maxRecDepth 20000 in
theorem i_274_256 : iRow 274 256 = some (.istore 13, 0, 0, 0, (some (Jvm.ClassFile.FieldType.int))) := rfl
set_option maxRecDepth 20000 in
theorem i_274_258 : iRow 274 258 = some (.iload 13, 0, 0, 0, (some (Jvm.ClassFile.FieldType.int))) := rfl
set_option maxRecDepth 20000 in
theorem i_274_260 : iRow 274 260 = some (.ifCond .ne 19, 0, 0, 0, (some (Jvm.ClassFile.FieldType.int))) := rfl
set_option maxRecDepth 20000 in
theorem i_274_263 : iRow 274 263 = some (.iload 10, 0, 0, 0, (some (Jvm.ClassFile.FieldType.int))) := rfl
set_option maxRecDepth 20000 in
theorem i_274_265 : iRow 274 265 = some (.iconst 1, 0, 0, 0, (some (Jvm.ClassFile.FieldType.int))) := rfl
set_option maxRecDepth 20000 in
theorem i_274_266 : iRow 274 266 = some (.iadd, 0, 0, 0, (some (Jvm.ClassFile.FieldType.int))) := rfl
set_option maxRecDepth 20000 in
theorem i_274_267 : iRow 274 267 = some (.aload_n 0, 0, 0, 0, (some (Jvm.ClassFile.FieldType.int))) := rfl
set_option maxRecDepth 20000 in
theorem i_274_268 : iRow 274 268 = some (.getfield 13, 165, 12, 1, (some (Jvm.ClassFile.FieldType.int))) := rfl
set_option maxRecDepth 20000 in
theorem i_274_271 : iRow 274 271 = some (.iconst 0, 0, 0, 0, (some (Jvm.ClassFile.FieldType.int))) := rfl
set_option maxRecDepth 20000 in
theorem i_274_272 : iRow 274 272 = some (.iaload, 0, 0, 0, (some (Jvm.ClassFile.FieldType.int))) := rfl
set_option maxRecDepth 20000 in
theorem i_274_273 : iRow 274 273 = some (.irem, 0, 0, 0, (some (Jvm.ClassFile.FieldType.int))) := rfl
set_option maxRecDepth 20000 in
theorem i_274_274 : iRow 274 274 = some (.istore 10, 0, 0, 0, (some (Jvm.ClassFile.FieldType.int))) := rfl
set_option maxRecDepth 20000 in
theorem i_274_276 : iRow 274 276 = some (.goto 50, 0, 0, 0, (some (Jvm.ClassFile.FieldType.int))) := rfl
set_option maxRecDepth 20000 in
theorem i_274_279 : iRow 274 279 = some (.iload 13, 0, 0, 0, (some (Jvm.ClassFile.FieldType.int))) := rfl
set_option maxRecDepth 20000 in
theorem i_274_281 : iRow 274 281 = some (.iconst 1, 0, 0, 0, (some (Jvm.ClassFile.FieldType.int))) := rfl
set_option maxRecDepth 20000 in
theorem i_274_282 : iRow 274 282 = some (.if_icmp .ne 25, 0, 0, 0, (some (Jvm.ClassFile.FieldType.int))) := rfl
set_option maxRecDepth 20000 in
theorem i_274_285 : iRow 274 285 = some (.iload 11, 0, 0, 0, (some (Jvm.ClassFile.FieldType.int))) := rfl
set_option maxRecDepth 20000 in
theorem i_274_287 : iRow 274 287 = some (.iconst 5, 0, 0, 0, (some (Jvm.ClassFile.FieldType.int))) := rfl
set_option maxRecDepth 20000 in
theorem i_274_288 : iRow 274 288 = some (.if_icmp .ne 10, 0, 0, 0, (some (Jvm.ClassFile.FieldType.int))) := rfl
set_option maxRecDepth 20000 in
theorem i_274_291 : iRow 274 291 = some (.iload 11, 0, 0, 0, (some (Jvm.ClassFile.FieldType.int))) := rfl
set_option maxRecDepth 20000 in
theorem i_274_293 : iRow 274 293 = some (.iconst 1, 0, 0, 0, (some (Jvm.ClassFile.FieldType.int))) := rfl
set_option maxRecDepth 20000 in
theorem i_274_294 : iRow 274 294 = some (.isub, 0, 0, 0, (some (Jvm.ClassFile.FieldType.int))) := rfl
set_option maxRecDepth 20000 in
theorem i_274_295 : iRow 274 295 = some (.goto 7, 0, 0, 0, (some (Jvm.ClassFile.FieldType.int))) := rfl
set_option maxRecDepth 20000 in
theorem i_274_298 : iRow 274 298 = some (.iload 11, 0, 0, 0, (some (Jvm.ClassFile.FieldType.int))) := rfl
set_option maxRecDepth 20000 in
theorem i_274_300 : iRow 274 300 = some (.iconst 1, 0, 0, 0, (some (Jvm.ClassFile.FieldType.int))) := rfl
set_option maxRecDepth 20000 in
theorem i_274_301 : iRow 274 301 = some (.iadd, 0, 0, 0, (some (Jvm.ClassFile.FieldType.int))) := rfl
set_option maxRecDepth 20000 in
theorem i_274_302 : iRow 274 302 = some (.istore 11, 0, 0, 0, (some (Jvm.ClassFile.FieldType.int))) := rfl
set_option maxRecDepth 20000 in
theorem i_274_304 : iRow 274 304 = some (.goto 22, 0, 0, 0, (some (Jvm.ClassFile.FieldType.int))) := rfl
set_option maxRecDepth 20000 in
theorem i_274_307 : iRow 274 307 = some (.iload 12, 0, 0, 0, (some (Jvm.ClassFile.FieldType.int))) := rfl
set_option maxRecDepth 20000 in
theorem i_274_309 : iRow 274 309 = some (.iconst 5, 0, 0, 0, (some (Jvm.ClassFile.FieldType.int))) := rfl
set_option maxRecDepth 20000 in
theorem i_274_310 : iRow 274 310 = some (.if_icmp .ne 10, 0, 0, 0, (some (Jvm.ClassFile.FieldType.int))) := rfl
set_option maxRecDepth 20000 in
theorem i_274_313 : iRow 274 313 = some (.iload 12, 0, 0, 0, (some (Jvm.ClassFile.FieldType.int))) := rfl
set_option maxRecDepth 20000 in
theorem i_274_315 : iRow 274 315 = some (.iconst 1, 0, 0, 0, (some (Jvm.ClassFile.FieldType.int))) := rfl
set_option maxRecDepth 20000 in
theorem i_274_316 : iRow 274 316 = some (.isub, 0, 0, 0, (some (Jvm.ClassFile.FieldType.int))) := rfl
set_option maxRecDepth 20000 in
theorem i_274_317 : iRow 274 317 = some (.goto 7, 0, 0, 0, (some (Jvm.ClassFile.FieldType.int))) := rfl
set_option maxRecDepth 20000 in
theorem i_274_320 : iRow 274 320 = some (.iload 12, 0, 0, 0, (some (Jvm.ClassFile.FieldType.int))) := rfl
set_option maxRecDepth 20000 in
theorem i_274_322 : iRow 274 322 = some (.iconst 1, 0, 0, 0, (some (Jvm.ClassFile.FieldType.int))) := rfl
set_option maxRecDepth 20000 in
theorem i_274_323 : iRow 274 323 = some (.iadd, 0, 0, 0, (some (Jvm.ClassFile.FieldType.int))) := rfl
set_option maxRecDepth 20000 in
theorem i_274_324 : iRow 274 324 = some (.istore 12, 0, 0, 0, (some (Jvm.ClassFile.FieldType.int))) := rfl
set_option maxRecDepth 20000 in
theorem i_274_326 : iRow 274 326 = some (.aload_n 0, 0, 0, 0, (some (Jvm.ClassFile.FieldType.int))) := rfl
set_option maxRecDepth 20000 in
theorem i_274_327 : iRow 274 327 = some (.iload 5, 0, 0, 0, (some (Jvm.ClassFile.FieldType.int))) := rfl
set_option maxRecDepth 20000 in
theorem i_274_329 : iRow 274 329 = some (.iload 10, 0, 0, 0, (some (Jvm.ClassFile.FieldType.int))) := rfl
set_option maxRecDepth 20000 in
theorem i_274_331 : iRow 274 331 = some (.iconst (-1), 0, 0, 0, (some (Jvm.ClassFile.FieldType.int))) := rfl
set_option maxRecDepth 20000 in
theorem i_274_332 : iRow 274 332 = some (.iload 11, 0, 0, 0, (some (Jvm.ClassFile.FieldType.int))) := rfl
set_option maxRecDepth 20000 in
theorem i_274_334 : iRow 274 334 = some (.iload 12, 0, 0, 0, (some (Jvm.ClassFile.FieldType.int))) := rfl
set_option maxRecDepth 20000 in
theorem i_274_336 : iRow 274 336 = some (.invokevirtual 265, 296, 207, 1, (some (Jvm.ClassFile.FieldType.int))) := rfl
set_option maxRecDepth 20000 in
theorem i_274_339 : iRow 274 339 = some (.pop, 0, 0, 0, (some (Jvm.ClassFile.FieldType.int))) := rfl
set_option maxRecDepth 20000 in
theorem i_274_340 : iRow 274 340 = some (.aload_n 0, 0, 0, 0, (some (Jvm.ClassFile.FieldType.int))) := rfl
set_option maxRecDepth 20000 in
theorem i_274_341 : iRow 274 341 = some (.iload 6, 0, 0, 0, (some (Jvm.ClassFile.FieldType.int))) := rfl
set_option maxRecDepth 20000 in
theorem i_274_343 : iRow 274 343 = some (.iload 8, 0, 0, 0, (some (Jvm.ClassFile.FieldType.int))) := rfl
set_option maxRecDepth 20000 in
theorem i_274_345 : iRow 274 345 = some (.invokevirtual 426, 344, 253, 1, (some (Jvm.ClassFile.FieldType.int))) := rfl
set_option maxRecDepth 20000 in
theorem i_274_348 : iRow 274 348 = some (.iinc 6 1, 0, 0, 0, (some (Jvm.ClassFile.FieldType.int))) := rfl
set_option maxRecDepth 20000 in
theorem i_274_351 : iRow 274 351 = some (.goto (-218), 0, 0, 0, (some (Jvm.ClassFile.FieldType.int))) := rfl
theorem s_mw133 {O : pOut} {d kc ks : Nat} {Q : pRes → Prop} {es : PH} {wy mv sl se b n : Int} {x7 x8 x9 x10 x11 x12 x13 : Option Value} (hs_es : sh es) (h1 : 0 ≤ wy ∧ wy ≤ 1) (h2 : 1 ≤ mv ∧ mv ≤ 24) (h3 : 0 ≤ sl ∧ sl ≤ 9) (h4 : 0 ≤ b ∧ b ≤ 2) (h5 : 0 ≤ n ∧ n ≤ 24)
    (K1 : mv ≤ n → Q (.inl (some (.int (zI b))), es, kc, ks))
    (K2 : ¬ (mv ≤ n) → aW O d 274 kc ks Q (146, [some (.ref 143), some (.int (zI wy)), some (.int (zI mv)), some (.int (zI sl)), some (.int (zI se)), some (.int (zI b)), some (.int (zI n)), x7, x8, x9, x10, x11, x12, x13], [.int (zI (n % 2)), .int (zI n), .ref 143], es)) :
    aW O d 274 kc ks Q (133, [some (.ref 143), some (.int (zI wy)), some (.int (zI mv)), some (.int (zI sl)), some (.int (zI se)), some (.int (zI b)), some (.int (zI n)), x7, x8, x9, x10, x11, x12, x13], [], es) := by
  refine x0 (r := (135, [some (.ref 143), some (.int (zI wy)), some (.int (zI mv)), some (.int (zI sl)), some (.int (zI se)), some (.int (zI b)), some (.int (zI n)), x7, x8, x9, x10, x11, x12, x13], [.int (zI n)], es)) i_274_133 rfl ?_
  refine x0 (r := (136, [some (.ref 143), some (.int (zI wy)), some (.int (zI mv)), some (.int (zI sl)), some (.int (zI se)), some (.int (zI b)), some (.int (zI n)), x7, x8, x9, x10, x11, x12, x13], [.int (zI mv), .int (zI n)], es)) i_274_135 rfl ?_
  by_cases c1 : mv ≤ n
  · refine x_cmpT i_274_136 (by unfold i32 iLO iHI; omega) (by unfold i32 iLO iHI; omega) rfl (by simp only [zC, cR]; omega) ?_
    refine x0 (r := (356, [some (.ref 143), some (.int (zI wy)), some (.int (zI mv)), some (.int (zI sl)), some (.int (zI se)), some (.int (zI b)), some (.int (zI n)), x7, x8, x9, x10, x11, x12, x13], [.int (zI b)], es)) i_274_354 rfl ?_
    refine x_ret (v := some (.int (zI b))) i_274_356 rfl (fun _ => rfl) rfl rfl rfl ?_
    exact K1 c1
  · refine x_cmpF i_274_136 (by unfold i32 iLO iHI; omega) (by unfold i32 iLO iHI; omega) rfl (by simp only [zC, cR]; omega) ?_
    refine x0 (r := (140, [some (.ref 143), some (.int (zI wy)), some (.int (zI mv)), some (.int (zI sl)), some (.int (zI se)), some (.int (zI b)), some (.int (zI n)), x7, x8, x9, x10, x11, x12, x13], [.ref 143], es)) i_274_139 rfl ?_
    refine x0 (r := (142, [some (.ref 143), some (.int (zI wy)), some (.int (zI mv)), some (.int (zI sl)), some (.int (zI se)), some (.int (zI b)), some (.int (zI n)), x7, x8, x9, x10, x11, x12, x13], [.int (zI n), .ref 143], es)) i_274_140 rfl ?_
    refine x0 (r := (144, [some (.ref 143), some (.int (zI wy)), some (.int (zI mv)), some (.int (zI sl)), some (.int (zI se)), some (.int (zI b)), some (.int (zI n)), x7, x8, x9, x10, x11, x12, x13], [.int (zI n), .int (zI n), .ref 143], es)) i_274_142 rfl ?_
    refine x0 (r := (145, [some (.ref 143), some (.int (zI wy)), some (.int (zI mv)), some (.int (zI sl)), some (.int (zI se)), some (.int (zI b)), some (.int (zI n)), x7, x8, x9, x10, x11, x12, x13], [.int (zI 2), .int (zI n), .int (zI n), .ref 143], es)) i_274_144 (by rfl) ?_
    refine x_iremn i_274_145 (by omega) (by unfold i32 iLO iHI; omega) (by unfold i32 iLO iHI; omega) (by omega) ?_
    exact K2 c1
theorem s_mw149 {O : pOut} {d kc ks : Nat} {Q : pRes → Prop} {es : PH} {wy mv sl se b n : Int} {x7 x8 x9 x10 x11 x12 x13 : Option Value} (hs_es : sh es) (h1 : 0 ≤ wy ∧ wy ≤ 1) (h2 : 1 ≤ mv ∧ mv ≤ 24) (h3 : 0 ≤ sl ∧ sl ≤ 9) (h4 : 0 ≤ b ∧ b ≤ 2) (h5 : 0 ≤ n ∧ n ≤ 24)
    (K1 : aW O d 274 kc ks Q (152, [some (.ref 143), some (.int (zI wy)), some (.int (zI mv)), some (.int (zI sl)), some (.int (zI se)), some (.int (zI b)), some (.int (zI n)), x7, x8, x9, x10, x11, x12, x13], [.int (zI n), .ref 143], es)) :
    aW O d 274 kc ks Q (149, [some (.ref 143), some (.int (zI wy)), some (.int (zI mv)), some (.int (zI sl)), some (.int (zI se)), some (.int (zI b)), some (.int (zI n)), x7, x8, x9, x10, x11, x12, x13], [], es) := by
  refine x0 (r := (150, [some (.ref 143), some (.int (zI wy)), some (.int (zI mv)), some (.int (zI sl)), some (.int (zI se)), some (.int (zI b)), some (.int (zI n)), x7, x8, x9, x10, x11, x12, x13], [.ref 143], es)) i_274_149 rfl ?_
  refine x0 (r := (152, [some (.ref 143), some (.int (zI wy)), some (.int (zI mv)), some (.int (zI sl)), some (.int (zI se)), some (.int (zI b)), some (.int (zI n)), x7, x8, x9, x10, x11, x12, x13], [.int (zI n), .ref 143], es)) i_274_150 rfl ?_
  exact K1
theorem s_mw155 {O : pOut} {d kc ks : Nat} {Q : pRes → Prop} {es : PH} {wy mv sl se b n al : Int} {x7 x8 x9 x10 x11 x12 x13 : Option Value} (hs_es : sh es) (h1 : 0 ≤ wy ∧ wy ≤ 1) (h2 : 1 ≤ mv ∧ mv ≤ 24) (h3 : 0 ≤ sl ∧ sl ≤ 9) (h4 : 0 ≤ b ∧ b ≤ 2) (h5 : 0 ≤ n ∧ n ≤ 24) (h6 : 0 ≤ al ∧ al ≤ 1296)
    (K1 : al ≠ 0 → aW O d 274 kc ks Q (169, [some (.ref 143), some (.int (zI wy)), some (.int (zI mv)), some (.int (zI sl)), some (.int (zI se)), some (.int (zI b)), some (.int (zI n)), some (.int (zI al)), x8, x9, x10, x11, x12, x13], [.ref 143, .int (zI n), .ref 143], es))
    (K2 : ¬ (al ≠ 0) → Q (.inl (some (.int (zI b))), es, kc, ks)) :
    aW O d 274 kc ks Q (155, [some (.ref 143), some (.int (zI wy)), some (.int (zI mv)), some (.int (zI sl)), some (.int (zI se)), some (.int (zI b)), some (.int (zI n)), x7, x8, x9, x10, x11, x12, x13], [.int (zI al)], es) := by
  refine x0 (r := (157, [some (.ref 143), some (.int (zI wy)), some (.int (zI mv)), some (.int (zI sl)), some (.int (zI se)), some (.int (zI b)), some (.int (zI n)), some (.int (zI al)), x8, x9, x10, x11, x12, x13], [], es)) i_274_155 rfl ?_
  refine x0 (r := (159, [some (.ref 143), some (.int (zI wy)), some (.int (zI mv)), some (.int (zI sl)), some (.int (zI se)), some (.int (zI b)), some (.int (zI n)), some (.int (zI al)), x8, x9, x10, x11, x12, x13], [.int (zI al)], es)) i_274_157 rfl ?_
  by_cases c1 : al ≠ 0
  · refine x_ifT i_274_159 (by unfold i32 iLO iHI; omega) rfl (by simp only [zC, cR]; omega) ?_
    refine x0 (r := (166, [some (.ref 143), some (.int (zI wy)), some (.int (zI mv)), some (.int (zI sl)), some (.int (zI se)), some (.int (zI b)), some (.int (zI n)), some (.int (zI al)), x8, x9, x10, x11, x12, x13], [.ref 143], es)) i_274_165 rfl ?_
    refine x0 (r := (168, [some (.ref 143), some (.int (zI wy)), some (.int (zI mv)), some (.int (zI sl)), some (.int (zI se)), some (.int (zI b)), some (.int (zI n)), some (.int (zI al)), x8, x9, x10, x11, x12, x13], [.int (zI n), .ref 143], es)) i_274_166 rfl ?_
    refine x0 (r := (169, [some (.ref 143), some (.int (zI wy)), some (.int (zI mv)), some (.int (zI sl)), some (.int (zI se)), some (.int (zI b)), some (.int (zI n)), some (.int (zI al)), x8, x9, x10, x11, x12, x13], [.ref 143, .int (zI n), .ref 143], es)) i_274_168 rfl ?_
    exact K1 c1
  · refine x_ifF i_274_159 (by unfold i32 iLO iHI; omega) rfl (by simp only [zC, cR]; omega) ?_
    refine x0 (r := (164, [some (.ref 143), some (.int (zI wy)), some (.int (zI mv)), some (.int (zI sl)), some (.int (zI se)), some (.int (zI b)), some (.int (zI n)), some (.int (zI al)), x8, x9, x10, x11, x12, x13], [.int (zI b)], es)) i_274_162 rfl ?_
    refine x_ret (v := some (.int (zI b))) i_274_164 rfl (fun _ => rfl) rfl rfl rfl ?_
    exact K2 c1
theorem s_mw172 {O : pOut} {d kc ks : Nat} {Q : pRes → Prop} {es : PH} {wy mv sl se b n al r : Int} {x8 x9 x10 x11 x12 x13 : Option Value} (hs_es : sh es) (h1 : 0 ≤ wy ∧ wy ≤ 1) (h2 : 1 ≤ mv ∧ mv ≤ 24) (h3 : 0 ≤ sl ∧ sl ≤ 9) (h4 : 0 ≤ b ∧ b ≤ 2) (h5 : 0 ≤ n ∧ n ≤ 24) (h6 : 1 ≤ al ∧ al ≤ 1296) (hr : 0 ≤ r ∧ r ≤ 32767)
    (K1 : aW O d 274 kc ks Q (175, [some (.ref 143), some (.int (zI wy)), some (.int (zI mv)), some (.int (zI sl)), some (.int (zI se)), some (.int (zI b)), some (.int (zI n)), some (.int (zI al)), x8, x9, x10, x11, x12, x13], [.int (zI (r % al)), .int (zI n), .ref 143], es)) :
    aW O d 274 kc ks Q (172, [some (.ref 143), some (.int (zI wy)), some (.int (zI mv)), some (.int (zI sl)), some (.int (zI se)), some (.int (zI b)), some (.int (zI n)), some (.int (zI al)), x8, x9, x10, x11, x12, x13], [.int (zI r), .int (zI n), .ref 143], es) := by
  refine x0 (r := (174, [some (.ref 143), some (.int (zI wy)), some (.int (zI mv)), some (.int (zI sl)), some (.int (zI se)), some (.int (zI b)), some (.int (zI n)), some (.int (zI al)), x8, x9, x10, x11, x12, x13], [.int (zI al), .int (zI r), .int (zI n), .ref 143], es)) i_274_172 rfl ?_
  refine x_iremn i_274_174 (by omega) (by unfold i32 iLO iHI; omega) (by unfold i32 iLO iHI; omega) (by omega) ?_
  exact K1
theorem s_mw178 {O : pOut} {d kc ks : Nat} {Q : pRes → Prop} {es : PH} {wy mv sl se b n al c : Int} {x8 x9 x10 x11 x12 x13 : Option Value} (hs_es : sh es) (h1 : 0 ≤ wy ∧ wy ≤ 1) (h2 : 1 ≤ mv ∧ mv ≤ 24) (h3 : 0 ≤ sl ∧ sl ≤ 9) (h4 : 0 ≤ b ∧ b ≤ 2) (h5 : 0 ≤ n ∧ n ≤ 24) (h5b : n ≤ 23) (h6 : 1 ≤ al ∧ al ≤ 1296) (h7 : 0 ≤ c ∧ c ≤ 1295) (hb : 0 ≤ (gA es 87 ((36 * n) + (c / 36)).toNat).toInt ∧ (gA es 87 ((36 * n) + (c / 36)).toNat).toInt ≤ 9)
    (K1 : ∀ v1 : Int, v1 = (gA es 87 ((36 * n) + (c / 36)).toNat).toInt → wy ≠ 1 → aW O (d + 1) 274 kc ks Q (240, [some (.ref 143), some (.int (zI wy)), some (.int (zI mv)), some (.int (zI sl)), some (.int (zI se)), some (.int (zI b)), some (.int (zI n)), some (.int (zI al)), some (.int (zI c)), some (.int (zI (c % 36))), some (.int (zI (v1 / 2))), some (.int (zI ((c % 36) % 6))), some (.int (zI ((c % 36) / 6))), x13], [.ref 143], es))
    (K2 : ∀ v1 : Int, v1 = (gA es 87 ((36 * n) + (c / 36)).toNat).toInt → ¬ (wy ≠ 1) → (n % 2) ≠ 1 → aW O (d + 1) 274 kc ks Q (240, [some (.ref 143), some (.int (zI wy)), some (.int (zI mv)), some (.int (zI sl)), some (.int (zI se)), some (.int (zI b)), some (.int (zI n)), some (.int (zI al)), some (.int (zI c)), some (.int (zI (c % 36))), some (.int (zI (v1 / 2))), some (.int (zI ((c % 36) % 6))), some (.int (zI ((c % 36) / 6))), x13], [.ref 143], es))
    (K3 : ∀ v1 : Int, v1 = (gA es 87 ((36 * n) + (c / 36)).toNat).toInt → ¬ (wy ≠ 1) → ¬ ((n % 2) ≠ 1) → aW O (d + 1) 274 kc ks Q (240, [some (.ref 143), some (.int (zI wy)), some (.int (zI mv)), some (.int (zI sl)), some (.int (zI se)), some (.int (zI b)), some (.int (zI n)), some (.int (zI al)), some (.int (zI c)), some (.int (zI (c % 36))), some (.int (zI (v1 / 2))), some (.int (zI ((c % 36) % 6))), some (.int (zI (5 - ((c % 36) / 6)))), x13], [.ref 143], es)) :
    aW O (d + 1) 274 kc ks Q (178, [some (.ref 143), some (.int (zI wy)), some (.int (zI mv)), some (.int (zI sl)), some (.int (zI se)), some (.int (zI b)), some (.int (zI n)), some (.int (zI al)), x8, x9, x10, x11, x12, x13], [.int (zI c)], es) := by
  refine x0 (r := (180, [some (.ref 143), some (.int (zI wy)), some (.int (zI mv)), some (.int (zI sl)), some (.int (zI se)), some (.int (zI b)), some (.int (zI n)), some (.int (zI al)), some (.int (zI c)), x9, x10, x11, x12, x13], [], es)) i_274_178 rfl ?_
  refine x0 (r := (182, [some (.ref 143), some (.int (zI wy)), some (.int (zI mv)), some (.int (zI sl)), some (.int (zI se)), some (.int (zI b)), some (.int (zI n)), some (.int (zI al)), some (.int (zI c)), x9, x10, x11, x12, x13], [.int (zI c)], es)) i_274_180 rfl ?_
  refine x0 (r := (184, [some (.ref 143), some (.int (zI wy)), some (.int (zI mv)), some (.int (zI sl)), some (.int (zI se)), some (.int (zI b)), some (.int (zI n)), some (.int (zI al)), some (.int (zI c)), x9, x10, x11, x12, x13], [.int (zI 36), .int (zI c)], es)) i_274_182 (by rfl) ?_
  refine x_iremn i_274_184 (by omega) (by unfold i32 iLO iHI; omega) (by unfold i32 iLO iHI; omega) (by omega) ?_
  refine x0 (r := (187, [some (.ref 143), some (.int (zI wy)), some (.int (zI mv)), some (.int (zI sl)), some (.int (zI se)), some (.int (zI b)), some (.int (zI n)), some (.int (zI al)), some (.int (zI c)), some (.int (zI (c % 36))), x10, x11, x12, x13], [], es)) i_274_185 rfl ?_
  refine x0 (r := (188, [some (.ref 143), some (.int (zI wy)), some (.int (zI mv)), some (.int (zI sl)), some (.int (zI se)), some (.int (zI b)), some (.int (zI n)), some (.int (zI al)), some (.int (zI c)), some (.int (zI (c % 36))), x10, x11, x12, x13], [.ref 143], es)) i_274_187 rfl ?_
  refine x0 (r := (190, [some (.ref 143), some (.int (zI wy)), some (.int (zI mv)), some (.int (zI sl)), some (.int (zI se)), some (.int (zI b)), some (.int (zI n)), some (.int (zI al)), some (.int (zI c)), some (.int (zI (c % 36))), x10, x11, x12, x13], [.int (zI n), .ref 143], es)) i_274_188 rfl ?_
  refine x0 (r := (192, [some (.ref 143), some (.int (zI wy)), some (.int (zI mv)), some (.int (zI sl)), some (.int (zI se)), some (.int (zI b)), some (.int (zI n)), some (.int (zI al)), some (.int (zI c)), some (.int (zI (c % 36))), x10, x11, x12, x13], [.int (zI c), .int (zI n), .ref 143], es)) i_274_190 rfl ?_
  refine x0 (r := (194, [some (.ref 143), some (.int (zI wy)), some (.int (zI mv)), some (.int (zI sl)), some (.int (zI se)), some (.int (zI b)), some (.int (zI n)), some (.int (zI al)), some (.int (zI c)), some (.int (zI (c % 36))), x10, x11, x12, x13], [.int (zI 36), .int (zI c), .int (zI n), .ref 143], es)) i_274_192 (by rfl) ?_
  refine x_idivn i_274_194 (by omega) (by unfold i32 iLO iHI; omega) (by unfold i32 iLO iHI; omega) (by omega) ?_
  refine x_call (vs := [.ref 143, .int (zI n), .int (zI (c / 36))]) (rs := []) i_274_195 rfl (fun _ => rfl) rfl rfl rfl rfl rfl (pCall_v (p := 79) hs_es rfl rfl rfl rfl rfl (by decide) rfl rfl rfl rfl rfl) ?_
  show aW _ _ _ _ _ _ (0, [some (.ref 143), some (.int (zI n)), some (.int (zI (c / 36)))], [], es)
  refine x0 (r := (1, [some (.ref 143), some (.int (zI n)), some (.int (zI (c / 36)))], [.ref 143], es)) i_219_0 rfl ?_
  refine x_getr (p := 79) (k := 151) i_219_1 hs_es rfl rfl ?_
  show aW _ _ _ _ _ _ (4, [some (.ref 143), some (.int (zI n)), some (.int (zI (c / 36)))], [.ref 151], es)
  refine x0 (r := (6, [some (.ref 143), some (.int (zI n)), some (.int (zI (c / 36)))], [.int (zI 36), .ref 151], es)) i_219_4 (by rfl) ?_
  refine x0 (r := (7, [some (.ref 143), some (.int (zI n)), some (.int (zI (c / 36)))], [.int (zI n), .int (zI 36), .ref 151], es)) i_219_6 rfl ?_
  refine x_imul i_219_7 ?_
  refine x0 (r := (9, [some (.ref 143), some (.int (zI n)), some (.int (zI (c / 36)))], [.int (zI (c / 36)), .int (zI (36 * n)), .ref 151], es)) i_219_8 rfl ?_
  refine x_iadd i_219_9 ?_
  refine x_iald (p := 87) i_219_10 hs_es rfl (by unfold i32 iLO iHI; omega) (by omega) (by omega) ?_
  obtain ⟨v1, e_v1⟩ : ∃ z : Int, z = (gA es 87 ((36 * n) + (c / 36)).toNat).toInt := ⟨_, rfl⟩
  rw [← e_v1]
  have r_v1 : iLO ≤ v1 ∧ v1 ≤ iHI := by rw [e_v1]; exact i32_rng _
  unfold iLO iHI at r_v1
  refine x_ret (v := some (.int (zI v1))) i_219_11 rfl (fun _ => rfl) rfl rfl rfl ?_
  show aW _ _ _ _ _ _ (198, [some (.ref 143), some (.int (zI wy)), some (.int (zI mv)), some (.int (zI sl)), some (.int (zI se)), some (.int (zI b)), some (.int (zI n)), some (.int (zI al)), some (.int (zI c)), some (.int (zI (c % 36))), x10, x11, x12, x13], [.int (zI v1)], es)
  refine x0 (r := (199, [some (.ref 143), some (.int (zI wy)), some (.int (zI mv)), some (.int (zI sl)), some (.int (zI se)), some (.int (zI b)), some (.int (zI n)), some (.int (zI al)), some (.int (zI c)), some (.int (zI (c % 36))), x10, x11, x12, x13], [.int (zI 2), .int (zI v1)], es)) i_274_198 (by rfl) ?_
  refine x_idivn i_274_199 (by omega) (by unfold i32 iLO iHI; omega) (by unfold i32 iLO iHI; omega) (by omega) ?_
  refine x0 (r := (202, [some (.ref 143), some (.int (zI wy)), some (.int (zI mv)), some (.int (zI sl)), some (.int (zI se)), some (.int (zI b)), some (.int (zI n)), some (.int (zI al)), some (.int (zI c)), some (.int (zI (c % 36))), some (.int (zI (v1 / 2))), x11, x12, x13], [], es)) i_274_200 rfl ?_
  refine x0 (r := (204, [some (.ref 143), some (.int (zI wy)), some (.int (zI mv)), some (.int (zI sl)), some (.int (zI se)), some (.int (zI b)), some (.int (zI n)), some (.int (zI al)), some (.int (zI c)), some (.int (zI (c % 36))), some (.int (zI (v1 / 2))), x11, x12, x13], [.int (zI (c % 36))], es)) i_274_202 rfl ?_
  refine x0 (r := (206, [some (.ref 143), some (.int (zI wy)), some (.int (zI mv)), some (.int (zI sl)), some (.int (zI se)), some (.int (zI b)), some (.int (zI n)), some (.int (zI al)), some (.int (zI c)), some (.int (zI (c % 36))), some (.int (zI (v1 / 2))), x11, x12, x13], [.int (zI 6), .int (zI (c % 36))], es)) i_274_204 (by rfl) ?_
  refine x_iremn i_274_206 (by omega) (by unfold i32 iLO iHI; omega) (by unfold i32 iLO iHI; omega) (by omega) ?_
  refine x0 (r := (209, [some (.ref 143), some (.int (zI wy)), some (.int (zI mv)), some (.int (zI sl)), some (.int (zI se)), some (.int (zI b)), some (.int (zI n)), some (.int (zI al)), some (.int (zI c)), some (.int (zI (c % 36))), some (.int (zI (v1 / 2))), some (.int (zI ((c % 36) % 6))), x12, x13], [], es)) i_274_207 rfl ?_
  refine x0 (r := (210, [some (.ref 143), some (.int (zI wy)), some (.int (zI mv)), some (.int (zI sl)), some (.int (zI se)), some (.int (zI b)), some (.int (zI n)), some (.int (zI al)), some (.int (zI c)), some (.int (zI (c % 36))), some (.int (zI (v1 / 2))), some (.int (zI ((c % 36) % 6))), x12, x13], [.int (zI wy)], es)) i_274_209 rfl ?_
  refine x0 (r := (211, [some (.ref 143), some (.int (zI wy)), some (.int (zI mv)), some (.int (zI sl)), some (.int (zI se)), some (.int (zI b)), some (.int (zI n)), some (.int (zI al)), some (.int (zI c)), some (.int (zI (c % 36))), some (.int (zI (v1 / 2))), some (.int (zI ((c % 36) % 6))), x12, x13], [.int (zI 1), .int (zI wy)], es)) i_274_210 (by rfl) ?_
  by_cases c2 : wy ≠ 1
  · refine x_cmpT i_274_211 (by unfold i32 iLO iHI; omega) (by unfold i32 iLO iHI; omega) rfl (by simp only [zC, cR]; omega) ?_
    refine x0 (r := (234, [some (.ref 143), some (.int (zI wy)), some (.int (zI mv)), some (.int (zI sl)), some (.int (zI se)), some (.int (zI b)), some (.int (zI n)), some (.int (zI al)), some (.int (zI c)), some (.int (zI (c % 36))), some (.int (zI (v1 / 2))), some (.int (zI ((c % 36) % 6))), x12, x13], [.int (zI (c % 36))], es)) i_274_232 rfl ?_
    refine x0 (r := (236, [some (.ref 143), some (.int (zI wy)), some (.int (zI mv)), some (.int (zI sl)), some (.int (zI se)), some (.int (zI b)), some (.int (zI n)), some (.int (zI al)), some (.int (zI c)), some (.int (zI (c % 36))), some (.int (zI (v1 / 2))), some (.int (zI ((c % 36) % 6))), x12, x13], [.int (zI 6), .int (zI (c % 36))], es)) i_274_234 (by rfl) ?_
    refine x_idivn i_274_236 (by omega) (by unfold i32 iLO iHI; omega) (by unfold i32 iLO iHI; omega) (by omega) ?_
    refine x0 (r := (239, [some (.ref 143), some (.int (zI wy)), some (.int (zI mv)), some (.int (zI sl)), some (.int (zI se)), some (.int (zI b)), some (.int (zI n)), some (.int (zI al)), some (.int (zI c)), some (.int (zI (c % 36))), some (.int (zI (v1 / 2))), some (.int (zI ((c % 36) % 6))), some (.int (zI ((c % 36) / 6))), x13], [], es)) i_274_237 rfl ?_
    refine x0 (r := (240, [some (.ref 143), some (.int (zI wy)), some (.int (zI mv)), some (.int (zI sl)), some (.int (zI se)), some (.int (zI b)), some (.int (zI n)), some (.int (zI al)), some (.int (zI c)), some (.int (zI (c % 36))), some (.int (zI (v1 / 2))), some (.int (zI ((c % 36) % 6))), some (.int (zI ((c % 36) / 6))), x13], [.ref 143], es)) i_274_239 rfl ?_
    exact K1 v1 e_v1 c2
  · refine x_cmpF i_274_211 (by unfold i32 iLO iHI; omega) (by unfold i32 iLO iHI; omega) rfl (by simp only [zC, cR]; omega) ?_
    refine x0 (r := (216, [some (.ref 143), some (.int (zI wy)), some (.int (zI mv)), some (.int (zI sl)), some (.int (zI se)), some (.int (zI b)), some (.int (zI n)), some (.int (zI al)), some (.int (zI c)), some (.int (zI (c % 36))), some (.int (zI (v1 / 2))), some (.int (zI ((c % 36) % 6))), x12, x13], [.int (zI n)], es)) i_274_214 rfl ?_
    refine x0 (r := (217, [some (.ref 143), some (.int (zI wy)), some (.int (zI mv)), some (.int (zI sl)), some (.int (zI se)), some (.int (zI b)), some (.int (zI n)), some (.int (zI al)), some (.int (zI c)), some (.int (zI (c % 36))), some (.int (zI (v1 / 2))), some (.int (zI ((c % 36) % 6))), x12, x13], [.int (zI 2), .int (zI n)], es)) i_274_216 (by rfl) ?_
    refine x_iremn i_274_217 (by omega) (by unfold i32 iLO iHI; omega) (by unfold i32 iLO iHI; omega) (by omega) ?_
    refine x0 (r := (219, [some (.ref 143), some (.int (zI wy)), some (.int (zI mv)), some (.int (zI sl)), some (.int (zI se)), some (.int (zI b)), some (.int (zI n)), some (.int (zI al)), some (.int (zI c)), some (.int (zI (c % 36))), some (.int (zI (v1 / 2))), some (.int (zI ((c % 36) % 6))), x12, x13], [.int (zI 1), .int (zI (n % 2))], es)) i_274_218 (by rfl) ?_
    by_cases c3 : (n % 2) ≠ 1
    · refine x_cmpT i_274_219 (by unfold i32 iLO iHI; omega) (by unfold i32 iLO iHI; omega) rfl (by simp only [zC, cR]; omega) ?_
      refine x0 (r := (234, [some (.ref 143), some (.int (zI wy)), some (.int (zI mv)), some (.int (zI sl)), some (.int (zI se)), some (.int (zI b)), some (.int (zI n)), some (.int (zI al)), some (.int (zI c)), some (.int (zI (c % 36))), some (.int (zI (v1 / 2))), some (.int (zI ((c % 36) % 6))), x12, x13], [.int (zI (c % 36))], es)) i_274_232 rfl ?_
      refine x0 (r := (236, [some (.ref 143), some (.int (zI wy)), some (.int (zI mv)), some (.int (zI sl)), some (.int (zI se)), some (.int (zI b)), some (.int (zI n)), some (.int (zI al)), some (.int (zI c)), some (.int (zI (c % 36))), some (.int (zI (v1 / 2))), some (.int (zI ((c % 36) % 6))), x12, x13], [.int (zI 6), .int (zI (c % 36))], es)) i_274_234 (by rfl) ?_
      refine x_idivn i_274_236 (by omega) (by unfold i32 iLO iHI; omega) (by unfold i32 iLO iHI; omega) (by omega) ?_
      refine x0 (r := (239, [some (.ref 143), some (.int (zI wy)), some (.int (zI mv)), some (.int (zI sl)), some (.int (zI se)), some (.int (zI b)), some (.int (zI n)), some (.int (zI al)), some (.int (zI c)), some (.int (zI (c % 36))), some (.int (zI (v1 / 2))), some (.int (zI ((c % 36) % 6))), some (.int (zI ((c % 36) / 6))), x13], [], es)) i_274_237 rfl ?_
      refine x0 (r := (240, [some (.ref 143), some (.int (zI wy)), some (.int (zI mv)), some (.int (zI sl)), some (.int (zI se)), some (.int (zI b)), some (.int (zI n)), some (.int (zI al)), some (.int (zI c)), some (.int (zI (c % 36))), some (.int (zI (v1 / 2))), some (.int (zI ((c % 36) % 6))), some (.int (zI ((c % 36) / 6))), x13], [.ref 143], es)) i_274_239 rfl ?_
      exact K2 v1 e_v1 c2 c3
    · refine x_cmpF i_274_219 (by unfold i32 iLO iHI; omega) (by unfold i32 iLO iHI; omega) rfl (by simp only [zC, cR]; omega) ?_
      refine x0 (r := (223, [some (.ref 143), some (.int (zI wy)), some (.int (zI mv)), some (.int (zI sl)), some (.int (zI se)), some (.int (zI b)), some (.int (zI n)), some (.int (zI al)), some (.int (zI c)), some (.int (zI (c % 36))), some (.int (zI (v1 / 2))), some (.int (zI ((c % 36) % 6))), x12, x13], [.int (zI 5)], es)) i_274_222 (by rfl) ?_
      refine x0 (r := (225, [some (.ref 143), some (.int (zI wy)), some (.int (zI mv)), some (.int (zI sl)), some (.int (zI se)), some (.int (zI b)), some (.int (zI n)), some (.int (zI al)), some (.int (zI c)), some (.int (zI (c % 36))), some (.int (zI (v1 / 2))), some (.int (zI ((c % 36) % 6))), x12, x13], [.int (zI (c % 36)), .int (zI 5)], es)) i_274_223 rfl ?_
      refine x0 (r := (227, [some (.ref 143), some (.int (zI wy)), some (.int (zI mv)), some (.int (zI sl)), some (.int (zI se)), some (.int (zI b)), some (.int (zI n)), some (.int (zI al)), some (.int (zI c)), some (.int (zI (c % 36))), some (.int (zI (v1 / 2))), some (.int (zI ((c % 36) % 6))), x12, x13], [.int (zI 6), .int (zI (c % 36)), .int (zI 5)], es)) i_274_225 (by rfl) ?_
      refine x_idivn i_274_227 (by omega) (by unfold i32 iLO iHI; omega) (by unfold i32 iLO iHI; omega) (by omega) ?_
      refine x_isub i_274_228 ?_
      refine x0 (r := (237, [some (.ref 143), some (.int (zI wy)), some (.int (zI mv)), some (.int (zI sl)), some (.int (zI se)), some (.int (zI b)), some (.int (zI n)), some (.int (zI al)), some (.int (zI c)), some (.int (zI (c % 36))), some (.int (zI (v1 / 2))), some (.int (zI ((c % 36) % 6))), x12, x13], [.int (zI (5 - ((c % 36) / 6)))], es)) i_274_229 rfl ?_
      refine x0 (r := (239, [some (.ref 143), some (.int (zI wy)), some (.int (zI mv)), some (.int (zI sl)), some (.int (zI se)), some (.int (zI b)), some (.int (zI n)), some (.int (zI al)), some (.int (zI c)), some (.int (zI (c % 36))), some (.int (zI (v1 / 2))), some (.int (zI ((c % 36) % 6))), some (.int (zI (5 - ((c % 36) / 6)))), x13], [], es)) i_274_237 rfl ?_
      refine x0 (r := (240, [some (.ref 143), some (.int (zI wy)), some (.int (zI mv)), some (.int (zI sl)), some (.int (zI se)), some (.int (zI b)), some (.int (zI n)), some (.int (zI al)), some (.int (zI c)), some (.int (zI (c % 36))), some (.int (zI (v1 / 2))), some (.int (zI ((c % 36) % 6))), some (.int (zI (5 - ((c % 36) / 6)))), x13], [.ref 143], es)) i_274_239 rfl ?_
      exact K3 v1 e_v1 c2 c3
theorem s_mw243 {O : pOut} {d kc ks : Nat} {Q : pRes → Prop} {es : PH} {wy mv sl se b n al c t kd fi ra r : Int} {x13 : Option Value} (hs_es : sh es) (h1 : 0 ≤ wy ∧ wy ≤ 1) (h2 : 1 ≤ mv ∧ mv ≤ 24) (h3 : 0 ≤ sl ∧ sl ≤ 9) (h4 : 0 ≤ b ∧ b ≤ 2) (h5 : 0 ≤ n ∧ n ≤ 24) (h5b : n ≤ 23) (h6 : 1 ≤ al ∧ al ≤ 1296) (h7 : 0 ≤ c ∧ c ≤ 1295) (h8 : 0 ≤ kd ∧ kd ≤ 4) (h9 : 0 ≤ fi ∧ fi ≤ 5) (h10 : 0 ≤ ra ∧ ra ≤ 5) (h11 : 0 ≤ t ∧ t ≤ 35) (hr : 0 ≤ r ∧ r ≤ 32767)
    (K1 : sl ≤ (r % 10) → aW O d 274 kc ks Q (326, [some (.ref 143), some (.int (zI wy)), some (.int (zI mv)), some (.int (zI sl)), some (.int (zI se)), some (.int (zI b)), some (.int (zI n)), some (.int (zI al)), some (.int (zI c)), some (.int (zI t)), some (.int (zI kd)), some (.int (zI fi)), some (.int (zI ra)), x13], [], es))
    (K2 : ¬ (sl ≤ (r % 10)) → aW O d 274 kc ks Q (251, [some (.ref 143), some (.int (zI wy)), some (.int (zI mv)), some (.int (zI sl)), some (.int (zI se)), some (.int (zI b)), some (.int (zI n)), some (.int (zI al)), some (.int (zI c)), some (.int (zI t)), some (.int (zI kd)), some (.int (zI fi)), some (.int (zI ra)), x13], [.ref 143], es)) :
    aW O d 274 kc ks Q (243, [some (.ref 143), some (.int (zI wy)), some (.int (zI mv)), some (.int (zI sl)), some (.int (zI se)), some (.int (zI b)), some (.int (zI n)), some (.int (zI al)), some (.int (zI c)), some (.int (zI t)), some (.int (zI kd)), some (.int (zI fi)), some (.int (zI ra)), x13], [.int (zI r)], es) := by
  refine x0 (r := (245, [some (.ref 143), some (.int (zI wy)), some (.int (zI mv)), some (.int (zI sl)), some (.int (zI se)), some (.int (zI b)), some (.int (zI n)), some (.int (zI al)), some (.int (zI c)), some (.int (zI t)), some (.int (zI kd)), some (.int (zI fi)), some (.int (zI ra)), x13], [.int (zI 10), .int (zI r)], es)) i_274_243 (by rfl) ?_
  refine x_iremn i_274_245 (by omega) (by unfold i32 iLO iHI; omega) (by unfold i32 iLO iHI; omega) (by omega) ?_
  refine x0 (r := (247, [some (.ref 143), some (.int (zI wy)), some (.int (zI mv)), some (.int (zI sl)), some (.int (zI se)), some (.int (zI b)), some (.int (zI n)), some (.int (zI al)), some (.int (zI c)), some (.int (zI t)), some (.int (zI kd)), some (.int (zI fi)), some (.int (zI ra)), x13], [.int (zI sl), .int (zI (r % 10))], es)) i_274_246 rfl ?_
  by_cases c1 : sl ≤ (r % 10)
  · refine x_cmpT i_274_247 (by unfold i32 iLO iHI; omega) (by unfold i32 iLO iHI; omega) rfl (by simp only [zC, cR]; omega) ?_
    exact K1 c1
  · refine x_cmpF i_274_247 (by unfold i32 iLO iHI; omega) (by unfold i32 iLO iHI; omega) rfl (by simp only [zC, cR]; omega) ?_
    refine x0 (r := (251, [some (.ref 143), some (.int (zI wy)), some (.int (zI mv)), some (.int (zI sl)), some (.int (zI se)), some (.int (zI b)), some (.int (zI n)), some (.int (zI al)), some (.int (zI c)), some (.int (zI t)), some (.int (zI kd)), some (.int (zI fi)), some (.int (zI ra)), x13], [.ref 143], es)) i_274_250 rfl ?_
    exact K2 c1
theorem s_mw254 {O : pOut} {d kc ks : Nat} {Q : pRes → Prop} {es : PH} {wy mv sl se b n al c t kd fi ra r : Int} {x13 : Option Value} (hs_es : sh es) (h1 : 0 ≤ wy ∧ wy ≤ 1) (h2 : 1 ≤ mv ∧ mv ≤ 24) (h3 : 0 ≤ sl ∧ sl ≤ 9) (h4 : 0 ≤ b ∧ b ≤ 2) (h5 : 0 ≤ n ∧ n ≤ 24) (h5b : n ≤ 23) (h6 : 1 ≤ al ∧ al ≤ 1296) (h7 : 0 ≤ c ∧ c ≤ 1295) (h8 : 0 ≤ kd ∧ kd ≤ 4) (h9 : 0 ≤ fi ∧ fi ≤ 5) (h10 : 0 ≤ ra ∧ ra ≤ 5) (h11 : 0 ≤ t ∧ t ≤ 35) (hr : 0 ≤ r ∧ r ≤ 32767) (hk : 1 ≤ (gA es 80 (Int.toNat 0)).toInt ∧ (gA es 80 (Int.toNat 0)).toInt ≤ 5)
    (K1 : (r % 3) ≠ 0 → (r % 3) ≠ 1 → ra ≠ 5 → aW O d 274 kc ks Q (326, [some (.ref 143), some (.int (zI wy)), some (.int (zI mv)), some (.int (zI sl)), some (.int (zI se)), some (.int (zI b)), some (.int (zI n)), some (.int (zI al)), some (.int (zI c)), some (.int (zI t)), some (.int (zI kd)), some (.int (zI fi)), some (.int (zI (ra + 1))), some (.int (zI (r % 3)))], [], es))
    (K2 : (r % 3) ≠ 0 → (r % 3) ≠ 1 → ¬ (ra ≠ 5) → aW O d 274 kc ks Q (326, [some (.ref 143), some (.int (zI wy)), some (.int (zI mv)), some (.int (zI sl)), some (.int (zI se)), some (.int (zI b)), some (.int (zI n)), some (.int (zI al)), some (.int (zI c)), some (.int (zI t)), some (.int (zI kd)), some (.int (zI fi)), some (.int (zI (ra - 1))), some (.int (zI (r % 3)))], [], es))
    (K3 : (r % 3) ≠ 0 → ¬ ((r % 3) ≠ 1) → fi ≠ 5 → aW O d 274 kc ks Q (326, [some (.ref 143), some (.int (zI wy)), some (.int (zI mv)), some (.int (zI sl)), some (.int (zI se)), some (.int (zI b)), some (.int (zI n)), some (.int (zI al)), some (.int (zI c)), some (.int (zI t)), some (.int (zI kd)), some (.int (zI (fi + 1))), some (.int (zI ra)), some (.int (zI (r % 3)))], [], es))
    (K4 : (r % 3) ≠ 0 → ¬ ((r % 3) ≠ 1) → ¬ (fi ≠ 5) → aW O d 274 kc ks Q (326, [some (.ref 143), some (.int (zI wy)), some (.int (zI mv)), some (.int (zI sl)), some (.int (zI se)), some (.int (zI b)), some (.int (zI n)), some (.int (zI al)), some (.int (zI c)), some (.int (zI t)), some (.int (zI kd)), some (.int (zI (fi - 1))), some (.int (zI ra)), some (.int (zI (r % 3)))], [], es))
    (K5 : ¬ ((r % 3) ≠ 0) → ∀ v5 : Int, v5 = (gA es 80 (Int.toNat 0)).toInt → aW O d 274 kc ks Q (326, [some (.ref 143), some (.int (zI wy)), some (.int (zI mv)), some (.int (zI sl)), some (.int (zI se)), some (.int (zI b)), some (.int (zI n)), some (.int (zI al)), some (.int (zI c)), some (.int (zI t)), some (.int (zI ((kd + 1) % v5))), some (.int (zI fi)), some (.int (zI ra)), some (.int (zI (r % 3)))], [], es)) :
    aW O d 274 kc ks Q (254, [some (.ref 143), some (.int (zI wy)), some (.int (zI mv)), some (.int (zI sl)), some (.int (zI se)), some (.int (zI b)), some (.int (zI n)), some (.int (zI al)), some (.int (zI c)), some (.int (zI t)), some (.int (zI kd)), some (.int (zI fi)), some (.int (zI ra)), x13], [.int (zI r)], es) := by
  refine x0 (r := (255, [some (.ref 143), some (.int (zI wy)), some (.int (zI mv)), some (.int (zI sl)), some (.int (zI se)), some (.int (zI b)), some (.int (zI n)), some (.int (zI al)), some (.int (zI c)), some (.int (zI t)), some (.int (zI kd)), some (.int (zI fi)), some (.int (zI ra)), x13], [.int (zI 3), .int (zI r)], es)) i_274_254 (by rfl) ?_
  refine x_iremn i_274_255 (by omega) (by unfold i32 iLO iHI; omega) (by unfold i32 iLO iHI; omega) (by omega) ?_
  refine x0 (r := (258, [some (.ref 143), some (.int (zI wy)), some (.int (zI mv)), some (.int (zI sl)), some (.int (zI se)), some (.int (zI b)), some (.int (zI n)), some (.int (zI al)), some (.int (zI c)), some (.int (zI t)), some (.int (zI kd)), some (.int (zI fi)), some (.int (zI ra)), some (.int (zI (r % 3)))], [], es)) i_274_256 rfl ?_
  refine x0 (r := (260, [some (.ref 143), some (.int (zI wy)), some (.int (zI mv)), some (.int (zI sl)), some (.int (zI se)), some (.int (zI b)), some (.int (zI n)), some (.int (zI al)), some (.int (zI c)), some (.int (zI t)), some (.int (zI kd)), some (.int (zI fi)), some (.int (zI ra)), some (.int (zI (r % 3)))], [.int (zI (r % 3))], es)) i_274_258 rfl ?_
  by_cases c1 : (r % 3) ≠ 0
  · refine x_ifT i_274_260 (by unfold i32 iLO iHI; omega) rfl (by simp only [zC, cR]; omega) ?_
    refine x0 (r := (281, [some (.ref 143), some (.int (zI wy)), some (.int (zI mv)), some (.int (zI sl)), some (.int (zI se)), some (.int (zI b)), some (.int (zI n)), some (.int (zI al)), some (.int (zI c)), some (.int (zI t)), some (.int (zI kd)), some (.int (zI fi)), some (.int (zI ra)), some (.int (zI (r % 3)))], [.int (zI (r % 3))], es)) i_274_279 rfl ?_
    refine x0 (r := (282, [some (.ref 143), some (.int (zI wy)), some (.int (zI mv)), some (.int (zI sl)), some (.int (zI se)), some (.int (zI b)), some (.int (zI n)), some (.int (zI al)), some (.int (zI c)), some (.int (zI t)), some (.int (zI kd)), some (.int (zI fi)), some (.int (zI ra)), some (.int (zI (r % 3)))], [.int (zI 1), .int (zI (r % 3))], es)) i_274_281 (by rfl) ?_
    by_cases c2 : (r % 3) ≠ 1
    · refine x_cmpT i_274_282 (by unfold i32 iLO iHI; omega) (by unfold i32 iLO iHI; omega) rfl (by simp only [zC, cR]; omega) ?_
      refine x0 (r := (309, [some (.ref 143), some (.int (zI wy)), some (.int (zI mv)), some (.int (zI sl)), some (.int (zI se)), some (.int (zI b)), some (.int (zI n)), some (.int (zI al)), some (.int (zI c)), some (.int (zI t)), some (.int (zI kd)), some (.int (zI fi)), some (.int (zI ra)), some (.int (zI (r % 3)))], [.int (zI ra)], es)) i_274_307 rfl ?_
      refine x0 (r := (310, [some (.ref 143), some (.int (zI wy)), some (.int (zI mv)), some (.int (zI sl)), some (.int (zI se)), some (.int (zI b)), some (.int (zI n)), some (.int (zI al)), some (.int (zI c)), some (.int (zI t)), some (.int (zI kd)), some (.int (zI fi)), some (.int (zI ra)), some (.int (zI (r % 3)))], [.int (zI 5), .int (zI ra)], es)) i_274_309 (by rfl) ?_
      by_cases c3 : ra ≠ 5
      · refine x_cmpT i_274_310 (by unfold i32 iLO iHI; omega) (by unfold i32 iLO iHI; omega) rfl (by simp only [zC, cR]; omega) ?_
        refine x0 (r := (322, [some (.ref 143), some (.int (zI wy)), some (.int (zI mv)), some (.int (zI sl)), some (.int (zI se)), some (.int (zI b)), some (.int (zI n)), some (.int (zI al)), some (.int (zI c)), some (.int (zI t)), some (.int (zI kd)), some (.int (zI fi)), some (.int (zI ra)), some (.int (zI (r % 3)))], [.int (zI ra)], es)) i_274_320 rfl ?_
        refine x0 (r := (323, [some (.ref 143), some (.int (zI wy)), some (.int (zI mv)), some (.int (zI sl)), some (.int (zI se)), some (.int (zI b)), some (.int (zI n)), some (.int (zI al)), some (.int (zI c)), some (.int (zI t)), some (.int (zI kd)), some (.int (zI fi)), some (.int (zI ra)), some (.int (zI (r % 3)))], [.int (zI 1), .int (zI ra)], es)) i_274_322 (by rfl) ?_
        refine x_iadd i_274_323 ?_
        refine x0 (r := (326, [some (.ref 143), some (.int (zI wy)), some (.int (zI mv)), some (.int (zI sl)), some (.int (zI se)), some (.int (zI b)), some (.int (zI n)), some (.int (zI al)), some (.int (zI c)), some (.int (zI t)), some (.int (zI kd)), some (.int (zI fi)), some (.int (zI (ra + 1))), some (.int (zI (r % 3)))], [], es)) i_274_324 rfl ?_
        exact K1 c1 c2 c3
      · refine x_cmpF i_274_310 (by unfold i32 iLO iHI; omega) (by unfold i32 iLO iHI; omega) rfl (by simp only [zC, cR]; omega) ?_
        refine x0 (r := (315, [some (.ref 143), some (.int (zI wy)), some (.int (zI mv)), some (.int (zI sl)), some (.int (zI se)), some (.int (zI b)), some (.int (zI n)), some (.int (zI al)), some (.int (zI c)), some (.int (zI t)), some (.int (zI kd)), some (.int (zI fi)), some (.int (zI ra)), some (.int (zI (r % 3)))], [.int (zI ra)], es)) i_274_313 rfl ?_
        refine x0 (r := (316, [some (.ref 143), some (.int (zI wy)), some (.int (zI mv)), some (.int (zI sl)), some (.int (zI se)), some (.int (zI b)), some (.int (zI n)), some (.int (zI al)), some (.int (zI c)), some (.int (zI t)), some (.int (zI kd)), some (.int (zI fi)), some (.int (zI ra)), some (.int (zI (r % 3)))], [.int (zI 1), .int (zI ra)], es)) i_274_315 (by rfl) ?_
        refine x_isub i_274_316 ?_
        refine x0 (r := (324, [some (.ref 143), some (.int (zI wy)), some (.int (zI mv)), some (.int (zI sl)), some (.int (zI se)), some (.int (zI b)), some (.int (zI n)), some (.int (zI al)), some (.int (zI c)), some (.int (zI t)), some (.int (zI kd)), some (.int (zI fi)), some (.int (zI ra)), some (.int (zI (r % 3)))], [.int (zI (ra - 1))], es)) i_274_317 rfl ?_
        refine x0 (r := (326, [some (.ref 143), some (.int (zI wy)), some (.int (zI mv)), some (.int (zI sl)), some (.int (zI se)), some (.int (zI b)), some (.int (zI n)), some (.int (zI al)), some (.int (zI c)), some (.int (zI t)), some (.int (zI kd)), some (.int (zI fi)), some (.int (zI (ra - 1))), some (.int (zI (r % 3)))], [], es)) i_274_324 rfl ?_
        exact K2 c1 c2 c3
    · refine x_cmpF i_274_282 (by unfold i32 iLO iHI; omega) (by unfold i32 iLO iHI; omega) rfl (by simp only [zC, cR]; omega) ?_
      refine x0 (r := (287, [some (.ref 143), some (.int (zI wy)), some (.int (zI mv)), some (.int (zI sl)), some (.int (zI se)), some (.int (zI b)), some (.int (zI n)), some (.int (zI al)), some (.int (zI c)), some (.int (zI t)), some (.int (zI kd)), some (.int (zI fi)), some (.int (zI ra)), some (.int (zI (r % 3)))], [.int (zI fi)], es)) i_274_285 rfl ?_
      refine x0 (r := (288, [some (.ref 143), some (.int (zI wy)), some (.int (zI mv)), some (.int (zI sl)), some (.int (zI se)), some (.int (zI b)), some (.int (zI n)), some (.int (zI al)), some (.int (zI c)), some (.int (zI t)), some (.int (zI kd)), some (.int (zI fi)), some (.int (zI ra)), some (.int (zI (r % 3)))], [.int (zI 5), .int (zI fi)], es)) i_274_287 (by rfl) ?_
      by_cases c4 : fi ≠ 5
      · refine x_cmpT i_274_288 (by unfold i32 iLO iHI; omega) (by unfold i32 iLO iHI; omega) rfl (by simp only [zC, cR]; omega) ?_
        refine x0 (r := (300, [some (.ref 143), some (.int (zI wy)), some (.int (zI mv)), some (.int (zI sl)), some (.int (zI se)), some (.int (zI b)), some (.int (zI n)), some (.int (zI al)), some (.int (zI c)), some (.int (zI t)), some (.int (zI kd)), some (.int (zI fi)), some (.int (zI ra)), some (.int (zI (r % 3)))], [.int (zI fi)], es)) i_274_298 rfl ?_
        refine x0 (r := (301, [some (.ref 143), some (.int (zI wy)), some (.int (zI mv)), some (.int (zI sl)), some (.int (zI se)), some (.int (zI b)), some (.int (zI n)), some (.int (zI al)), some (.int (zI c)), some (.int (zI t)), some (.int (zI kd)), some (.int (zI fi)), some (.int (zI ra)), some (.int (zI (r % 3)))], [.int (zI 1), .int (zI fi)], es)) i_274_300 (by rfl) ?_
        refine x_iadd i_274_301 ?_
        refine x0 (r := (304, [some (.ref 143), some (.int (zI wy)), some (.int (zI mv)), some (.int (zI sl)), some (.int (zI se)), some (.int (zI b)), some (.int (zI n)), some (.int (zI al)), some (.int (zI c)), some (.int (zI t)), some (.int (zI kd)), some (.int (zI (fi + 1))), some (.int (zI ra)), some (.int (zI (r % 3)))], [], es)) i_274_302 rfl ?_
        refine x0 (r := (326, [some (.ref 143), some (.int (zI wy)), some (.int (zI mv)), some (.int (zI sl)), some (.int (zI se)), some (.int (zI b)), some (.int (zI n)), some (.int (zI al)), some (.int (zI c)), some (.int (zI t)), some (.int (zI kd)), some (.int (zI (fi + 1))), some (.int (zI ra)), some (.int (zI (r % 3)))], [], es)) i_274_304 rfl ?_
        exact K3 c1 c2 c4
      · refine x_cmpF i_274_288 (by unfold i32 iLO iHI; omega) (by unfold i32 iLO iHI; omega) rfl (by simp only [zC, cR]; omega) ?_
        refine x0 (r := (293, [some (.ref 143), some (.int (zI wy)), some (.int (zI mv)), some (.int (zI sl)), some (.int (zI se)), some (.int (zI b)), some (.int (zI n)), some (.int (zI al)), some (.int (zI c)), some (.int (zI t)), some (.int (zI kd)), some (.int (zI fi)), some (.int (zI ra)), some (.int (zI (r % 3)))], [.int (zI fi)], es)) i_274_291 rfl ?_
        refine x0 (r := (294, [some (.ref 143), some (.int (zI wy)), some (.int (zI mv)), some (.int (zI sl)), some (.int (zI se)), some (.int (zI b)), some (.int (zI n)), some (.int (zI al)), some (.int (zI c)), some (.int (zI t)), some (.int (zI kd)), some (.int (zI fi)), some (.int (zI ra)), some (.int (zI (r % 3)))], [.int (zI 1), .int (zI fi)], es)) i_274_293 (by rfl) ?_
        refine x_isub i_274_294 ?_
        refine x0 (r := (302, [some (.ref 143), some (.int (zI wy)), some (.int (zI mv)), some (.int (zI sl)), some (.int (zI se)), some (.int (zI b)), some (.int (zI n)), some (.int (zI al)), some (.int (zI c)), some (.int (zI t)), some (.int (zI kd)), some (.int (zI fi)), some (.int (zI ra)), some (.int (zI (r % 3)))], [.int (zI (fi - 1))], es)) i_274_295 rfl ?_
        refine x0 (r := (304, [some (.ref 143), some (.int (zI wy)), some (.int (zI mv)), some (.int (zI sl)), some (.int (zI se)), some (.int (zI b)), some (.int (zI n)), some (.int (zI al)), some (.int (zI c)), some (.int (zI t)), some (.int (zI kd)), some (.int (zI (fi - 1))), some (.int (zI ra)), some (.int (zI (r % 3)))], [], es)) i_274_302 rfl ?_
        refine x0 (r := (326, [some (.ref 143), some (.int (zI wy)), some (.int (zI mv)), some (.int (zI sl)), some (.int (zI se)), some (.int (zI b)), some (.int (zI n)), some (.int (zI al)), some (.int (zI c)), some (.int (zI t)), some (.int (zI kd)), some (.int (zI (fi - 1))), some (.int (zI ra)), some (.int (zI (r % 3)))], [], es)) i_274_304 rfl ?_
        exact K4 c1 c2 c4
  · refine x_ifF i_274_260 (by unfold i32 iLO iHI; omega) rfl (by simp only [zC, cR]; omega) ?_
    refine x0 (r := (265, [some (.ref 143), some (.int (zI wy)), some (.int (zI mv)), some (.int (zI sl)), some (.int (zI se)), some (.int (zI b)), some (.int (zI n)), some (.int (zI al)), some (.int (zI c)), some (.int (zI t)), some (.int (zI kd)), some (.int (zI fi)), some (.int (zI ra)), some (.int (zI (r % 3)))], [.int (zI kd)], es)) i_274_263 rfl ?_
    refine x0 (r := (266, [some (.ref 143), some (.int (zI wy)), some (.int (zI mv)), some (.int (zI sl)), some (.int (zI se)), some (.int (zI b)), some (.int (zI n)), some (.int (zI al)), some (.int (zI c)), some (.int (zI t)), some (.int (zI kd)), some (.int (zI fi)), some (.int (zI ra)), some (.int (zI (r % 3)))], [.int (zI 1), .int (zI kd)], es)) i_274_265 (by rfl) ?_
    refine x_iadd i_274_266 ?_
    refine x0 (r := (268, [some (.ref 143), some (.int (zI wy)), some (.int (zI mv)), some (.int (zI sl)), some (.int (zI se)), some (.int (zI b)), some (.int (zI n)), some (.int (zI al)), some (.int (zI c)), some (.int (zI t)), some (.int (zI kd)), some (.int (zI fi)), some (.int (zI ra)), some (.int (zI (r % 3)))], [.ref 143, .int (zI (kd + 1))], es)) i_274_267 rfl ?_
    refine x_getr (p := 79) (k := 144) i_274_268 hs_es rfl rfl ?_
    show aW _ _ _ _ _ _ (271, [some (.ref 143), some (.int (zI wy)), some (.int (zI mv)), some (.int (zI sl)), some (.int (zI se)), some (.int (zI b)), some (.int (zI n)), some (.int (zI al)), some (.int (zI c)), some (.int (zI t)), some (.int (zI kd)), some (.int (zI fi)), some (.int (zI ra)), some (.int (zI (r % 3)))], [.ref 144, .int (zI (kd + 1))], es)
    refine x0 (r := (272, [some (.ref 143), some (.int (zI wy)), some (.int (zI mv)), some (.int (zI sl)), some (.int (zI se)), some (.int (zI b)), some (.int (zI n)), some (.int (zI al)), some (.int (zI c)), some (.int (zI t)), some (.int (zI kd)), some (.int (zI fi)), some (.int (zI ra)), some (.int (zI (r % 3)))], [.int (zI 0), .ref 144, .int (zI (kd + 1))], es)) i_274_271 (by rfl) ?_
    refine x_iald (p := 80) i_274_272 hs_es rfl (by unfold i32 iLO iHI; omega) (by omega) (by omega) ?_
    obtain ⟨v5, e_v5⟩ : ∃ z : Int, z = (gA es 80 (Int.toNat 0)).toInt := ⟨_, rfl⟩
    rw [← e_v5]
    have r_v5 : iLO ≤ v5 ∧ v5 ≤ iHI := by rw [e_v5]; exact i32_rng _
    unfold iLO iHI at r_v5
    refine x_iremn i_274_273 (by omega) (by unfold i32 iLO iHI; omega) (by unfold i32 iLO iHI; omega) (by omega) ?_
    refine x0 (r := (276, [some (.ref 143), some (.int (zI wy)), some (.int (zI mv)), some (.int (zI sl)), some (.int (zI se)), some (.int (zI b)), some (.int (zI n)), some (.int (zI al)), some (.int (zI c)), some (.int (zI t)), some (.int (zI ((kd + 1) % v5))), some (.int (zI fi)), some (.int (zI ra)), some (.int (zI (r % 3)))], [], es)) i_274_274 rfl ?_
    refine x0 (r := (326, [some (.ref 143), some (.int (zI wy)), some (.int (zI mv)), some (.int (zI sl)), some (.int (zI se)), some (.int (zI b)), some (.int (zI n)), some (.int (zI al)), some (.int (zI c)), some (.int (zI t)), some (.int (zI ((kd + 1) % v5))), some (.int (zI fi)), some (.int (zI ra)), some (.int (zI (r % 3)))], [], es)) i_274_276 rfl ?_
    exact K5 c1 v5 e_v5
theorem s_mw326 {O : pOut} {d kc ks : Nat} {Q : pRes → Prop} {es : PH} {wy mv sl se b n al c t kd fi ra : Int} {x13 : Option Value} (hs_es : sh es) (h1 : 0 ≤ wy ∧ wy ≤ 1) (h2 : 1 ≤ mv ∧ mv ≤ 24) (h3 : 0 ≤ sl ∧ sl ≤ 9) (h4 : 0 ≤ b ∧ b ≤ 2) (h5 : 0 ≤ n ∧ n ≤ 24) (h5b : n ≤ 23) (h6 : 1 ≤ al ∧ al ≤ 1296) (h7 : 0 ≤ c ∧ c ≤ 1295) (h8 : 0 ≤ kd ∧ kd ≤ 4) (h9 : 0 ≤ fi ∧ fi ≤ 5) (h10 : 0 ≤ ra ∧ ra ≤ 5) (h11 : 0 ≤ t ∧ t ≤ 35) (hc : 0 ≤ (gA es 80 ((119 + (98 * b)) + 1).toNat).toInt ∧ (gA es 80 ((119 + (98 * b)) + 1).toNat).toInt ≤ 23)
    (K1 : ∀ v1 : Int, v1 = (gA es 80 ((119 + (98 * b)) + 1).toNat).toInt → ∀ es2 : PH, es2 = sA es 80 (((119 + (98 * b)) + 2) + (4 * v1)).toNat (zI kd) → ∀ es3 : PH, es3 = sA es2 80 ((((119 + (98 * b)) + 2) + (4 * v1)) + 1).toNat (zI (-1)) → ∀ es4 : PH, es4 = sA es3 80 ((((119 + (98 * b)) + 2) + (4 * v1)) + 2).toNat (zI fi) → ∀ es5 : PH, es5 = sA es4 80 ((((119 + (98 * b)) + 2) + (4 * v1)) + 3).toNat (zI ra) → ∀ v6 : Int, v6 = (gA es5 80 ((119 + (98 * b)) + 1).toNat).toInt → ∀ es7 : PH, es7 = sA es5 80 ((119 + (98 * b)) + 1).toNat (zI (v6 + 1)) → ∀ v8 : Int, v8 = (gA es7 80 ((119 + (98 * b)) + 1).toNat).toInt → aW O (d + 3) 274 kc ks Q (345, [some (.ref 143), some (.int (zI wy)), some (.int (zI mv)), some (.int (zI sl)), some (.int (zI se)), some (.int (zI b)), some (.int (zI n)), some (.int (zI al)), some (.int (zI c)), some (.int (zI t)), some (.int (zI kd)), some (.int (zI fi)), some (.int (zI ra)), x13], [.int (zI c), .int (zI n), .ref 143], es7)) :
    aW O (d + 3) 274 kc ks Q (326, [some (.ref 143), some (.int (zI wy)), some (.int (zI mv)), some (.int (zI sl)), some (.int (zI se)), some (.int (zI b)), some (.int (zI n)), some (.int (zI al)), some (.int (zI c)), some (.int (zI t)), some (.int (zI kd)), some (.int (zI fi)), some (.int (zI ra)), x13], [], es) := by
  refine x0 (r := (327, [some (.ref 143), some (.int (zI wy)), some (.int (zI mv)), some (.int (zI sl)), some (.int (zI se)), some (.int (zI b)), some (.int (zI n)), some (.int (zI al)), some (.int (zI c)), some (.int (zI t)), some (.int (zI kd)), some (.int (zI fi)), some (.int (zI ra)), x13], [.ref 143], es)) i_274_326 rfl ?_
  refine x0 (r := (329, [some (.ref 143), some (.int (zI wy)), some (.int (zI mv)), some (.int (zI sl)), some (.int (zI se)), some (.int (zI b)), some (.int (zI n)), some (.int (zI al)), some (.int (zI c)), some (.int (zI t)), some (.int (zI kd)), some (.int (zI fi)), some (.int (zI ra)), x13], [.int (zI b), .ref 143], es)) i_274_327 rfl ?_
  refine x0 (r := (331, [some (.ref 143), some (.int (zI wy)), some (.int (zI mv)), some (.int (zI sl)), some (.int (zI se)), some (.int (zI b)), some (.int (zI n)), some (.int (zI al)), some (.int (zI c)), some (.int (zI t)), some (.int (zI kd)), some (.int (zI fi)), some (.int (zI ra)), x13], [.int (zI kd), .int (zI b), .ref 143], es)) i_274_329 rfl ?_
  refine x0 (r := (332, [some (.ref 143), some (.int (zI wy)), some (.int (zI mv)), some (.int (zI sl)), some (.int (zI se)), some (.int (zI b)), some (.int (zI n)), some (.int (zI al)), some (.int (zI c)), some (.int (zI t)), some (.int (zI kd)), some (.int (zI fi)), some (.int (zI ra)), x13], [.int (zI (-1)), .int (zI kd), .int (zI b), .ref 143], es)) i_274_331 (by rfl) ?_
  refine x0 (r := (334, [some (.ref 143), some (.int (zI wy)), some (.int (zI mv)), some (.int (zI sl)), some (.int (zI se)), some (.int (zI b)), some (.int (zI n)), some (.int (zI al)), some (.int (zI c)), some (.int (zI t)), some (.int (zI kd)), some (.int (zI fi)), some (.int (zI ra)), x13], [.int (zI fi), .int (zI (-1)), .int (zI kd), .int (zI b), .ref 143], es)) i_274_332 rfl ?_
  refine x0 (r := (336, [some (.ref 143), some (.int (zI wy)), some (.int (zI mv)), some (.int (zI sl)), some (.int (zI se)), some (.int (zI b)), some (.int (zI n)), some (.int (zI al)), some (.int (zI c)), some (.int (zI t)), some (.int (zI kd)), some (.int (zI fi)), some (.int (zI ra)), x13], [.int (zI ra), .int (zI fi), .int (zI (-1)), .int (zI kd), .int (zI b), .ref 143], es)) i_274_334 rfl ?_
  refine x_call (vs := [.ref 143, .int (zI b), .int (zI kd), .int (zI (-1)), .int (zI fi), .int (zI ra)]) (rs := []) i_274_336 rfl (fun _ => rfl) rfl rfl rfl rfl rfl (pCall_v (p := 79) hs_es rfl rfl rfl rfl rfl (by decide) rfl rfl rfl rfl rfl) ?_
  show aW _ _ _ _ _ _ (0, [some (.ref 143), some (.int (zI b)), some (.int (zI kd)), some (.int (zI (-1))), some (.int (zI fi)), some (.int (zI ra))], [], es)
  refine x0 (r := (1, [some (.ref 143), some (.int (zI b)), some (.int (zI kd)), some (.int (zI (-1))), some (.int (zI fi)), some (.int (zI ra))], [.ref 143], es)) i_207_0 rfl ?_
  refine x0 (r := (2, [some (.ref 143), some (.int (zI b)), some (.int (zI kd)), some (.int (zI (-1))), some (.int (zI fi)), some (.int (zI ra))], [.int (zI b), .ref 143], es)) i_207_1 rfl ?_
  refine x0 (r := (3, [some (.ref 143), some (.int (zI b)), some (.int (zI kd)), some (.int (zI (-1))), some (.int (zI fi)), some (.int (zI ra))], [.ref 143, .int (zI b), .ref 143], es)) i_207_2 rfl ?_
  refine x0 (r := (4, [some (.ref 143), some (.int (zI b)), some (.int (zI kd)), some (.int (zI (-1))), some (.int (zI fi)), some (.int (zI ra))], [.int (zI b), .ref 143, .int (zI b), .ref 143], es)) i_207_3 rfl ?_
  refine x_call (vs := [.ref 143, .int (zI b)]) (rs := [.int (zI b), .ref 143]) i_207_4 rfl (fun _ => rfl) rfl rfl rfl rfl rfl (pCall_v (p := 79) hs_es rfl rfl rfl rfl rfl (by decide) rfl rfl rfl rfl rfl) ?_
  show aW _ _ _ _ _ _ (0, [some (.ref 143), some (.int (zI b))], [], es)
  refine x0 (r := (1, [some (.ref 143), some (.int (zI b))], [.ref 143], es)) i_205_0 rfl ?_
  refine x0 (r := (2, [some (.ref 143), some (.int (zI b))], [.int (zI b), .ref 143], es)) i_205_1 rfl ?_
  refine x0 (r := (3, [some (.ref 143), some (.int (zI b))], [.int (zI 1), .int (zI b), .ref 143], es)) i_205_2 (by rfl) ?_
  refine x_call (vs := [.ref 143, .int (zI b), .int (zI 1)]) (rs := []) i_205_3 rfl (fun _ => rfl) rfl rfl rfl rfl rfl (pCall_v (p := 79) hs_es rfl rfl rfl rfl rfl (by decide) rfl rfl rfl rfl rfl) ?_
  show aW _ _ _ _ _ _ (0, [some (.ref 143), some (.int (zI b)), some (.int (zI 1))], [], es)
  refine x0 (r := (1, [some (.ref 143), some (.int (zI b)), some (.int (zI 1))], [.ref 143], es)) i_206_0 rfl ?_
  refine x_getr (p := 79) (k := 144) i_206_1 hs_es rfl rfl ?_
  show aW _ _ _ _ _ _ (4, [some (.ref 143), some (.int (zI b)), some (.int (zI 1))], [.ref 144], es)
  refine x0 (r := (6, [some (.ref 143), some (.int (zI b)), some (.int (zI 1))], [.int (zI 119), .ref 144], es)) i_206_4 (by rfl) ?_
  refine x0 (r := (8, [some (.ref 143), some (.int (zI b)), some (.int (zI 1))], [.int (zI 98), .int (zI 119), .ref 144], es)) i_206_6 (by rfl) ?_
  refine x0 (r := (9, [some (.ref 143), some (.int (zI b)), some (.int (zI 1))], [.int (zI b), .int (zI 98), .int (zI 119), .ref 144], es)) i_206_8 rfl ?_
  refine x_imul i_206_9 ?_
  refine x_iadd i_206_10 ?_
  refine x0 (r := (12, [some (.ref 143), some (.int (zI b)), some (.int (zI 1))], [.int (zI 1), .int (zI (119 + (98 * b))), .ref 144], es)) i_206_11 rfl ?_
  refine x_iadd i_206_12 ?_
  refine x_iald (p := 80) i_206_13 hs_es rfl (by unfold i32 iLO iHI; omega) (by omega) (by omega) ?_
  obtain ⟨v1, e_v1⟩ : ∃ z : Int, z = (gA es 80 ((119 + (98 * b)) + 1).toNat).toInt := ⟨_, rfl⟩
  rw [← e_v1]
  have r_v1 : iLO ≤ v1 ∧ v1 ≤ iHI := by rw [e_v1]; exact i32_rng _
  unfold iLO iHI at r_v1
  refine x_ret (v := some (.int (zI v1))) i_206_14 rfl (fun _ => rfl) rfl rfl rfl ?_
  show aW _ _ _ _ _ _ (6, [some (.ref 143), some (.int (zI b))], [.int (zI v1)], es)
  refine x_ret (v := some (.int (zI v1))) i_205_6 rfl (fun _ => rfl) rfl rfl rfl ?_
  show aW _ _ _ _ _ _ (7, [some (.ref 143), some (.int (zI b)), some (.int (zI kd)), some (.int (zI (-1))), some (.int (zI fi)), some (.int (zI ra))], [.int (zI v1), .int (zI b), .ref 143], es)
  refine x0 (r := (8, [some (.ref 143), some (.int (zI b)), some (.int (zI kd)), some (.int (zI (-1))), some (.int (zI fi)), some (.int (zI ra))], [.int (zI kd), .int (zI v1), .int (zI b), .ref 143], es)) i_207_7 rfl ?_
  refine x0 (r := (9, [some (.ref 143), some (.int (zI b)), some (.int (zI kd)), some (.int (zI (-1))), some (.int (zI fi)), some (.int (zI ra))], [.int (zI (-1)), .int (zI kd), .int (zI v1), .int (zI b), .ref 143], es)) i_207_8 rfl ?_
  refine x0 (r := (11, [some (.ref 143), some (.int (zI b)), some (.int (zI kd)), some (.int (zI (-1))), some (.int (zI fi)), some (.int (zI ra))], [.int (zI fi), .int (zI (-1)), .int (zI kd), .int (zI v1), .int (zI b), .ref 143], es)) i_207_9 rfl ?_
  refine x0 (r := (13, [some (.ref 143), some (.int (zI b)), some (.int (zI kd)), some (.int (zI (-1))), some (.int (zI fi)), some (.int (zI ra))], [.int (zI ra), .int (zI fi), .int (zI (-1)), .int (zI kd), .int (zI v1), .int (zI b), .ref 143], es)) i_207_11 rfl ?_
  refine x_call (vs := [.ref 143, .int (zI b), .int (zI v1), .int (zI kd), .int (zI (-1)), .int (zI fi), .int (zI ra)]) (rs := []) i_207_13 rfl (fun _ => rfl) rfl rfl rfl rfl rfl (pCall_v (p := 79) hs_es rfl rfl rfl rfl rfl (by decide) rfl rfl rfl rfl rfl) ?_
  show aW _ _ _ _ _ _ (0, [some (.ref 143), some (.int (zI b)), some (.int (zI v1)), some (.int (zI kd)), some (.int (zI (-1))), some (.int (zI fi)), some (.int (zI ra)), none], [], es)
  refine x0 (r := (2, [some (.ref 143), some (.int (zI b)), some (.int (zI v1)), some (.int (zI kd)), some (.int (zI (-1))), some (.int (zI fi)), some (.int (zI ra)), none], [.int (zI 119)], es)) i_208_0 (by rfl) ?_
  refine x0 (r := (4, [some (.ref 143), some (.int (zI b)), some (.int (zI v1)), some (.int (zI kd)), some (.int (zI (-1))), some (.int (zI fi)), some (.int (zI ra)), none], [.int (zI 98), .int (zI 119)], es)) i_208_2 (by rfl) ?_
  refine x0 (r := (5, [some (.ref 143), some (.int (zI b)), some (.int (zI v1)), some (.int (zI kd)), some (.int (zI (-1))), some (.int (zI fi)), some (.int (zI ra)), none], [.int (zI b), .int (zI 98), .int (zI 119)], es)) i_208_4 rfl ?_
  refine x_imul i_208_5 ?_
  refine x_iadd i_208_6 ?_
  refine x0 (r := (8, [some (.ref 143), some (.int (zI b)), some (.int (zI v1)), some (.int (zI kd)), some (.int (zI (-1))), some (.int (zI fi)), some (.int (zI ra)), none], [.int (zI 2), .int (zI (119 + (98 * b)))], es)) i_208_7 (by rfl) ?_
  refine x_iadd i_208_8 ?_
  refine x0 (r := (10, [some (.ref 143), some (.int (zI b)), some (.int (zI v1)), some (.int (zI kd)), some (.int (zI (-1))), some (.int (zI fi)), some (.int (zI ra)), none], [.int (zI 4), .int (zI ((119 + (98 * b)) + 2))], es)) i_208_9 (by rfl) ?_
  refine x0 (r := (11, [some (.ref 143), some (.int (zI b)), some (.int (zI v1)), some (.int (zI kd)), some (.int (zI (-1))), some (.int (zI fi)), some (.int (zI ra)), none], [.int (zI v1), .int (zI 4), .int (zI ((119 + (98 * b)) + 2))], es)) i_208_10 rfl ?_
  refine x_imul i_208_11 ?_
  refine x_iadd i_208_12 ?_
  refine x0 (r := (15, [some (.ref 143), some (.int (zI b)), some (.int (zI v1)), some (.int (zI kd)), some (.int (zI (-1))), some (.int (zI fi)), some (.int (zI ra)), some (.int (zI (((119 + (98 * b)) + 2) + (4 * v1))))], [], es)) i_208_13 rfl ?_
  refine x0 (r := (16, [some (.ref 143), some (.int (zI b)), some (.int (zI v1)), some (.int (zI kd)), some (.int (zI (-1))), some (.int (zI fi)), some (.int (zI ra)), some (.int (zI (((119 + (98 * b)) + 2) + (4 * v1))))], [.ref 143], es)) i_208_15 rfl ?_
  refine x_getr (p := 79) (k := 144) i_208_16 hs_es rfl rfl ?_
  show aW _ _ _ _ _ _ (19, [some (.ref 143), some (.int (zI b)), some (.int (zI v1)), some (.int (zI kd)), some (.int (zI (-1))), some (.int (zI fi)), some (.int (zI ra)), some (.int (zI (((119 + (98 * b)) + 2) + (4 * v1))))], [.ref 144], es)
  refine x0 (r := (21, [some (.ref 143), some (.int (zI b)), some (.int (zI v1)), some (.int (zI kd)), some (.int (zI (-1))), some (.int (zI fi)), some (.int (zI ra)), some (.int (zI (((119 + (98 * b)) + 2) + (4 * v1))))], [.int (zI (((119 + (98 * b)) + 2) + (4 * v1))), .ref 144], es)) i_208_19 rfl ?_
  refine x0 (r := (22, [some (.ref 143), some (.int (zI b)), some (.int (zI v1)), some (.int (zI kd)), some (.int (zI (-1))), some (.int (zI fi)), some (.int (zI ra)), some (.int (zI (((119 + (98 * b)) + 2) + (4 * v1))))], [.int (zI kd), .int (zI (((119 + (98 * b)) + 2) + (4 * v1))), .ref 144], es)) i_208_21 rfl ?_
  refine x_iast (p := 80) i_208_22 hs_es rfl (by unfold i32 iLO iHI; omega) (by omega) (by omega) ?_
  obtain ⟨es2, e_es2⟩ : ∃ z : PH, z = sA es 80 (((119 + (98 * b)) + 2) + (4 * v1)).toNat (zI kd) := ⟨_, rfl⟩
  have hs_es2 : sh es2 := by rw [e_es2]; exact sh_sA hs_es
  rw [← e_es2]
  refine x0 (r := (24, [some (.ref 143), some (.int (zI b)), some (.int (zI v1)), some (.int (zI kd)), some (.int (zI (-1))), some (.int (zI fi)), some (.int (zI ra)), some (.int (zI (((119 + (98 * b)) + 2) + (4 * v1))))], [.ref 143], es2)) i_208_23 rfl ?_
  refine x_getr (p := 79) (k := 144) i_208_24 hs_es2 rfl rfl ?_
  show aW _ _ _ _ _ _ (27, [some (.ref 143), some (.int (zI b)), some (.int (zI v1)), some (.int (zI kd)), some (.int (zI (-1))), some (.int (zI fi)), some (.int (zI ra)), some (.int (zI (((119 + (98 * b)) + 2) + (4 * v1))))], [.ref 144], es2)
  refine x0 (r := (29, [some (.ref 143), some (.int (zI b)), some (.int (zI v1)), some (.int (zI kd)), some (.int (zI (-1))), some (.int (zI fi)), some (.int (zI ra)), some (.int (zI (((119 + (98 * b)) + 2) + (4 * v1))))], [.int (zI (((119 + (98 * b)) + 2) + (4 * v1))), .ref 144], es2)) i_208_27 rfl ?_
  refine x0 (r := (30, [some (.ref 143), some (.int (zI b)), some (.int (zI v1)), some (.int (zI kd)), some (.int (zI (-1))), some (.int (zI fi)), some (.int (zI ra)), some (.int (zI (((119 + (98 * b)) + 2) + (4 * v1))))], [.int (zI 1), .int (zI (((119 + (98 * b)) + 2) + (4 * v1))), .ref 144], es2)) i_208_29 (by rfl) ?_
  refine x_iadd i_208_30 ?_
  refine x0 (r := (33, [some (.ref 143), some (.int (zI b)), some (.int (zI v1)), some (.int (zI kd)), some (.int (zI (-1))), some (.int (zI fi)), some (.int (zI ra)), some (.int (zI (((119 + (98 * b)) + 2) + (4 * v1))))], [.int (zI (-1)), .int (zI ((((119 + (98 * b)) + 2) + (4 * v1)) + 1)), .ref 144], es2)) i_208_31 rfl ?_
  refine x_iast (p := 80) i_208_33 hs_es2 rfl (by unfold i32 iLO iHI; omega) (by omega) (by omega) ?_
  obtain ⟨es3, e_es3⟩ : ∃ z : PH, z = sA es2 80 ((((119 + (98 * b)) + 2) + (4 * v1)) + 1).toNat (zI (-1)) := ⟨_, rfl⟩
  have hs_es3 : sh es3 := by rw [e_es3]; exact sh_sA hs_es2
  rw [← e_es3]
  refine x0 (r := (35, [some (.ref 143), some (.int (zI b)), some (.int (zI v1)), some (.int (zI kd)), some (.int (zI (-1))), some (.int (zI fi)), some (.int (zI ra)), some (.int (zI (((119 + (98 * b)) + 2) + (4 * v1))))], [.ref 143], es3)) i_208_34 rfl ?_
  refine x_getr (p := 79) (k := 144) i_208_35 hs_es3 rfl rfl ?_
  show aW _ _ _ _ _ _ (38, [some (.ref 143), some (.int (zI b)), some (.int (zI v1)), some (.int (zI kd)), some (.int (zI (-1))), some (.int (zI fi)), some (.int (zI ra)), some (.int (zI (((119 + (98 * b)) + 2) + (4 * v1))))], [.ref 144], es3)
  refine x0 (r := (40, [some (.ref 143), some (.int (zI b)), some (.int (zI v1)), some (.int (zI kd)), some (.int (zI (-1))), some (.int (zI fi)), some (.int (zI ra)), some (.int (zI (((119 + (98 * b)) + 2) + (4 * v1))))], [.int (zI (((119 + (98 * b)) + 2) + (4 * v1))), .ref 144], es3)) i_208_38 rfl ?_
  refine x0 (r := (41, [some (.ref 143), some (.int (zI b)), some (.int (zI v1)), some (.int (zI kd)), some (.int (zI (-1))), some (.int (zI fi)), some (.int (zI ra)), some (.int (zI (((119 + (98 * b)) + 2) + (4 * v1))))], [.int (zI 2), .int (zI (((119 + (98 * b)) + 2) + (4 * v1))), .ref 144], es3)) i_208_40 (by rfl) ?_
  refine x_iadd i_208_41 ?_
  refine x0 (r := (44, [some (.ref 143), some (.int (zI b)), some (.int (zI v1)), some (.int (zI kd)), some (.int (zI (-1))), some (.int (zI fi)), some (.int (zI ra)), some (.int (zI (((119 + (98 * b)) + 2) + (4 * v1))))], [.int (zI fi), .int (zI ((((119 + (98 * b)) + 2) + (4 * v1)) + 2)), .ref 144], es3)) i_208_42 rfl ?_
  refine x_iast (p := 80) i_208_44 hs_es3 rfl (by unfold i32 iLO iHI; omega) (by omega) (by omega) ?_
  obtain ⟨es4, e_es4⟩ : ∃ z : PH, z = sA es3 80 ((((119 + (98 * b)) + 2) + (4 * v1)) + 2).toNat (zI fi) := ⟨_, rfl⟩
  have hs_es4 : sh es4 := by rw [e_es4]; exact sh_sA hs_es3
  rw [← e_es4]
  refine x0 (r := (46, [some (.ref 143), some (.int (zI b)), some (.int (zI v1)), some (.int (zI kd)), some (.int (zI (-1))), some (.int (zI fi)), some (.int (zI ra)), some (.int (zI (((119 + (98 * b)) + 2) + (4 * v1))))], [.ref 143], es4)) i_208_45 rfl ?_
  refine x_getr (p := 79) (k := 144) i_208_46 hs_es4 rfl rfl ?_
  show aW _ _ _ _ _ _ (49, [some (.ref 143), some (.int (zI b)), some (.int (zI v1)), some (.int (zI kd)), some (.int (zI (-1))), some (.int (zI fi)), some (.int (zI ra)), some (.int (zI (((119 + (98 * b)) + 2) + (4 * v1))))], [.ref 144], es4)
  refine x0 (r := (51, [some (.ref 143), some (.int (zI b)), some (.int (zI v1)), some (.int (zI kd)), some (.int (zI (-1))), some (.int (zI fi)), some (.int (zI ra)), some (.int (zI (((119 + (98 * b)) + 2) + (4 * v1))))], [.int (zI (((119 + (98 * b)) + 2) + (4 * v1))), .ref 144], es4)) i_208_49 rfl ?_
  refine x0 (r := (52, [some (.ref 143), some (.int (zI b)), some (.int (zI v1)), some (.int (zI kd)), some (.int (zI (-1))), some (.int (zI fi)), some (.int (zI ra)), some (.int (zI (((119 + (98 * b)) + 2) + (4 * v1))))], [.int (zI 3), .int (zI (((119 + (98 * b)) + 2) + (4 * v1))), .ref 144], es4)) i_208_51 (by rfl) ?_
  refine x_iadd i_208_52 ?_
  refine x0 (r := (55, [some (.ref 143), some (.int (zI b)), some (.int (zI v1)), some (.int (zI kd)), some (.int (zI (-1))), some (.int (zI fi)), some (.int (zI ra)), some (.int (zI (((119 + (98 * b)) + 2) + (4 * v1))))], [.int (zI ra), .int (zI ((((119 + (98 * b)) + 2) + (4 * v1)) + 3)), .ref 144], es4)) i_208_53 rfl ?_
  refine x_iast (p := 80) i_208_55 hs_es4 rfl (by unfold i32 iLO iHI; omega) (by omega) (by omega) ?_
  obtain ⟨es5, e_es5⟩ : ∃ z : PH, z = sA es4 80 ((((119 + (98 * b)) + 2) + (4 * v1)) + 3).toNat (zI ra) := ⟨_, rfl⟩
  have hs_es5 : sh es5 := by rw [e_es5]; exact sh_sA hs_es4
  rw [← e_es5]
  refine x_ret (v := none) i_208_56 rfl (fun _ => rfl) rfl rfl rfl ?_
  show aW _ _ _ _ _ _ (16, [some (.ref 143), some (.int (zI b)), some (.int (zI kd)), some (.int (zI (-1))), some (.int (zI fi)), some (.int (zI ra))], [], es5)
  refine x0 (r := (17, [some (.ref 143), some (.int (zI b)), some (.int (zI kd)), some (.int (zI (-1))), some (.int (zI fi)), some (.int (zI ra))], [.ref 143], es5)) i_207_16 rfl ?_
  refine x_getr (p := 79) (k := 144) i_207_17 hs_es5 rfl rfl ?_
  show aW _ _ _ _ _ _ (20, [some (.ref 143), some (.int (zI b)), some (.int (zI kd)), some (.int (zI (-1))), some (.int (zI fi)), some (.int (zI ra))], [.ref 144], es5)
  refine x0 (r := (22, [some (.ref 143), some (.int (zI b)), some (.int (zI kd)), some (.int (zI (-1))), some (.int (zI fi)), some (.int (zI ra))], [.int (zI 119), .ref 144], es5)) i_207_20 (by rfl) ?_
  refine x0 (r := (24, [some (.ref 143), some (.int (zI b)), some (.int (zI kd)), some (.int (zI (-1))), some (.int (zI fi)), some (.int (zI ra))], [.int (zI 98), .int (zI 119), .ref 144], es5)) i_207_22 (by rfl) ?_
  refine x0 (r := (25, [some (.ref 143), some (.int (zI b)), some (.int (zI kd)), some (.int (zI (-1))), some (.int (zI fi)), some (.int (zI ra))], [.int (zI b), .int (zI 98), .int (zI 119), .ref 144], es5)) i_207_24 rfl ?_
  refine x_imul i_207_25 ?_
  refine x_iadd i_207_26 ?_
  refine x0 (r := (28, [some (.ref 143), some (.int (zI b)), some (.int (zI kd)), some (.int (zI (-1))), some (.int (zI fi)), some (.int (zI ra))], [.int (zI 1), .int (zI (119 + (98 * b))), .ref 144], es5)) i_207_27 (by rfl) ?_
  refine x_iadd i_207_28 ?_
  refine x0 (r := (30, [some (.ref 143), some (.int (zI b)), some (.int (zI kd)), some (.int (zI (-1))), some (.int (zI fi)), some (.int (zI ra))], [.int (zI ((119 + (98 * b)) + 1)), .ref 144, .int (zI ((119 + (98 * b)) + 1)), .ref 144], es5)) i_207_29 rfl ?_
  refine x_iald (p := 80) i_207_30 hs_es5 rfl (by unfold i32 iLO iHI; omega) (by omega) (by omega) ?_
  obtain ⟨v6, e_v6⟩ : ∃ z : Int, z = (gA es5 80 ((119 + (98 * b)) + 1).toNat).toInt := ⟨_, rfl⟩
  rw [← e_v6]
  have r_v6 : iLO ≤ v6 ∧ v6 ≤ iHI := by rw [e_v6]; exact i32_rng _
  unfold iLO iHI at r_v6
  refine x0 (r := (32, [some (.ref 143), some (.int (zI b)), some (.int (zI kd)), some (.int (zI (-1))), some (.int (zI fi)), some (.int (zI ra))], [.int (zI 1), .int (zI v6), .int (zI ((119 + (98 * b)) + 1)), .ref 144], es5)) i_207_31 (by rfl) ?_
  refine x_iadd i_207_32 ?_
  refine x_iast (p := 80) i_207_33 hs_es5 rfl (by unfold i32 iLO iHI; omega) (by omega) (by omega) ?_
  obtain ⟨es7, e_es7⟩ : ∃ z : PH, z = sA es5 80 ((119 + (98 * b)) + 1).toNat (zI (v6 + 1)) := ⟨_, rfl⟩
  have hs_es7 : sh es7 := by rw [e_es7]; exact sh_sA hs_es5
  rw [← e_es7]
  refine x0 (r := (35, [some (.ref 143), some (.int (zI b)), some (.int (zI kd)), some (.int (zI (-1))), some (.int (zI fi)), some (.int (zI ra))], [.ref 143], es7)) i_207_34 rfl ?_
  refine x0 (r := (36, [some (.ref 143), some (.int (zI b)), some (.int (zI kd)), some (.int (zI (-1))), some (.int (zI fi)), some (.int (zI ra))], [.int (zI b), .ref 143], es7)) i_207_35 rfl ?_
  refine x_call (vs := [.ref 143, .int (zI b)]) (rs := []) i_207_36 rfl (fun _ => rfl) rfl rfl rfl rfl rfl (pCall_v (p := 79) hs_es7 rfl rfl rfl rfl rfl (by decide) rfl rfl rfl rfl rfl) ?_
  show aW _ _ _ _ _ _ (0, [some (.ref 143), some (.int (zI b))], [], es7)
  refine x0 (r := (1, [some (.ref 143), some (.int (zI b))], [.ref 143], es7)) i_205_0 rfl ?_
  refine x0 (r := (2, [some (.ref 143), some (.int (zI b))], [.int (zI b), .ref 143], es7)) i_205_1 rfl ?_
  refine x0 (r := (3, [some (.ref 143), some (.int (zI b))], [.int (zI 1), .int (zI b), .ref 143], es7)) i_205_2 (by rfl) ?_
  refine x_call (vs := [.ref 143, .int (zI b), .int (zI 1)]) (rs := []) i_205_3 rfl (fun _ => rfl) rfl rfl rfl rfl rfl (pCall_v (p := 79) hs_es7 rfl rfl rfl rfl rfl (by decide) rfl rfl rfl rfl rfl) ?_
  show aW _ _ _ _ _ _ (0, [some (.ref 143), some (.int (zI b)), some (.int (zI 1))], [], es7)
  refine x0 (r := (1, [some (.ref 143), some (.int (zI b)), some (.int (zI 1))], [.ref 143], es7)) i_206_0 rfl ?_
  refine x_getr (p := 79) (k := 144) i_206_1 hs_es7 rfl rfl ?_
  show aW _ _ _ _ _ _ (4, [some (.ref 143), some (.int (zI b)), some (.int (zI 1))], [.ref 144], es7)
  refine x0 (r := (6, [some (.ref 143), some (.int (zI b)), some (.int (zI 1))], [.int (zI 119), .ref 144], es7)) i_206_4 (by rfl) ?_
  refine x0 (r := (8, [some (.ref 143), some (.int (zI b)), some (.int (zI 1))], [.int (zI 98), .int (zI 119), .ref 144], es7)) i_206_6 (by rfl) ?_
  refine x0 (r := (9, [some (.ref 143), some (.int (zI b)), some (.int (zI 1))], [.int (zI b), .int (zI 98), .int (zI 119), .ref 144], es7)) i_206_8 rfl ?_
  refine x_imul i_206_9 ?_
  refine x_iadd i_206_10 ?_
  refine x0 (r := (12, [some (.ref 143), some (.int (zI b)), some (.int (zI 1))], [.int (zI 1), .int (zI (119 + (98 * b))), .ref 144], es7)) i_206_11 rfl ?_
  refine x_iadd i_206_12 ?_
  refine x_iald (p := 80) i_206_13 hs_es7 rfl (by unfold i32 iLO iHI; omega) (by omega) (by omega) ?_
  obtain ⟨v8, e_v8⟩ : ∃ z : Int, z = (gA es7 80 ((119 + (98 * b)) + 1).toNat).toInt := ⟨_, rfl⟩
  rw [← e_v8]
  have r_v8 : iLO ≤ v8 ∧ v8 ≤ iHI := by rw [e_v8]; exact i32_rng _
  unfold iLO iHI at r_v8
  refine x_ret (v := some (.int (zI v8))) i_206_14 rfl (fun _ => rfl) rfl rfl rfl ?_
  show aW _ _ _ _ _ _ (6, [some (.ref 143), some (.int (zI b))], [.int (zI v8)], es7)
  refine x_ret (v := some (.int (zI v8))) i_205_6 rfl (fun _ => rfl) rfl rfl rfl ?_
  show aW _ _ _ _ _ _ (39, [some (.ref 143), some (.int (zI b)), some (.int (zI kd)), some (.int (zI (-1))), some (.int (zI fi)), some (.int (zI ra))], [.int (zI v8)], es7)
  refine x0 (r := (40, [some (.ref 143), some (.int (zI b)), some (.int (zI kd)), some (.int (zI (-1))), some (.int (zI fi)), some (.int (zI ra))], [.int (zI 1), .int (zI v8)], es7)) i_207_39 (by rfl) ?_
  refine x_isub i_207_40 ?_
  refine x_ret (v := some (.int (zI (v8 - 1)))) i_207_41 rfl (fun _ => rfl) rfl rfl rfl ?_
  show aW _ _ _ _ _ _ (339, [some (.ref 143), some (.int (zI wy)), some (.int (zI mv)), some (.int (zI sl)), some (.int (zI se)), some (.int (zI b)), some (.int (zI n)), some (.int (zI al)), some (.int (zI c)), some (.int (zI t)), some (.int (zI kd)), some (.int (zI fi)), some (.int (zI ra)), x13], [.int (zI (v8 - 1))], es7)
  refine x0 (r := (340, [some (.ref 143), some (.int (zI wy)), some (.int (zI mv)), some (.int (zI sl)), some (.int (zI se)), some (.int (zI b)), some (.int (zI n)), some (.int (zI al)), some (.int (zI c)), some (.int (zI t)), some (.int (zI kd)), some (.int (zI fi)), some (.int (zI ra)), x13], [], es7)) i_274_339 rfl ?_
  refine x0 (r := (341, [some (.ref 143), some (.int (zI wy)), some (.int (zI mv)), some (.int (zI sl)), some (.int (zI se)), some (.int (zI b)), some (.int (zI n)), some (.int (zI al)), some (.int (zI c)), some (.int (zI t)), some (.int (zI kd)), some (.int (zI fi)), some (.int (zI ra)), x13], [.ref 143], es7)) i_274_340 rfl ?_
  refine x0 (r := (343, [some (.ref 143), some (.int (zI wy)), some (.int (zI mv)), some (.int (zI sl)), some (.int (zI se)), some (.int (zI b)), some (.int (zI n)), some (.int (zI al)), some (.int (zI c)), some (.int (zI t)), some (.int (zI kd)), some (.int (zI fi)), some (.int (zI ra)), x13], [.int (zI n), .ref 143], es7)) i_274_341 rfl ?_
  refine x0 (r := (345, [some (.ref 143), some (.int (zI wy)), some (.int (zI mv)), some (.int (zI sl)), some (.int (zI se)), some (.int (zI b)), some (.int (zI n)), some (.int (zI al)), some (.int (zI c)), some (.int (zI t)), some (.int (zI kd)), some (.int (zI fi)), some (.int (zI ra)), x13], [.int (zI c), .int (zI n), .ref 143], es7)) i_274_343 rfl ?_
  exact K1 v1 e_v1 es2 e_es2 es3 e_es3 es4 e_es4 es5 e_es5 v6 e_v6 es7 e_es7 v8 e_v8
theorem s_mw348 {O : pOut} {d kc ks : Nat} {Q : pRes → Prop} {es : PH} {wy mv sl se b n al c t kd fi ra : Int} {x13 : Option Value} (hs_es : sh es) (h1 : 0 ≤ wy ∧ wy ≤ 1) (h2 : 1 ≤ mv ∧ mv ≤ 24) (h3 : 0 ≤ sl ∧ sl ≤ 9) (h4 : 0 ≤ b ∧ b ≤ 2) (h5 : 0 ≤ n ∧ n ≤ 24) (h5b : n ≤ 23) (h6 : 1 ≤ al ∧ al ≤ 1296) (h7 : 0 ≤ c ∧ c ≤ 1295) (h8 : 0 ≤ kd ∧ kd ≤ 4) (h9 : 0 ≤ fi ∧ fi ≤ 5) (h10 : 0 ≤ ra ∧ ra ≤ 5) (h11 : 0 ≤ t ∧ t ≤ 35)
    (K1 : aW O d 274 kc ks Q (133, [some (.ref 143), some (.int (zI wy)), some (.int (zI mv)), some (.int (zI sl)), some (.int (zI se)), some (.int (zI b)), some (.int (zI (n + 1))), some (.int (zI al)), some (.int (zI c)), some (.int (zI t)), some (.int (zI kd)), some (.int (zI fi)), some (.int (zI ra)), x13], [], es)) :
    aW O d 274 kc ks Q (348, [some (.ref 143), some (.int (zI wy)), some (.int (zI mv)), some (.int (zI sl)), some (.int (zI se)), some (.int (zI b)), some (.int (zI n)), some (.int (zI al)), some (.int (zI c)), some (.int (zI t)), some (.int (zI kd)), some (.int (zI fi)), some (.int (zI ra)), x13], [], es) := by
  refine x_iinc (x := n) i_274_348 rfl (by show 6 < 14; decide) ?_
  show aW _ _ _ _ _ _ (351, [some (.ref 143), some (.int (zI wy)), some (.int (zI mv)), some (.int (zI sl)), some (.int (zI se)), some (.int (zI b)), some (.int (zI (n + 1))), some (.int (zI al)), some (.int (zI c)), some (.int (zI t)), some (.int (zI kd)), some (.int (zI fi)), some (.int (zI ra)), x13], [], es)
  refine x0 (r := (133, [some (.ref 143), some (.int (zI wy)), some (.int (zI mv)), some (.int (zI sl)), some (.int (zI se)), some (.int (zI b)), some (.int (zI (n + 1))), some (.int (zI al)), some (.int (zI c)), some (.int (zI t)), some (.int (zI kd)), some (.int (zI fi)), some (.int (zI ra)), x13], [], es)) i_274_351 rfl ?_
  exact K1
/-! the NOTES that WRITE makes, of the reference -/
/-- cells of a NOTE in the world -/
def ntR (w : Nat → Int32) (b j : Nat) (x : Int × Int × Int) : Prop := (w (119 + 98 * b + 2 + 4 * j)).toInt = x.1 ∧ (w (119 + 98 * b + 3 + 4 * j)).toInt = -1 ∧ (w (119 + 98 * b + 4 + 4 * j)).toInt = x.2.1 ∧ (w (119 + 98 * b + 5 + 4 * j)).toInt = x.2.2
def wrR (w0 : Nat → Int32) (b : Nat) (l : List (Int × Int × Int)) (es : PH) : Prop := hOK tT es ∧ (gI es 79 0).toInt = 0 ∧ (∀ i, ¬ (119 + 98 * b + 1 ≤ i ∧ i < 119 + 98 * b + 98) → gA es 80 i = w0 i) ∧ (gA es 80 (119 + 98 * b + 1)).toInt = (l.length : Int) ∧ ∀ (j : Nat) (x : Int × Int × Int), l[j]? = some x → ntR (gA es 80) b j x
/-- calls that leave the world and the fault leave what is written -/
theorem wrR_c {w0 : Nat → Int32} {b : Nat} {l : List (Int × Int × Int)} {a c : PH} (h : wrR w0 b l a) (hT : hOK tT c) (hw : gA c 80 = gA a 80) (h0 : gI c 79 0 = gI a 79 0) : wrR w0 b l c := by
  obtain ⟨h1, h2, h3, h4, h5⟩ := h
  refine ⟨hT, by rw [h0]; exact h2, fun i hi => by rw [hw]; exact h3 i hi, by rw [hw]; exact h4, fun j x hx => ?_⟩
  rw [hw]
  exact h5 j x hx
/-- one NOTE more -/
theorem wrR_n {w0 : Nat → Int32} {b : Nat} {l : List (Int × Int × Int)} {x : Int × Int × Int} {a c : PH} (hb : b ≤ 2) (hl : l.length ≤ 23) (h : wrR w0 b l a) (hT : hOK tT c) (h0 : gI c 79 0 = gI a 79 0) (hw : ∀ i, ¬ (i = 119 + 98 * b + 1 ∨ (119 + 98 * b + 2 + 4 * l.length ≤ i ∧ i ≤ 119 + 98 * b + 5 + 4 * l.length)) → gA c 80 i = gA a 80 i) (hc : (gA c 80 (119 + 98 * b + 1)).toInt = (l.length : Int) + 1) (hn : ntR (gA c 80) b l.length x) : wrR w0 b (l ++ [x]) c := by
  obtain ⟨h1, h2, h3, h4, h5⟩ := h
  refine ⟨hT, by rw [h0]; exact h2, fun i hi => ?_, ?_, fun j y hy => ?_⟩
  · rw [hw i (by omega)]
    exact h3 i hi
  · rw [List.length_append, hc]
    show (l.length : Int) + 1 = ((l.length + 1 : Nat) : Int)
    omega
  · by_cases hj : j < l.length
    · rw [List.getElem?_append_left hj] at hy
      obtain ⟨g1, g2, g3, g4⟩ := h5 j y hy
      exact ⟨by rw [hw _ (by omega)]; exact g1, by rw [hw _ (by omega)]; exact g2, by rw [hw _ (by omega)]; exact g3, by rw [hw _ (by omega)]; exact g4⟩
    · rw [List.getElem?_append_right (by omega)] at hy
      have hj0 : j - l.length = 0 := by
        cases hz : j - l.length with
        | zero => rfl
        | succ z => rw [hz] at hy; cases hy
      rw [hj0] at hy
      have hxy : x = y := Option.some.inj hy
      rw [show j = l.length by omega, ← hxy]
      exact hn
theorem tS80_wn : ∀ b, b < 3 → ∀ j, j < 24 → tS80 (119 + 98 * b + 2 + 4 * j) = (0, 4) ∧ tS80 (119 + 98 * b + 3 + 4 * j) = (-1, 5) ∧ tS80 (119 + 98 * b + 4 + 4 * j) = (-6, 7) ∧ tS80 (119 + 98 * b + 5 + 4 * j) = (-7, 12) := by decide +kernel
theorem tS80_cn : ∀ b, b < 3 → tS80 (119 + 98 * b + 1) = (0, 24) := by decide +kernel
section
variable {O : pOut} {d kc ks : Nat} {Q : pRes → Prop} {w0 : Nat → Int32} {K : Nat → Nat × (Nat → Int × Nat)} {W : List (Int × Int × Int)}
theorem wl_loop {wy sl se : Int} {mv b : Nat} (hwy : 0 ≤ wy ∧ wy ≤ 1) (hmv : 1 ≤ mv ∧ mv ≤ 24) (hsl : 0 ≤ sl ∧ sl ≤ 9) (hb : b ≤ 2) (hK : kdR K w0) (hκ : 0 ≤ (w0 0).toInt ∧ (w0 0).toInt ≤ 5) (KQ : ∀ es', wrR w0 b W es' → Q (.inl (some (.int (zI (b : Int)))), es', kc, ks)) : ∀ (f n : Nat) (B : Nat → Int) (s : Int32) (l : List (Int × Int × Int)) (es : PH) (x7 x8 x9 x10 x11 x12 x13 : Option Value), n + f = mv → l.length = n → wrR w0 b l es → brow es n = B → gI es 79 51 = s → rwB B → ((w0 0).toInt = 0 → ∀ t, t < 36 → B t < 0) → l ++ zWr K (w0 0).toInt wy sl f n B s = W → aW O (d + 7) 274 kc ks Q (133, [some (.ref 143), some (.int (zI wy)), some (.int (zI (mv : Int))), some (.int (zI sl)), some (.int (zI se)), some (.int (zI (b : Int))), some (.int (zI (n : Int))), x7, x8, x9, x10, x11, x12, x13], [], es) := by
  intro f
  induction f with
  | zero =>
    intro n B s l es x7 x8 x9 x10 x11 x12 x13 hnf hl hw hB hs hBr hB0 hW
    have hW' : l ++ [] = W := hW
    rw [List.append_nil] at hW'
    rw [hW'] at hw
    exact s_mw133 (sh_of hw.1) hwy ⟨by omega, by omega⟩ hsl ⟨by omega, by omega⟩ ⟨by omega, by omega⟩ (fun _ => KQ es hw) (fun h => absurd (by omega) h)
  | succ f ih =>
    intro n B s l es x7 x8 x9 x10 x11 x12 x13 hnf hl hw hB hs hBr hB0 hW
    have H1 : 1 ≤ (mv : Int) ∧ (mv : Int) ≤ 24 := ⟨by omega, by omega⟩
    have H2 : 0 ≤ (b : Int) ∧ (b : Int) ≤ 2 := ⟨by omega, by omega⟩
    have H3 : 0 ≤ (n : Int) ∧ (n : Int) ≤ 24 := ⟨by omega, by omega⟩
    have H4 : (n : Int) ≤ 23 := by omega
    have hTe := hw.1
    refine s_mw133 (sh_of hw.1) hwy H1 hsl H2 H3 (fun h => absurd h (by omega)) (fun _ => ?_)
    refine x_call (vs := [.ref 143, .int (zI (n : Int)), .int (zI ((n : Int) % 2))]) (rs := []) i_274_146 rfl (fun _ => rfl) rfl rfl rfl rfl rfl (pCall_v (p := 79) (sh_of hTe) rfl rfl rfl rfl rfl (by decide) rfl rfl rfl rfl rfl) ?_
    show aW _ _ _ _ _ _ (0, [some (.ref 143), some (.int (zI (n : Int))), some (.int (zI ((n : Int) % 2))), none], [], es)
    refine finds_spec (d := d + 1) (dp := (n : Int)) (sd := (n : Int) % 2) (sh_of hTe) ⟨by omega, by omega⟩ ⟨by omega, by omega⟩ hTe (fun es1 p1 => ?_)
    show aW _ _ _ _ _ _ (149, [some (.ref 143), some (.int (zI wy)), some (.int (zI (mv : Int))), some (.int (zI sl)), some (.int (zI se)), some (.int (zI (b : Int))), some (.int (zI (n : Int))), x7, x8, x9, x10, x11, x12, x13], [], es1)
    have hT1 := p1.2.1 hTe
    have hnn : ((n : Int)).toNat = n := Int.toNat_natCast n
    have p1' : canP n (findF (gA es 80) (brow es n) ((n : Int) % 2) 36 0 (fun _ => 0)) es es1 := by
      have h := p1
      unfold findsP at h
      rw [hnn] at h
      exact h
    have w1 : gA es1 80 = gA es 80 := canP_world (sh_of hTe) p1'
    have b1 : brow es1 n = B := by rw [canP_brow (sh_of hTe) p1' n, hB]
    have g0 : gI es1 79 0 = gI es 79 0 := fr_gI p1'.2.2.1 (sh_of hTe) (p := 79) (b := 0) rfl (by unfold mIn; simp)
    have g51 : gI es1 79 51 = s := by rw [← hs]; exact fr_gI p1'.2.2.1 (sh_of hTe) (p := 79) (b := 51) rfl (by unfold mIn; simp)
    have hw1 := wrR_c hw hT1 w1 g0
    have hKe : kdR K (gA es 80) := by
      intro k hk
      obtain ⟨k1, k2, k3⟩ := hK k hk
      have e : ∀ i, i < 119 → gA es 80 i = w0 i := fun i hi => hw.2.2.1 i (by omega)
      refine ⟨by rw [e _ (by omega)]; exact k1, k2, fun j hj => ?_⟩
      rw [e _ (by omega), e _ (by omega)]
      exact k3 j hj
    have hc : ∀ c, c < 1296 → (gA es1 88 (1296 * n + c)).toInt = if zMv B K ((n : Int) % 2) c = true then 1 else 0 := by
      intro c hcl
      have h1 : crow es1 n c = findF (gA es 80) (brow es n) ((n : Int) % 2) 36 0 (fun _ => 0) c := congrFun p1'.2.2.2 c
      unfold crow at h1
      rw [if_pos hcl, hB, finds_is hKe hBr hcl] at h1
      rw [h1]
      by_cases hp : zMv B K ((n : Int) % 2) c = true
      · rw [if_pos hp, if_pos hp]; rfl
      · rw [if_neg hp, if_neg hp]; rfl
    obtain ⟨al, hal⟩ : ∃ al : Int, al = zCnt (zMv B K ((n : Int) % 2)) 1296 0 := ⟨_, rfl⟩
    have halb := zCnt_nn (P := zMv B K ((n : Int) % 2)) 1296 0
    rw [← hal] at halb
    refine s_mw149 p1.1 hwy H1 hsl H2 H3 ?_
    refine x_call (vs := [.ref 143, .int (zI (n : Int))]) (rs := []) i_274_152 rfl (fun _ => rfl) rfl rfl rfl rfl rfl (pCall_v (p := 79) p1.1 rfl rfl rfl rfl rfl (by decide) rfl rfl rfl rfl rfl) ?_
    show aW _ _ _ _ _ _ (0, [some (.ref 143), some (.int (zI (n : Int))), none, none], [], es1)
    refine s_many0 (dp := (n : Int)) p1.1 ⟨by omega, by omega⟩ ?_
    refine mnD_loop (D := n) (P := zMv B K ((n : Int) % 2)) (by omega) p1.1 hc ?_ 1296 0 (by omega)
    rw [← hal]
    show aW _ _ _ _ _ _ (155, [some (.ref 143), some (.int (zI wy)), some (.int (zI (mv : Int))), some (.int (zI sl)), some (.int (zI se)), some (.int (zI (b : Int))), some (.int (zI (n : Int))), x7, x8, x9, x10, x11, x12, x13], [.int (zI al)], es1)
    refine s_mw155 (al := al) p1.1 hwy H1 hsl H2 H3 ⟨halb.1, by omega⟩ (fun ha0 => ?_) (fun ha0 => ?_)
    rotate_left
    · have hW' : l ++ zWr K (w0 0).toInt wy sl (f + 1) n B s = W := hW
      unfold zWr at hW'
      rw [← hal, if_pos (by omega), List.append_nil] at hW'
      rw [hW'] at hw1
      exact KQ es1 hw1
    -- a DRAW
    refine x_call (vs := [.ref 143]) (rs := [.int (zI (n : Int)), .ref 143]) i_274_169 rfl (fun _ => rfl) rfl rfl rfl rfl rfl (pCall_v (p := 79) p1.1 rfl rfl rfl rfl rfl (by decide) rfl rfl rfl rfl rfl) ?_
    show aW _ _ _ _ _ _ (0, [some (.ref 143)], [], es1)
    refine drawR hT1 (fun es2 e2 => ?_)
    rw [g51] at e2 ⊢
    show aW _ _ _ _ _ _ (172, [some (.ref 143), some (.int (zI wy)), some (.int (zI (mv : Int))), some (.int (zI sl)), some (.int (zI se)), some (.int (zI (b : Int))), some (.int (zI (n : Int))), some (.int (zI al)), x8, x9, x10, x11, x12, x13], [.int (zI (zDv s)), .int (zI (n : Int)), .ref 143], es2)
    have dr : ∀ (a c : PH) (t : Int32), hOK tT a → c = sI a 79 51 (.int (zDs t)) → hOK tT c ∧ gA c 80 = gA a 80 ∧ gI c 79 0 = gI a 79 0 ∧ brow c n = brow a n ∧ gI c 79 51 = zDs t ∧ gA c 88 = gA a 88 ∧ gA c 87 = gA a 87 := fun a c t ha hc => by
      refine ⟨by rw [hc]; exact hOK_sI ha (p := 79) (b := 51) (lo := iLO) (hi := iHI) rfl rfl (i32_rng _), by rw [hc, gA_sI], by rw [hc, gI_sI_ne (Or.inr (by decide))], ?_, by rw [hc, gI_sI (sh_of ha) (p := 79) (b := 51) rfl (by decide)], by rw [hc, gA_sI], by rw [hc, gA_sI]⟩
      funext t
      unfold brow
      rw [hc, gA_sI]
    obtain ⟨hT2, w2, g20, b2, s2, c2, r2⟩ := dr es1 es2 s hT1 e2
    have hw2 := wrR_c hw1 hT2 w2 g20
    have hr := zDv_r s
    have hm1 : 0 ≤ zDv s % al := Int.emod_nonneg _ (by omega)
    have hm2 : zDv s % al < al := Int.emod_lt_of_pos _ (by omega)
    refine s_mw172 (al := al) (r := zDv s) (sh_of hT2) hwy H1 hsl H2 H3 ⟨by omega, by omega⟩ hr ?_
    obtain ⟨c, hcd⟩ : ∃ c : Int, c = zNth (zMv B K ((n : Int) % 2)) 1296 0 (zDv s % al) := ⟨_, rfl⟩
    have hcb := zNth_bd (P := zMv B K ((n : Int) % 2)) 1296 0 (zDv s % al) hm1 (by rw [← hal]; exact hm2)
    have hco := zNth_ok (P := zMv B K ((n : Int) % 2)) 1296 0 (zDv s % al) hm1 (by rw [← hal]; exact hm2)
    rw [← hcd] at hcb hco
    obtain ⟨cN, hcN⟩ : ∃ cN : Nat, c = (cN : Int) := ⟨c.toNat, by omega⟩
    refine x_call (vs := [.ref 143, .int (zI (n : Int)), .int (zI (zDv s % al))]) (rs := []) i_274_175 rfl (fun _ => rfl) rfl rfl rfl rfl rfl (pCall_v (p := 79) (sh_of hT2) rfl rfl rfl rfl rfl (by decide) rfl rfl rfl rfl rfl) ?_
    show aW _ _ _ _ _ _ (0, [some (.ref 143), some (.int (zI (n : Int))), some (.int (zI (zDv s % al))), none, none], [], es2)
    refine s_mva0 (dp := (n : Int)) (sh_of hT2) ⟨by omega, by omega⟩ ?_
    refine mvD_loop (D := n) (P := zMv B K ((n : Int) % 2)) (i := zDv s % al) (X := c) (by omega) (sh_of hT2) (by rw [c2]; exact hc) ?_ 1296 0 (zDv s % al) (by omega) hm1 (by omega) hcd.symm
    show aW _ _ _ _ _ _ (178, [some (.ref 143), some (.int (zI wy)), some (.int (zI (mv : Int))), some (.int (zI sl)), some (.int (zI se)), some (.int (zI (b : Int))), some (.int (zI (n : Int))), some (.int (zI al)), x8, x9, x10, x11, x12, x13], [.int (zI c)], es2)
    -- the man that goes
    rw [hcN, Int.toNat_natCast] at hco
    have hman : 0 ≤ B (cN / 36) := by
      unfold zMv zGo at hco
      rw [Bool.and_eq_true, decide_eq_true_iff] at hco
      exact hco.1
    have hκ1 : 1 ≤ (w0 0).toInt := by
      by_cases h : (w0 0).toInt = 0
      · have := hB0 h (cN / 36) (by omega)
        omega
      · omega
    have hcell : (gA es2 87 ((36 * (n : Int)) + (c / 36)).toNat).toInt = B (cN / 36) := by
      have h := congrFun b1 (cN / 36)
      unfold brow at h
      rw [if_pos (by omega)] at h
      rw [r2, show ((36 * (n : Int)) + (c / 36)).toNat = 36 * n + cN / 36 by omega]
      exact h
    have hBb := hBr (cN / 36)
    have Ha : 1 ≤ al ∧ al ≤ 1296 := ⟨by omega, by omega⟩
    have Hc : 0 ≤ c ∧ c ≤ 1295 := ⟨by omega, by omega⟩
    have hW' : l ++ zWr K (w0 0).toInt wy sl (f + 1) n B s = W := hW
    unfold zWr at hW'
    rw [← hal, if_neg ha0, ← hcd, hcN, Int.toNat_natCast] at hW'
    -- the NOTE is set, the MOVE is made
    have fin : ∀ (kd fi ra : Int) (es3 : PH) (t : Int32) (y13 : Option Value), 0 ≤ kd ∧ kd ≤ 4 → 0 ≤ fi ∧ fi ≤ 5 → 0 ≤ ra ∧ ra ≤ 5 → wrR w0 b l es3 → brow es3 n = B → gI es3 79 51 = t → (l ++ [(kd, fi, ra)]) ++ zWr K (w0 0).toInt wy sl f (n + 1) (zBd B cN) t = W → aW O (d + 7) 274 kc ks Q (326, [some (.ref 143), some (.int (zI wy)), some (.int (zI (mv : Int))), some (.int (zI sl)), some (.int (zI se)), some (.int (zI (b : Int))), some (.int (zI (n : Int))), some (.int (zI al)), some (.int (zI c)), some (.int (zI (c % 36))), some (.int (zI kd)), some (.int (zI fi)), some (.int (zI ra)), y13], [], es3) := by
      intro kd fi ra es3 t y13 hkd hfi hra hw3 hb3 hs3 hW3
      have hcnt := hw3.2.2.2.1
      have hT3 := hw3.1
      have ec : ((119 + (98 * (b : Int))) + 1).toNat = 119 + 98 * b + 1 := by omega
      refine s_mw326 (d := d + 4) (sh_of hT3) hwy H1 hsl H2 H3 H4 Ha Hc hkd hfi hra ⟨by omega, by omega⟩ (by rw [ec]; omega) (fun v1 e1 es4 e4 es5 e5 es6 e6 es7 e7 v8 e8 es9 e9 v10 e10 => ?_)
      rw [ec] at e1 e8 e9
      have hv1 : v1 = (n : Int) := by omega
      have hz4 : (zI (-1)).toInt = -1 := rfl
      have wT : ∀ (a : PH) (i : Nat) (v : Int), sh a → ∀ j, gA (sA a 80 i (zI v)) 80 j = if j = i then zI v else gA a 80 j := fun a i v ha j => by
        rw [gA_sA ha (p := 80) (t := 0) (n := 2125) (sp := tS80) rfl (by decide)]
        rfl
      have hs4 : sh es4 := by rw [e4]; exact sh_sA (sh_of hT3)
      have hs5 : sh es5 := by rw [e5]; exact sh_sA hs4
      have hs6 : sh es6 := by rw [e6]; exact sh_sA hs5
      have hs7 : sh es7 := by rw [e7]; exact sh_sA hs6
      have hs9 : sh es9 := by rw [e9]; exact sh_sA hs7
      have a4 : (((119 + (98 * (b : Int))) + 2) + (4 * v1)).toNat = 119 + 98 * b + 2 + 4 * l.length := by omega
      have a5 : ((((119 + (98 * (b : Int))) + 2) + (4 * v1)) + 1).toNat = 119 + 98 * b + 3 + 4 * l.length := by omega
      have a6 : ((((119 + (98 * (b : Int))) + 2) + (4 * v1)) + 2).toNat = 119 + 98 * b + 4 + 4 * l.length := by omega
      have a7 : ((((119 + (98 * (b : Int))) + 2) + (4 * v1)) + 3).toNat = 119 + 98 * b + 5 + 4 * l.length := by omega
      rw [a4] at e4
      rw [a5] at e5
      rw [a6] at e6
      rw [a7] at e7
      have q7 : ∀ j, gA es7 80 j = if j = 119 + 98 * b + 5 + 4 * l.length then zI ra else if j = 119 + 98 * b + 4 + 4 * l.length then zI fi else if j = 119 + 98 * b + 3 + 4 * l.length then zI (-1) else if j = 119 + 98 * b + 2 + 4 * l.length then zI kd else gA es3 80 j := fun j => by
        rw [e7, wT _ _ _ hs6, e6, wT _ _ _ hs5, e5, wT _ _ _ hs4, e4, wT _ _ _ (sh_of hT3)]
      have hv8 : v8 = (n : Int) := by
        rw [e8, q7, if_neg (by omega), if_neg (by omega), if_neg (by omega), if_neg (by omega)]
        omega
      have q9 : ∀ j, gA es9 80 j = if j = 119 + 98 * b + 1 then zI ((n : Int) + 1) else gA es7 80 j := fun j => by rw [e9, wT _ _ _ hs7, hv8]
      have i79 : ∀ q, gI es9 79 q = gI es3 79 q := fun q => by rw [e9, gI_sA, e7, gI_sA, e6, gI_sA, e5, gI_sA, e4, gI_sA]
      have i87 : gA es9 87 = gA es3 87 := by rw [e9, gA_sA_ne (by decide), e7, gA_sA_ne (by decide), e6, gA_sA_ne (by decide), e5, gA_sA_ne (by decide), e4, gA_sA_ne (by decide)]
      have tn := tS80_wn b (by omega) l.length (by omega)
      have tc := tS80_cn b (by omega)
      have hT4 : hOK tT es4 := by rw [e4]; exact hOK_sA hT3 (p := 80) (t := 0) (n := 2125) (sp := tS80) rfl (fun _ => by rw [tn.1, zI_toInt (by unfold i32 iLO iHI; omega)]; exact ⟨by show (0 : Int) ≤ kd; omega, by show kd ≤ (4 : Int); omega⟩)
      have hT5 : hOK tT es5 := by rw [e5]; exact hOK_sA hT4 (p := 80) (t := 0) (n := 2125) (sp := tS80) rfl (fun _ => by rw [tn.2.1, hz4]; exact ⟨by decide, by decide⟩)
      have hT6 : hOK tT es6 := by rw [e6]; exact hOK_sA hT5 (p := 80) (t := 0) (n := 2125) (sp := tS80) rfl (fun _ => by rw [tn.2.2.1, zI_toInt (by unfold i32 iLO iHI; omega)]; exact ⟨by show (-6 : Int) ≤ fi; omega, by show fi ≤ (7 : Int); omega⟩)
      have hT7 : hOK tT es7 := by rw [e7]; exact hOK_sA hT6 (p := 80) (t := 0) (n := 2125) (sp := tS80) rfl (fun _ => by rw [tn.2.2.2, zI_toInt (by unfold i32 iLO iHI; omega)]; exact ⟨by show (-7 : Int) ≤ ra; omega, by show ra ≤ (12 : Int); omega⟩)
      have hT9 : hOK tT es9 := by rw [e9]; exact hOK_sA hT7 (p := 80) (t := 0) (n := 2125) (sp := tS80) rfl (fun _ => by rw [tc, zI_toInt (by unfold i32 iLO iHI; omega)]; exact ⟨by show (0 : Int) ≤ v8 + 1; omega, by show v8 + 1 ≤ (24 : Int); omega⟩)
      refine x_call (vs := [.ref 143, .int (zI (n : Int)), .int (zI c)]) (rs := []) i_274_345 rfl (fun _ => rfl) rfl rfl rfl rfl rfl (pCall_v (p := 79) hs9 rfl rfl rfl rfl rfl (by decide) rfl rfl rfl rfl rfl) ?_
      show aW _ _ _ _ _ _ (0, [some (.ref 143), some (.int (zI (n : Int))), some (.int (zI c)), none], [], es9)
      refine makes_spec (d := d + 5) (dp := (n : Int)) (cd := c) hs9 ⟨by omega, by omega⟩ Hc (fun es10 p10 => ?_)
      show aW _ _ _ _ _ _ (348, [some (.ref 143), some (.int (zI wy)), some (.int (zI (mv : Int))), some (.int (zI sl)), some (.int (zI se)), some (.int (zI (b : Int))), some (.int (zI (n : Int))), some (.int (zI al)), some (.int (zI c)), some (.int (zI (c % 36))), some (.int (zI kd)), some (.int (zI fi)), some (.int (zI ra)), y13], [], es10)
      obtain ⟨m1, m2, m3, m4⟩ := p10
      rw [hnn] at m3 m4
      have hT10 := m2 hT9
      have w10 : gA es10 80 = gA es9 80 := by
        funext i
        rw [fr_gA m3 hs9 (p := 80) (t := 0) (n := 2125) (sp := tS80) rfl (by decide)]
        unfold mIn
        simp
      have b9 : brow es9 n = B := by
        funext s'
        have h := congrFun hb3 s'
        unfold brow at h ⊢
        rw [i87]
        exact h
      have b10 : brow es10 (n + 1) = zBd B cN := by
        funext s'
        by_cases h36 : s' < 36
        · rw [m4 s' h36, b9, hcN, Int.toNat_natCast]
          rfl
        · have h0 : B s' = 0 := by
            rw [← hB]
            unfold brow
            rw [if_neg h36]
          unfold brow zBd
          rw [if_neg h36, if_neg (by omega), if_neg (by omega), h0]
      have hw10 : wrR w0 b (l ++ [(kd, fi, ra)]) es10 := by
        refine wrR_n hb (by omega) hw3 hT10 ?_ (fun i hi => ?_) ?_ ?_
        · rw [fr_gI m3 hs9 (p := 79) (b := 0) rfl (by unfold mIn; simp), i79]
        · rw [w10, q9, if_neg (by omega), q7, if_neg (by omega), if_neg (by omega), if_neg (by omega), if_neg (by omega)]
        · rw [w10, q9, if_pos rfl, zI_toInt (by unfold i32 iLO iHI; omega), hl]
        · unfold ntR
          rw [w10, q9, q9, q9, q9, if_neg (by omega), if_neg (by omega), if_neg (by omega), if_neg (by omega), q7, q7, q7, q7]
          rw [if_neg (by omega), if_neg (by omega), if_neg (by omega), if_pos rfl, if_neg (by omega), if_neg (by omega), if_pos rfl, if_neg (by omega), if_pos rfl, if_pos rfl]
          exact ⟨zI_toInt (by unfold i32 iLO iHI; omega), hz4, zI_toInt (by unfold i32 iLO iHI; omega), zI_toInt (by unfold i32 iLO iHI; omega)⟩
      refine s_mw348 m1 hwy H1 hsl H2 H3 H4 Ha Hc hkd hfi hra ⟨by omega, by omega⟩ ?_
      have h9 := ih (n + 1) (zBd B cN) t (l ++ [(kd, fi, ra)]) es10 (some (.int (zI al))) (some (.int (zI c))) (some (.int (zI (c % 36)))) (some (.int (zI kd))) (some (.int (zI fi))) (some (.int (zI ra))) y13 (by omega) (by rw [List.length_append, hl]; rfl) hw10 b10 (by rw [fr_gI m3 hs9 (p := 79) (b := 51) rfl (by unfold mIn; simp), i79]; exact hs3) (zBd_r hBr) (fun h => absurd h (by omega)) hW3
      rw [show ((n + 1 : Nat) : Int) = (n : Int) + 1 by omega] at h9
      exact h9
    have k0 : 0 ≤ B (cN / 36) / 2 ∧ B (cN / 36) / 2 ≤ 4 := ⟨by omega, by omega⟩
    have ef : (c % 36) % 6 = ((cN % 36 % 6 : Nat) : Int) := by omega
    have next : ∀ (ra : Int) (y13 : Option Value), ra = (zNt B wy ((n : Int) % 2) cN).2.2 → 0 ≤ ra ∧ ra ≤ 5 → aW (O := O) (d + 7) 274 kc ks Q (240, [some (.ref 143), some (.int (zI wy)), some (.int (zI (mv : Int))), some (.int (zI sl)), some (.int (zI se)), some (.int (zI (b : Int))), some (.int (zI (n : Int))), some (.int (zI al)), some (.int (zI c)), some (.int (zI (c % 36))), some (.int (zI (B (cN / 36) / 2))), some (.int (zI ((c % 36) % 6))), some (.int (zI ra)), y13], [.ref 143], es2) := by
      intro ra y13 hra0 hra
      have hx : zNt B wy ((n : Int) % 2) cN = (B (cN / 36) / 2, (c % 36) % 6, ra) := by
        rw [hra0, ef]
        rfl
      rw [hx] at hW'
      refine x_call (vs := [.ref 143]) (rs := []) i_274_240 rfl (fun _ => rfl) rfl rfl rfl rfl rfl (pCall_v (p := 79) (sh_of hT2) rfl rfl rfl rfl rfl (by decide) rfl rfl rfl rfl rfl) ?_
      show aW _ _ _ _ _ _ (0, [some (.ref 143)], [], es2)
      refine drawR hT2 (fun es3 e3 => ?_)
      rw [s2] at e3 ⊢
      show aW _ _ _ _ _ _ (243, [some (.ref 143), some (.int (zI wy)), some (.int (zI (mv : Int))), some (.int (zI sl)), some (.int (zI se)), some (.int (zI (b : Int))), some (.int (zI (n : Int))), some (.int (zI al)), some (.int (zI c)), some (.int (zI (c % 36))), some (.int (zI (B (cN / 36) / 2))), some (.int (zI ((c % 36) % 6))), some (.int (zI ra)), y13], [.int (zI (zDv (zDs s)))], es3)
      obtain ⟨hT3, w3, g30, b3, s3, c3, r3⟩ := dr es2 es3 (zDs s) hT2 e3
      have hw3 := wrR_c hw2 hT3 w3 g30
      have hf5 : 0 ≤ (c % 36) % 6 ∧ (c % 36) % 6 ≤ 5 := ⟨by omega, by omega⟩
      have ht : 0 ≤ c % 36 ∧ c % 36 ≤ 35 := ⟨by omega, by omega⟩
      refine s_mw243 (sh_of hT3) hwy H1 hsl H2 H3 H4 Ha Hc k0 hf5 hra ht (zDv_r (zDs s)) (fun h => ?_) (fun h => ?_)
      · rw [if_neg (by omega)] at hW'
        exact fin _ _ ra es3 (zDs (zDs s)) y13 k0 hf5 hra hw3 (by rw [b3, b2, b1]) s3 (by rw [List.append_assoc]; exact hW')
      · rw [if_pos (by omega)] at hW'
        refine x_call (vs := [.ref 143]) (rs := []) i_274_251 rfl (fun _ => rfl) rfl rfl rfl rfl rfl (pCall_v (p := 79) (sh_of hT3) rfl rfl rfl rfl rfl (by decide) rfl rfl rfl rfl rfl) ?_
        show aW _ _ _ _ _ _ (0, [some (.ref 143)], [], es3)
        refine drawR hT3 (fun es4 e4 => ?_)
        rw [s3] at e4 ⊢
        show aW _ _ _ _ _ _ (254, [some (.ref 143), some (.int (zI wy)), some (.int (zI (mv : Int))), some (.int (zI sl)), some (.int (zI se)), some (.int (zI (b : Int))), some (.int (zI (n : Int))), some (.int (zI al)), some (.int (zI c)), some (.int (zI (c % 36))), some (.int (zI (B (cN / 36) / 2))), some (.int (zI ((c % 36) % 6))), some (.int (zI ra)), y13], [.int (zI (zDv (zDs (zDs s))))], es4)
        obtain ⟨hT4, w4, g40, b4, s4, c4, r4⟩ := dr es3 es4 (zDs (zDs s)) hT3 e4
        have hw4 := wrR_c hw3 hT4 w4 g40
        have b4' : brow es4 n = B := by rw [b4, b3, b2, b1]
        have e0 : gA es4 80 0 = w0 0 := hw4.2.2.1 0 (by omega)
        have slip : ∀ x : Int × Int × Int, x = zSlw (w0 0).toInt (zDv (zDs (zDs s)) % 3) (B (cN / 36) / 2, (c % 36) % 6, ra) → (l ++ [x]) ++ zWr K (w0 0).toInt wy sl f (n + 1) (zBd B cN) (zDs (zDs (zDs s))) = W := fun x hx => by
          rw [hx, List.append_assoc]
          exact hW'
        refine s_mw254 (sh_of hT4) hwy H1 hsl H2 H3 H4 Ha Hc k0 hf5 hra ht (zDv_r (zDs (zDs s))) (by show 1 ≤ (gA es4 80 0).toInt ∧ (gA es4 80 0).toInt ≤ 5; rw [e0]; exact ⟨hκ1, hκ.2⟩) (fun h1 h2 h3 => ?_) (fun h1 h2 h3 => ?_) (fun h1 h2 h3 => ?_) (fun h1 h2 h3 => ?_) (fun h1 v5 e5 => ?_)
        · refine fin _ _ (ra + 1) es4 _ _ k0 hf5 ⟨by omega, by omega⟩ hw4 b4' s4 (slip _ ?_)
          unfold zSlw z1m
          rw [if_neg h1, if_neg h2, if_neg h3]
        · refine fin _ _ (ra - 1) es4 _ _ k0 hf5 ⟨by omega, by omega⟩ hw4 b4' s4 (slip _ ?_)
          unfold zSlw z1m
          rw [if_neg h1, if_neg h2, if_pos (show ra = 5 by omega)]
        · refine fin _ ((c % 36) % 6 + 1) ra es4 _ _ k0 ⟨by omega, by omega⟩ hra hw4 b4' s4 (slip _ ?_)
          unfold zSlw z1m
          rw [if_neg h1, if_pos (show zDv (zDs (zDs s)) % 3 = 1 by omega), if_neg h3]
        · refine fin _ ((c % 36) % 6 - 1) ra es4 _ _ k0 ⟨by omega, by omega⟩ hra hw4 b4' s4 (slip _ ?_)
          unfold zSlw z1m
          rw [if_neg h1, if_pos (show zDv (zDs (zDs s)) % 3 = 1 by omega), if_pos (show (c % 36) % 6 = 5 by omega)]
        · have hv5 : v5 = (w0 0).toInt := by rw [e5]; exact congrArg Int32.toInt e0
          have hm3 : 0 ≤ (B (cN / 36) / 2 + 1) % v5 := Int.emod_nonneg _ (by omega)
          have hm4 : (B (cN / 36) / 2 + 1) % v5 < v5 := Int.emod_lt_of_pos _ (by omega)
          refine fin ((B (cN / 36) / 2 + 1) % v5) _ ra es4 _ _ ⟨hm3, by omega⟩ hf5 hra hw4 b4' s4 (slip _ ?_)
          unfold zSlw
          rw [if_pos (show zDv (zDs (zDs s)) % 3 = 0 by omega), hv5]
    have Hcell : 0 ≤ (gA es2 87 ((36 * (n : Int)) + (c / 36)).toNat).toInt ∧ (gA es2 87 ((36 * (n : Int)) + (c / 36)).toNat).toInt ≤ 9 := by rw [hcell]; exact ⟨hman, hBb.2⟩
    refine s_mw178 (d := d + 6) (sh_of hT2) hwy H1 hsl H2 H3 H4 Ha Hc Hcell (fun v1 e1 h1 => ?_) (fun v1 e1 h1 h2 => ?_) (fun v1 e1 h1 h2 => ?_)
    · rw [hcell] at e1
      rw [e1]
      refine next _ _ ?_ ⟨by omega, by omega⟩
      unfold zNt
      rw [if_neg (by omega)]
      show (c % 36) / 6 = ((cN % 36 / 6 : Nat) : Int)
      omega
    · rw [hcell] at e1
      rw [e1]
      refine next _ _ ?_ ⟨by omega, by omega⟩
      unfold zNt
      rw [if_neg (by omega)]
      show (c % 36) / 6 = ((cN % 36 / 6 : Nat) : Int)
      omega
    · rw [hcell] at e1
      rw [e1]
      refine next _ _ ?_ ⟨by omega, by omega⟩
      unfold zNt
      rw [if_pos (by omega)]
      show 5 - (c % 36) / 6 = 5 - ((cN % 36 / 6 : Nat) : Int)
      omega
end
