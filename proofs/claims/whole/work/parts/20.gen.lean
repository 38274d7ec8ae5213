/-! X12_init X12_fails X12_failsLong X12_within X12_isClass X12_above X12_cls X12_isOnWay X12_put X12_findWay -/
section
variable {p : Program} {l : Launch} {e : Env} {s : State} {m : MethodId} {args : Array Value} {below : List Frame} {meth : Method} {c : Code} {g : mz_G} {h0 hf : mz_H} {DC DS : Nat}
theorem dX12_init_0 : decode cX12_init 0 = .ok (.aload_n 0, 1) := by decide +kernel
theorem dX12_init_1 : decode cX12_init 1 = .ok (.invokespecial 1, 3) := by decide +kernel
theorem dX12_init_4 : decode cX12_init 4 = .ok (.aload_n 0, 1) := by decide +kernel
theorem dX12_init_5 : decode cX12_init 5 = .ok (.bipush 40, 2) := by decide +kernel
theorem dX12_init_7 : decode cX12_init 7 = .ok (.newarray .int, 2) := by decide +kernel
theorem dX12_init_9 : decode cX12_init 9 = .ok (.putfield 7, 3) := by decide +kernel
theorem dX12_init_12 : decode cX12_init 12 = .ok (.aload_n 0, 1) := by decide +kernel
theorem dX12_init_13 : decode cX12_init 13 = .ok (.bipush 40, 2) := by decide +kernel
theorem dX12_init_15 : decode cX12_init 15 = .ok (.newarray .int, 2) := by decide +kernel
theorem dX12_init_17 : decode cX12_init 17 = .ok (.putfield 13, 3) := by decide +kernel
theorem dX12_init_20 : decode cX12_init 20 = .ok (.aload_n 0, 1) := by decide +kernel
theorem dX12_init_21 : decode cX12_init 21 = .ok (.bipush 40, 2) := by decide +kernel
theorem dX12_init_23 : decode cX12_init 23 = .ok (.newarray .int, 2) := by decide +kernel
theorem dX12_init_25 : decode cX12_init 25 = .ok (.putfield 16, 3) := by decide +kernel
theorem dX12_init_28 : decode cX12_init 28 = .ok (.aload_n 0, 1) := by decide +kernel
theorem dX12_init_29 : decode cX12_init 29 = .ok (.bipush 120, 2) := by decide +kernel
theorem dX12_init_31 : decode cX12_init 31 = .ok (.newarray .int, 2) := by decide +kernel
theorem dX12_init_33 : decode cX12_init 33 = .ok (.putfield 19, 3) := by decide +kernel
theorem dX12_init_36 : decode cX12_init 36 = .ok (.aload_n 0, 1) := by decide +kernel
theorem dX12_init_37 : decode cX12_init 37 = .ok (.bipush 40, 2) := by decide +kernel
theorem dX12_init_39 : decode cX12_init 39 = .ok (.newarray .int, 2) := by decide +kernel
theorem dX12_init_41 : decode cX12_init 41 = .ok (.putfield 22, 3) := by decide +kernel
theorem dX12_init_44 : decode cX12_init 44 = .ok (.aload_n 0, 1) := by decide +kernel
theorem dX12_init_45 : decode cX12_init 45 = .ok (.bipush 80, 2) := by decide +kernel
theorem dX12_init_47 : decode cX12_init 47 = .ok (.newarray .int, 2) := by decide +kernel
theorem dX12_init_49 : decode cX12_init 49 = .ok (.putfield 25, 3) := by decide +kernel
theorem dX12_init_52 : decode cX12_init 52 = .ok (.aload_n 0, 1) := by decide +kernel
theorem dX12_init_53 : decode cX12_init 53 = .ok (.bipush 40, 2) := by decide +kernel
theorem dX12_init_55 : decode cX12_init 55 = .ok (.newarray .int, 2) := by decide +kernel
theorem dX12_init_57 : decode cX12_init 57 = .ok (.putfield 28, 3) := by decide +kernel
theorem dX12_init_60 : decode cX12_init 60 = .ok (.aload_n 0, 1) := by decide +kernel
theorem dX12_init_61 : decode cX12_init 61 = .ok (.sipush 3720, 3) := by decide +kernel
theorem dX12_init_64 : decode cX12_init 64 = .ok (.newarray .boolean, 2) := by decide +kernel
theorem dX12_init_66 : decode cX12_init 66 = .ok (.putfield 31, 3) := by decide +kernel
theorem dX12_init_69 : decode cX12_init 69 = .ok (.aload_n 0, 1) := by decide +kernel
theorem dX12_init_70 : decode cX12_init 70 = .ok (.sipush 3720, 3) := by decide +kernel
theorem dX12_init_73 : decode cX12_init 73 = .ok (.newarray .int, 2) := by decide +kernel
theorem dX12_init_75 : decode cX12_init 75 = .ok (.putfield 35, 3) := by decide +kernel
theorem dX12_init_78 : decode cX12_init 78 = .ok (.aload_n 0, 1) := by decide +kernel
theorem dX12_init_79 : decode cX12_init 79 = .ok (.sipush 3720, 3) := by decide +kernel
theorem dX12_init_82 : decode cX12_init 82 = .ok (.newarray .int, 2) := by decide +kernel
theorem dX12_init_84 : decode cX12_init 84 = .ok (.putfield 38, 3) := by decide +kernel
theorem dX12_init_87 : decode cX12_init 87 = .ok (.aload_n 0, 1) := by decide +kernel
theorem dX12_init_88 : decode cX12_init 88 = .ok (.sipush 3720, 3) := by decide +kernel
theorem dX12_init_91 : decode cX12_init 91 = .ok (.newarray .int, 2) := by decide +kernel
theorem dX12_init_93 : decode cX12_init 93 = .ok (.putfield 41, 3) := by decide +kernel
theorem dX12_init_96 : decode cX12_init 96 = .ok (.aload_n 0, 1) := by decide +kernel
theorem dX12_init_97 : decode cX12_init 97 = .ok (.bipush 40, 2) := by decide +kernel
theorem dX12_init_99 : decode cX12_init 99 = .ok (.newarray .boolean, 2) := by decide +kernel
theorem dX12_init_101 : decode cX12_init 101 = .ok (.putfield 44, 3) := by decide +kernel
theorem dX12_init_104 : decode cX12_init 104 = .ok (.aload_n 0, 1) := by decide +kernel
theorem dX12_init_105 : decode cX12_init 105 = .ok (.bipush 120, 2) := by decide +kernel
theorem dX12_init_107 : decode cX12_init 107 = .ok (.newarray .int, 2) := by decide +kernel
theorem dX12_init_109 : decode cX12_init 109 = .ok (.putfield 47, 3) := by decide +kernel
theorem dX12_init_112 : decode cX12_init 112 = .ok (.aload_n 0, 1) := by decide +kernel
theorem dX12_init_113 : decode cX12_init 113 = .ok (.bipush 40, 2) := by decide +kernel
theorem dX12_init_115 : decode cX12_init 115 = .ok (.newarray .int, 2) := by decide +kernel
theorem dX12_init_117 : decode cX12_init 117 = .ok (.putfield 50, 3) := by decide +kernel
theorem dX12_init_120 : decode cX12_init 120 = .ok (.aload_n 0, 1) := by decide +kernel
theorem dX12_init_121 : decode cX12_init 121 = .ok (.bipush 41, 2) := by decide +kernel
theorem dX12_init_123 : decode cX12_init 123 = .ok (.newarray .int, 2) := by decide +kernel
theorem dX12_init_125 : decode cX12_init 125 = .ok (.putfield 53, 3) := by decide +kernel
theorem dX12_init_128 : decode cX12_init 128 = .ok (.aload_n 0, 1) := by decide +kernel
theorem dX12_init_129 : decode cX12_init 129 = .ok (.bipush 41, 2) := by decide +kernel
theorem dX12_init_131 : decode cX12_init 131 = .ok (.newarray .int, 2) := by decide +kernel
theorem dX12_init_133 : decode cX12_init 133 = .ok (.putfield 56, 3) := by decide +kernel
theorem dX12_init_136 : decode cX12_init 136 = .ok (.aload_n 0, 1) := by decide +kernel
theorem dX12_init_137 : decode cX12_init 137 = .ok (.sipush 217, 3) := by decide +kernel
theorem dX12_init_140 : decode cX12_init 140 = .ok (.newarray .int, 2) := by decide +kernel
theorem dX12_init_142 : decode cX12_init 142 = .ok (.putfield 59, 3) := by decide +kernel
theorem dX12_init_145 : decode cX12_init 145 = .ok (.aload_n 0, 1) := by decide +kernel
theorem dX12_init_146 : decode cX12_init 146 = .ok (.bipush (-9), 2) := by decide +kernel
theorem dX12_init_148 : decode cX12_init 148 = .ok (.putfield 62, 3) := by decide +kernel
theorem dX12_init_151 : decode cX12_init 151 = .ok (.aload_n 0, 1) := by decide +kernel
theorem dX12_init_152 : decode cX12_init 152 = .ok (.bipush (-9), 2) := by decide +kernel
theorem dX12_init_154 : decode cX12_init 154 = .ok (.putfield 66, 3) := by decide +kernel
theorem dX12_init_157 : decode cX12_init 157 = .ok (.aload_n 0, 1) := by decide +kernel
theorem dX12_init_158 : decode cX12_init 158 = .ok (.bipush (-9), 2) := by decide +kernel
theorem dX12_init_160 : decode cX12_init 160 = .ok (.putfield 69, 3) := by decide +kernel
theorem dX12_init_163 : decode cX12_init 163 = .ok (.aload_n 0, 1) := by decide +kernel
theorem dX12_init_164 : decode cX12_init 164 = .ok (.sipush 217, 3) := by decide +kernel
theorem dX12_init_167 : decode cX12_init 167 = .ok (.newarray .int, 2) := by decide +kernel
theorem dX12_init_169 : decode cX12_init 169 = .ok (.putfield 72, 3) := by decide +kernel
theorem dX12_init_172 : decode cX12_init 172 = .ok (.aload_n 0, 1) := by decide +kernel
theorem dX12_init_173 : decode cX12_init 173 = .ok (.bipush 60, 2) := by decide +kernel
theorem dX12_init_175 : decode cX12_init 175 = .ok (.newarray .int, 2) := by decide +kernel
theorem dX12_init_177 : decode cX12_init 177 = .ok (.putfield 75, 3) := by decide +kernel
theorem dX12_init_180 : decode cX12_init 180 = .ok (.aload_n 0, 1) := by decide +kernel
theorem dX12_init_181 : decode cX12_init 181 = .ok (.bipush 60, 2) := by decide +kernel
theorem dX12_init_183 : decode cX12_init 183 = .ok (.newarray .int, 2) := by decide +kernel
theorem dX12_init_185 : decode cX12_init 185 = .ok (.putfield 78, 3) := by decide +kernel
theorem dX12_init_188 : decode cX12_init 188 = .ok (.aload_n 0, 1) := by decide +kernel
theorem dX12_init_189 : decode cX12_init 189 = .ok (.sipush 960, 3) := by decide +kernel
theorem dX12_init_192 : decode cX12_init 192 = .ok (.newarray .int, 2) := by decide +kernel
theorem dX12_init_194 : decode cX12_init 194 = .ok (.putfield 81, 3) := by decide +kernel
theorem dX12_init_197 : decode cX12_init 197 = .ok (.aload_n 0, 1) := by decide +kernel
theorem dX12_init_198 : decode cX12_init 198 = .ok (.sipush 960, 3) := by decide +kernel
theorem dX12_init_201 : decode cX12_init 201 = .ok (.newarray .int, 2) := by decide +kernel
theorem dX12_init_203 : decode cX12_init 203 = .ok (.putfield 84, 3) := by decide +kernel
theorem dX12_init_206 : decode cX12_init 206 = .ok (.aload_n 0, 1) := by decide +kernel
theorem dX12_init_207 : decode cX12_init 207 = .ok (.sipush 960, 3) := by decide +kernel
theorem dX12_init_210 : decode cX12_init 210 = .ok (.newarray .int, 2) := by decide +kernel
theorem dX12_init_212 : decode cX12_init 212 = .ok (.putfield 87, 3) := by decide +kernel
theorem dX12_init_215 : decode cX12_init 215 = .ok (.aload_n 0, 1) := by decide +kernel
theorem dX12_init_216 : decode cX12_init 216 = .ok (.sipush 960, 3) := by decide +kernel
theorem dX12_init_219 : decode cX12_init 219 = .ok (.newarray .int, 2) := by decide +kernel
theorem dX12_init_221 : decode cX12_init 221 = .ok (.putfield 90, 3) := by decide +kernel
theorem dX12_init_224 : decode cX12_init 224 = .ok (.aload_n 0, 1) := by decide +kernel
theorem dX12_init_225 : decode cX12_init 225 = .ok (.sipush 960, 3) := by decide +kernel
theorem dX12_init_228 : decode cX12_init 228 = .ok (.newarray .boolean, 2) := by decide +kernel
theorem dX12_init_230 : decode cX12_init 230 = .ok (.putfield 93, 3) := by decide +kernel
theorem dX12_init_233 : decode cX12_init 233 = .ok (.aload_n 0, 1) := by decide +kernel
theorem dX12_init_234 : decode cX12_init 234 = .ok (.sipush 960, 3) := by decide +kernel
theorem dX12_init_237 : decode cX12_init 237 = .ok (.newarray .int, 2) := by decide +kernel
theorem dX12_init_239 : decode cX12_init 239 = .ok (.putfield 96, 3) := by decide +kernel
theorem dX12_init_242 : decode cX12_init 242 = .ok (.aload_n 0, 1) := by decide +kernel
theorem dX12_init_243 : decode cX12_init 243 = .ok (.sipush 28800, 3) := by decide +kernel
theorem dX12_init_246 : decode cX12_init 246 = .ok (.newarray .boolean, 2) := by decide +kernel
theorem dX12_init_248 : decode cX12_init 248 = .ok (.putfield 99, 3) := by decide +kernel
theorem dX12_init_251 : decode cX12_init 251 = .ok (.aload_n 0, 1) := by decide +kernel
theorem dX12_init_252 : decode cX12_init 252 = .ok (.sipush 28800, 3) := by decide +kernel
theorem dX12_init_255 : decode cX12_init 255 = .ok (.newarray .int, 2) := by decide +kernel
theorem dX12_init_257 : decode cX12_init 257 = .ok (.putfield 102, 3) := by decide +kernel
theorem dX12_init_260 : decode cX12_init 260 = .ok (.aload_n 0, 1) := by decide +kernel
theorem dX12_init_261 : decode cX12_init 261 = .ok (.ldc 105, 2) := by decide +kernel
theorem dX12_init_263 : decode cX12_init 263 = .ok (.newarray .long, 2) := by decide +kernel
theorem dX12_init_265 : decode cX12_init 265 = .ok (.putfield 106, 3) := by decide +kernel
theorem dX12_init_268 : decode cX12_init 268 = .ok (.aload_n 0, 1) := by decide +kernel
theorem dX12_init_269 : decode cX12_init 269 = .ok (.bipush 60, 2) := by decide +kernel
theorem dX12_init_271 : decode cX12_init 271 = .ok (.newarray .long, 2) := by decide +kernel
theorem dX12_init_273 : decode cX12_init 273 = .ok (.putfield 110, 3) := by decide +kernel
theorem dX12_init_276 : decode cX12_init 276 = .ok (.aload_n 0, 1) := by decide +kernel
theorem dX12_init_277 : decode cX12_init 277 = .ok (.bipush 60, 2) := by decide +kernel
theorem dX12_init_279 : decode cX12_init 279 = .ok (.newarray .long, 2) := by decide +kernel
theorem dX12_init_281 : decode cX12_init 281 = .ok (.putfield 113, 3) := by decide +kernel
theorem dX12_init_284 : decode cX12_init 284 = .ok (.aload_n 0, 1) := by decide +kernel
theorem dX12_init_285 : decode cX12_init 285 = .ok (.iconst 4, 1) := by decide +kernel
theorem dX12_init_286 : decode cX12_init 286 = .ok (.newarray .int, 2) := by decide +kernel
theorem dX12_init_288 : decode cX12_init 288 = .ok (.dup, 1) := by decide +kernel
theorem dX12_init_289 : decode cX12_init 289 = .ok (.iconst 0, 1) := by decide +kernel
theorem dX12_init_290 : decode cX12_init 290 = .ok (.iconst (-1), 1) := by decide +kernel
theorem dX12_init_291 : decode cX12_init 291 = .ok (.iastore, 1) := by decide +kernel
theorem dX12_init_292 : decode cX12_init 292 = .ok (.dup, 1) := by decide +kernel
theorem dX12_init_293 : decode cX12_init 293 = .ok (.iconst 1, 1) := by decide +kernel
theorem dX12_init_294 : decode cX12_init 294 = .ok (.iconst (-1), 1) := by decide +kernel
theorem dX12_init_295 : decode cX12_init 295 = .ok (.iastore, 1) := by decide +kernel
theorem dX12_init_296 : decode cX12_init 296 = .ok (.dup, 1) := by decide +kernel
theorem dX12_init_297 : decode cX12_init 297 = .ok (.iconst 2, 1) := by decide +kernel
theorem dX12_init_298 : decode cX12_init 298 = .ok (.iconst (-1), 1) := by decide +kernel
theorem dX12_init_299 : decode cX12_init 299 = .ok (.iastore, 1) := by decide +kernel
theorem dX12_init_300 : decode cX12_init 300 = .ok (.dup, 1) := by decide +kernel
theorem dX12_init_301 : decode cX12_init 301 = .ok (.iconst 3, 1) := by decide +kernel
theorem dX12_init_302 : decode cX12_init 302 = .ok (.iconst (-1), 1) := by decide +kernel
theorem dX12_init_303 : decode cX12_init 303 = .ok (.iastore, 1) := by decide +kernel
theorem dX12_init_304 : decode cX12_init 304 = .ok (.putfield 116, 3) := by decide +kernel
theorem dX12_init_307 : decode cX12_init 307 = .ok (.aload_n 0, 1) := by decide +kernel
theorem dX12_init_308 : decode cX12_init 308 = .ok (.iconst 4, 1) := by decide +kernel
theorem dX12_init_309 : decode cX12_init 309 = .ok (.newarray .int, 2) := by decide +kernel
theorem dX12_init_311 : decode cX12_init 311 = .ok (.putfield 119, 3) := by decide +kernel
theorem dX12_init_314 : decode cX12_init 314 = .ok (.aload_n 0, 1) := by decide +kernel
theorem dX12_init_315 : decode cX12_init 315 = .ok (.bipush 32, 2) := by decide +kernel
theorem dX12_init_317 : decode cX12_init 317 = .ok (.newarray .int, 2) := by decide +kernel
theorem dX12_init_319 : decode cX12_init 319 = .ok (.putfield 122, 3) := by decide +kernel
theorem dX12_init_322 : decode cX12_init 322 = .ok (.return_, 1) := by decide +kernel
def fn_X12_init (h : mz_H) (a0 : (Option Nat)) : mz_Res Unit :=
  mz_chk (a0).isSome <|
  mz_aN h 0 40 (.inl (fun _ => 0)) fun v1 h =>
  mz_op (mz_pF h a0 11 3 (va_rf v1)) fun h =>
  mz_aN h 0 40 (.inl (fun _ => 0)) fun v2 h =>
  mz_op (mz_pF h a0 11 4 (va_rf v2)) fun h =>
  mz_aN h 0 40 (.inl (fun _ => 0)) fun v3 h =>
  mz_op (mz_pF h a0 11 5 (va_rf v3)) fun h =>
  mz_aN h 0 120 (.inl (fun _ => 0)) fun v4 h =>
  mz_op (mz_pF h a0 11 6 (va_rf v4)) fun h =>
  mz_aN h 0 40 (.inl (fun _ => 0)) fun v5 h =>
  mz_op (mz_pF h a0 11 7 (va_rf v5)) fun h =>
  mz_aN h 0 80 (.inl (fun _ => 0)) fun v6 h =>
  mz_op (mz_pF h a0 11 8 (va_rf v6)) fun h =>
  mz_aN h 0 40 (.inl (fun _ => 0)) fun v7 h =>
  mz_op (mz_pF h a0 11 9 (va_rf v7)) fun h =>
  mz_aN h 2 3720 (.inl (fun _ => 0)) fun v8 h =>
  mz_op (mz_pF h a0 11 10 (va_rf v8)) fun h =>
  mz_aN h 0 3720 (.inl (fun _ => 0)) fun v9 h =>
  mz_op (mz_pF h a0 11 11 (va_rf v9)) fun h =>
  mz_aN h 0 3720 (.inl (fun _ => 0)) fun v10 h =>
  mz_op (mz_pF h a0 11 12 (va_rf v10)) fun h =>
  mz_aN h 0 3720 (.inl (fun _ => 0)) fun v11 h =>
  mz_op (mz_pF h a0 11 13 (va_rf v11)) fun h =>
  mz_aN h 2 40 (.inl (fun _ => 0)) fun v12 h =>
  mz_op (mz_pF h a0 11 14 (va_rf v12)) fun h =>
  mz_aN h 0 120 (.inl (fun _ => 0)) fun v13 h =>
  mz_op (mz_pF h a0 11 15 (va_rf v13)) fun h =>
  mz_aN h 0 40 (.inl (fun _ => 0)) fun v14 h =>
  mz_op (mz_pF h a0 11 16 (va_rf v14)) fun h =>
  mz_aN h 0 41 (.inl (fun _ => 0)) fun v15 h =>
  mz_op (mz_pF h a0 11 18 (va_rf v15)) fun h =>
  mz_aN h 0 41 (.inl (fun _ => 0)) fun v16 h =>
  mz_op (mz_pF h a0 11 19 (va_rf v16)) fun h =>
  mz_aN h 0 217 (.inl (fun _ => 0)) fun v17 h =>
  mz_op (mz_pF h a0 11 25 (va_rf v17)) fun h =>
  mz_op (mz_pF h a0 11 27 (Value.int (-9))) fun h =>
  mz_op (mz_pF h a0 11 28 (Value.int (-9))) fun h =>
  mz_op (mz_pF h a0 11 29 (Value.int (-9))) fun h =>
  mz_aN h 0 217 (.inl (fun _ => 0)) fun v18 h =>
  mz_op (mz_pF h a0 11 31 (va_rf v18)) fun h =>
  mz_aN h 0 60 (.inl (fun _ => 0)) fun v19 h =>
  mz_op (mz_pF h a0 11 33 (va_rf v19)) fun h =>
  mz_aN h 0 60 (.inl (fun _ => 0)) fun v20 h =>
  mz_op (mz_pF h a0 11 34 (va_rf v20)) fun h =>
  mz_aN h 0 960 (.inl (fun _ => 0)) fun v21 h =>
  mz_op (mz_pF h a0 11 35 (va_rf v21)) fun h =>
  mz_aN h 0 960 (.inl (fun _ => 0)) fun v22 h =>
  mz_op (mz_pF h a0 11 36 (va_rf v22)) fun h =>
  mz_aN h 0 960 (.inl (fun _ => 0)) fun v23 h =>
  mz_op (mz_pF h a0 11 37 (va_rf v23)) fun h =>
  mz_aN h 0 960 (.inl (fun _ => 0)) fun v24 h =>
  mz_op (mz_pF h a0 11 38 (va_rf v24)) fun h =>
  mz_aN h 2 960 (.inl (fun _ => 0)) fun v25 h =>
  mz_op (mz_pF h a0 11 39 (va_rf v25)) fun h =>
  mz_aN h 0 960 (.inl (fun _ => 0)) fun v26 h =>
  mz_op (mz_pF h a0 11 40 (va_rf v26)) fun h =>
  mz_aN h 2 28800 (.inl (fun _ => 0)) fun v27 h =>
  mz_op (mz_pF h a0 11 41 (va_rf v27)) fun h =>
  mz_aN h 0 28800 (.inl (fun _ => 0)) fun v28 h =>
  mz_op (mz_pF h a0 11 42 (va_rf v28)) fun h =>
  mz_aN h 1 864000 (.inr (.inl (fun _ => 0))) fun v29 h =>
  mz_op (mz_pF h a0 11 43 (va_rf v29)) fun h =>
  mz_aN h 1 60 (.inr (.inl (fun _ => 0))) fun v30 h =>
  mz_op (mz_pF h a0 11 47 (va_rf v30)) fun h =>
  mz_aN h 1 60 (.inr (.inl (fun _ => 0))) fun v31 h =>
  mz_op (mz_pF h a0 11 48 (va_rf v31)) fun h =>
  mz_aN h 0 4 (.inl (fun _ => 0)) fun v32 h =>
  mz_op (mz_sI h v32 0 0 (-1)) fun h =>
  mz_op (mz_sI h v32 0 1 (-1)) fun h =>
  mz_op (mz_sI h v32 0 2 (-1)) fun h =>
  mz_op (mz_sI h v32 0 3 (-1)) fun h =>
  mz_op (mz_pF h a0 11 49 (va_rf v32)) fun h =>
  mz_aN h 0 4 (.inl (fun _ => 0)) fun v33 h =>
  mz_op (mz_pF h a0 11 50 (va_rf v33)) fun h =>
  mz_aN h 0 32 (.inl (fun _ => 0)) fun v34 h =>
  mz_op (mz_pF h a0 11 51 (va_rf v34)) fun h =>
  mz_ret () h
set_option maxHeartbeats 4000000 in
set_option maxRecDepth 100000 in
theorem pf_X12_init_b0 (r : Unit) (Y : mz_Y p g RX12 cX12_init 1 none "<init>" (mz_AF h0) s m args meth c) (h : mz_H) (a0 : (Option Nat)) (dc ds : Nat) (hr : fn_X12_init h a0 = some (r, hf, dc, ds)) : mz_Go l g p e s m args below meth c 1 20 DC DS h0 none hf 1 0 [(0, false, va_rf a0)] [] h dc ds := by
  unfold fn_X12_init at hr
  intro H locs cells slots ls hH hS hl hc hs
  have X := Y.1
  refine mz_aload_n X dX12_init_0 rfl (mz_at hl 0 rfl) ?_
  refine mz_oinit X hl.1.1 oi_RX12_1 (Nat.le_of_ble_eq_true rfl) ⟨Nat.le_of_ble_eq_true rfl, Nat.le_of_ble_eq_true rfl⟩ dX12_init_1 hr (fun hr => ?_)
  refine mz_aload_n X dX12_init_4 rfl (mz_at hl 0 rfl) ?_
  refine lv_bipush (v := 40) X.1 X.2.1 dX12_init_5 (by decide) ?_
  refine mz_kA (t := 0) X hH hS (by decide) rfl rfl (by decide) (mz_tb 93 (by decide +kernel) rfl) (fun _ _ => rfl) dX12_init_7 hr hc hs (fun v1 h H cells slots dc ds hr hH hS hc hs => ?_)
  refine mz_putF X Y.2.2.2 hH hS fp_RX12_7 dX12_init_9 (mz_nra _ _).1 (mz_nra _ _).2 hr (fun h H locs hr hH hS => ?_)
  refine mz_aload_n X dX12_init_12 rfl (mz_at hl 0 rfl) ?_
  refine lv_bipush (v := 40) X.1 X.2.1 dX12_init_13 (by decide) ?_
  refine mz_kA (t := 0) X hH hS (by decide) rfl rfl (by decide) (mz_tb 93 (by decide +kernel) rfl) (fun _ _ => rfl) dX12_init_15 hr hc hs (fun v2 h H cells slots dc ds hr hH hS hc hs => ?_)
  refine mz_putF X Y.2.2.2 hH hS fp_RX12_13 dX12_init_17 (mz_nra _ _).1 (mz_nra _ _).2 hr (fun h H locs hr hH hS => ?_)
  refine mz_aload_n X dX12_init_20 rfl (mz_at hl 0 rfl) ?_
  refine lv_bipush (v := 40) X.1 X.2.1 dX12_init_21 (by decide) ?_
  refine mz_kA (t := 0) X hH hS (by decide) rfl rfl (by decide) (mz_tb 93 (by decide +kernel) rfl) (fun _ _ => rfl) dX12_init_23 hr hc hs (fun v3 h H cells slots dc ds hr hH hS hc hs => ?_)
  refine mz_putF X Y.2.2.2 hH hS fp_RX12_16 dX12_init_25 (mz_nra _ _).1 (mz_nra _ _).2 hr (fun h H locs hr hH hS => ?_)
  refine mz_aload_n X dX12_init_28 rfl (mz_at hl 0 rfl) ?_
  refine lv_bipush (v := 120) X.1 X.2.1 dX12_init_29 (by decide) ?_
  refine mz_kA (t := 0) X hH hS (by decide) rfl rfl (by decide) (mz_tb 93 (by decide +kernel) rfl) (fun _ _ => rfl) dX12_init_31 hr hc hs (fun v4 h H cells slots dc ds hr hH hS hc hs => ?_)
  refine mz_putF X Y.2.2.2 hH hS fp_RX12_19 dX12_init_33 (mz_nra _ _).1 (mz_nra _ _).2 hr (fun h H locs hr hH hS => ?_)
  refine mz_aload_n X dX12_init_36 rfl (mz_at hl 0 rfl) ?_
  refine lv_bipush (v := 40) X.1 X.2.1 dX12_init_37 (by decide) ?_
  refine mz_kA (t := 0) X hH hS (by decide) rfl rfl (by decide) (mz_tb 93 (by decide +kernel) rfl) (fun _ _ => rfl) dX12_init_39 hr hc hs (fun v5 h H cells slots dc ds hr hH hS hc hs => ?_)
  refine mz_putF X Y.2.2.2 hH hS fp_RX12_22 dX12_init_41 (mz_nra _ _).1 (mz_nra _ _).2 hr (fun h H locs hr hH hS => ?_)
  refine mz_aload_n X dX12_init_44 rfl (mz_at hl 0 rfl) ?_
  refine lv_bipush (v := 80) X.1 X.2.1 dX12_init_45 (by decide) ?_
  refine mz_kA (t := 0) X hH hS (by decide) rfl rfl (by decide) (mz_tb 93 (by decide +kernel) rfl) (fun _ _ => rfl) dX12_init_47 hr hc hs (fun v6 h H cells slots dc ds hr hH hS hc hs => ?_)
  refine mz_putF X Y.2.2.2 hH hS fp_RX12_25 dX12_init_49 (mz_nra _ _).1 (mz_nra _ _).2 hr (fun h H locs hr hH hS => ?_)
  refine mz_aload_n X dX12_init_52 rfl (mz_at hl 0 rfl) ?_
  refine lv_bipush (v := 40) X.1 X.2.1 dX12_init_53 (by decide) ?_
  refine mz_kA (t := 0) X hH hS (by decide) rfl rfl (by decide) (mz_tb 93 (by decide +kernel) rfl) (fun _ _ => rfl) dX12_init_55 hr hc hs (fun v7 h H cells slots dc ds hr hH hS hc hs => ?_)
  refine mz_putF X Y.2.2.2 hH hS fp_RX12_28 dX12_init_57 (mz_nra _ _).1 (mz_nra _ _).2 hr (fun h H locs hr hH hS => ?_)
  refine mz_aload_n X dX12_init_60 rfl (mz_at hl 0 rfl) ?_
  refine lv_sipush (v := 3720) X.1 X.2.1 dX12_init_61 (by decide) ?_
  refine mz_kA (t := 2) X hH hS (by decide) rfl rfl (by decide) (mz_tb 94 (by decide +kernel) rfl) (fun _ _ => rfl) dX12_init_64 hr hc hs (fun v8 h H cells slots dc ds hr hH hS hc hs => ?_)
  refine mz_putF X Y.2.2.2 hH hS fp_RX12_31 dX12_init_66 (mz_nra _ _).1 (mz_nra _ _).2 hr (fun h H locs hr hH hS => ?_)
  refine mz_aload_n X dX12_init_69 rfl (mz_at hl 0 rfl) ?_
  refine lv_sipush (v := 3720) X.1 X.2.1 dX12_init_70 (by decide) ?_
  refine mz_kA (t := 0) X hH hS (by decide) rfl rfl (by decide) (mz_tb 93 (by decide +kernel) rfl) (fun _ _ => rfl) dX12_init_73 hr hc hs (fun v9 h H cells slots dc ds hr hH hS hc hs => ?_)
  refine mz_putF X Y.2.2.2 hH hS fp_RX12_35 dX12_init_75 (mz_nra _ _).1 (mz_nra _ _).2 hr (fun h H locs hr hH hS => ?_)
  refine mz_aload_n X dX12_init_78 rfl (mz_at hl 0 rfl) ?_
  refine lv_sipush (v := 3720) X.1 X.2.1 dX12_init_79 (by decide) ?_
  refine mz_kA (t := 0) X hH hS (by decide) rfl rfl (by decide) (mz_tb 93 (by decide +kernel) rfl) (fun _ _ => rfl) dX12_init_82 hr hc hs (fun v10 h H cells slots dc ds hr hH hS hc hs => ?_)
  refine mz_putF X Y.2.2.2 hH hS fp_RX12_38 dX12_init_84 (mz_nra _ _).1 (mz_nra _ _).2 hr (fun h H locs hr hH hS => ?_)
  refine mz_aload_n X dX12_init_87 rfl (mz_at hl 0 rfl) ?_
  refine lv_sipush (v := 3720) X.1 X.2.1 dX12_init_88 (by decide) ?_
  refine mz_kA (t := 0) X hH hS (by decide) rfl rfl (by decide) (mz_tb 93 (by decide +kernel) rfl) (fun _ _ => rfl) dX12_init_91 hr hc hs (fun v11 h H cells slots dc ds hr hH hS hc hs => ?_)
  refine mz_putF X Y.2.2.2 hH hS fp_RX12_41 dX12_init_93 (mz_nra _ _).1 (mz_nra _ _).2 hr (fun h H locs hr hH hS => ?_)
  refine mz_aload_n X dX12_init_96 rfl (mz_at hl 0 rfl) ?_
  refine lv_bipush (v := 40) X.1 X.2.1 dX12_init_97 (by decide) ?_
  refine mz_kA (t := 2) X hH hS (by decide) rfl rfl (by decide) (mz_tb 94 (by decide +kernel) rfl) (fun _ _ => rfl) dX12_init_99 hr hc hs (fun v12 h H cells slots dc ds hr hH hS hc hs => ?_)
  refine mz_putF X Y.2.2.2 hH hS fp_RX12_44 dX12_init_101 (mz_nra _ _).1 (mz_nra _ _).2 hr (fun h H locs hr hH hS => ?_)
  refine mz_aload_n X dX12_init_104 rfl (mz_at hl 0 rfl) ?_
  refine lv_bipush (v := 120) X.1 X.2.1 dX12_init_105 (by decide) ?_
  refine mz_kA (t := 0) X hH hS (by decide) rfl rfl (by decide) (mz_tb 93 (by decide +kernel) rfl) (fun _ _ => rfl) dX12_init_107 hr hc hs (fun v13 h H cells slots dc ds hr hH hS hc hs => ?_)
  refine mz_putF X Y.2.2.2 hH hS fp_RX12_47 dX12_init_109 (mz_nra _ _).1 (mz_nra _ _).2 hr (fun h H locs hr hH hS => ?_)
  refine mz_aload_n X dX12_init_112 rfl (mz_at hl 0 rfl) ?_
  refine lv_bipush (v := 40) X.1 X.2.1 dX12_init_113 (by decide) ?_
  refine mz_kA (t := 0) X hH hS (by decide) rfl rfl (by decide) (mz_tb 93 (by decide +kernel) rfl) (fun _ _ => rfl) dX12_init_115 hr hc hs (fun v14 h H cells slots dc ds hr hH hS hc hs => ?_)
  refine mz_putF X Y.2.2.2 hH hS fp_RX12_50 dX12_init_117 (mz_nra _ _).1 (mz_nra _ _).2 hr (fun h H locs hr hH hS => ?_)
  refine mz_aload_n X dX12_init_120 rfl (mz_at hl 0 rfl) ?_
  refine lv_bipush (v := 41) X.1 X.2.1 dX12_init_121 (by decide) ?_
  refine mz_kA (t := 0) X hH hS (by decide) rfl rfl (by decide) (mz_tb 93 (by decide +kernel) rfl) (fun _ _ => rfl) dX12_init_123 hr hc hs (fun v15 h H cells slots dc ds hr hH hS hc hs => ?_)
  refine mz_putF X Y.2.2.2 hH hS fp_RX12_53 dX12_init_125 (mz_nra _ _).1 (mz_nra _ _).2 hr (fun h H locs hr hH hS => ?_)
  refine mz_aload_n X dX12_init_128 rfl (mz_at hl 0 rfl) ?_
  refine lv_bipush (v := 41) X.1 X.2.1 dX12_init_129 (by decide) ?_
  refine mz_kA (t := 0) X hH hS (by decide) rfl rfl (by decide) (mz_tb 93 (by decide +kernel) rfl) (fun _ _ => rfl) dX12_init_131 hr hc hs (fun v16 h H cells slots dc ds hr hH hS hc hs => ?_)
  refine mz_putF X Y.2.2.2 hH hS fp_RX12_56 dX12_init_133 (mz_nra _ _).1 (mz_nra _ _).2 hr (fun h H locs hr hH hS => ?_)
  refine mz_aload_n X dX12_init_136 rfl (mz_at hl 0 rfl) ?_
  refine lv_sipush (v := 217) X.1 X.2.1 dX12_init_137 (by decide) ?_
  refine mz_kA (t := 0) X hH hS (by decide) rfl rfl (by decide) (mz_tb 93 (by decide +kernel) rfl) (fun _ _ => rfl) dX12_init_140 hr hc hs (fun v17 h H cells slots dc ds hr hH hS hc hs => ?_)
  refine mz_putF X Y.2.2.2 hH hS fp_RX12_59 dX12_init_142 (mz_nra _ _).1 (mz_nra _ _).2 hr (fun h H locs hr hH hS => ?_)
  refine mz_aload_n X dX12_init_145 rfl (mz_at hl 0 rfl) ?_
  refine lv_bipush (v := (-9)) X.1 X.2.1 dX12_init_146 (by decide) ?_
  refine mz_put X hH hS fp_RX12_62 dX12_init_148 rfl rfl hr (fun h H locs hr hH hS => ?_)
  refine mz_aload_n X dX12_init_151 rfl (mz_at hl 0 rfl) ?_
  refine lv_bipush (v := (-9)) X.1 X.2.1 dX12_init_152 (by decide) ?_
  refine mz_put X hH hS fp_RX12_66 dX12_init_154 rfl rfl hr (fun h H locs hr hH hS => ?_)
  refine mz_aload_n X dX12_init_157 rfl (mz_at hl 0 rfl) ?_
  refine lv_bipush (v := (-9)) X.1 X.2.1 dX12_init_158 (by decide) ?_
  refine mz_put X hH hS fp_RX12_69 dX12_init_160 rfl rfl hr (fun h H locs hr hH hS => ?_)
  refine mz_aload_n X dX12_init_163 rfl (mz_at hl 0 rfl) ?_
  refine lv_sipush (v := 217) X.1 X.2.1 dX12_init_164 (by decide) ?_
  refine mz_kA (t := 0) X hH hS (by decide) rfl rfl (by decide) (mz_tb 93 (by decide +kernel) rfl) (fun _ _ => rfl) dX12_init_167 hr hc hs (fun v18 h H cells slots dc ds hr hH hS hc hs => ?_)
  refine mz_putF X Y.2.2.2 hH hS fp_RX12_72 dX12_init_169 (mz_nra _ _).1 (mz_nra _ _).2 hr (fun h H locs hr hH hS => ?_)
  refine mz_aload_n X dX12_init_172 rfl (mz_at hl 0 rfl) ?_
  refine lv_bipush (v := 60) X.1 X.2.1 dX12_init_173 (by decide) ?_
  refine mz_kA (t := 0) X hH hS (by decide) rfl rfl (by decide) (mz_tb 93 (by decide +kernel) rfl) (fun _ _ => rfl) dX12_init_175 hr hc hs (fun v19 h H cells slots dc ds hr hH hS hc hs => ?_)
  refine mz_putF X Y.2.2.2 hH hS fp_RX12_75 dX12_init_177 (mz_nra _ _).1 (mz_nra _ _).2 hr (fun h H locs hr hH hS => ?_)
  refine mz_aload_n X dX12_init_180 rfl (mz_at hl 0 rfl) ?_
  refine lv_bipush (v := 60) X.1 X.2.1 dX12_init_181 (by decide) ?_
  refine mz_kA (t := 0) X hH hS (by decide) rfl rfl (by decide) (mz_tb 93 (by decide +kernel) rfl) (fun _ _ => rfl) dX12_init_183 hr hc hs (fun v20 h H cells slots dc ds hr hH hS hc hs => ?_)
  refine mz_putF X Y.2.2.2 hH hS fp_RX12_78 dX12_init_185 (mz_nra _ _).1 (mz_nra _ _).2 hr (fun h H locs hr hH hS => ?_)
  refine mz_aload_n X dX12_init_188 rfl (mz_at hl 0 rfl) ?_
  refine lv_sipush (v := 960) X.1 X.2.1 dX12_init_189 (by decide) ?_
  refine mz_kA (t := 0) X hH hS (by decide) rfl rfl (by decide) (mz_tb 93 (by decide +kernel) rfl) (fun _ _ => rfl) dX12_init_192 hr hc hs (fun v21 h H cells slots dc ds hr hH hS hc hs => ?_)
  refine mz_putF X Y.2.2.2 hH hS fp_RX12_81 dX12_init_194 (mz_nra _ _).1 (mz_nra _ _).2 hr (fun h H locs hr hH hS => ?_)
  refine mz_aload_n X dX12_init_197 rfl (mz_at hl 0 rfl) ?_
  refine lv_sipush (v := 960) X.1 X.2.1 dX12_init_198 (by decide) ?_
  refine mz_kA (t := 0) X hH hS (by decide) rfl rfl (by decide) (mz_tb 93 (by decide +kernel) rfl) (fun _ _ => rfl) dX12_init_201 hr hc hs (fun v22 h H cells slots dc ds hr hH hS hc hs => ?_)
  refine mz_putF X Y.2.2.2 hH hS fp_RX12_84 dX12_init_203 (mz_nra _ _).1 (mz_nra _ _).2 hr (fun h H locs hr hH hS => ?_)
  refine mz_aload_n X dX12_init_206 rfl (mz_at hl 0 rfl) ?_
  refine lv_sipush (v := 960) X.1 X.2.1 dX12_init_207 (by decide) ?_
  refine mz_kA (t := 0) X hH hS (by decide) rfl rfl (by decide) (mz_tb 93 (by decide +kernel) rfl) (fun _ _ => rfl) dX12_init_210 hr hc hs (fun v23 h H cells slots dc ds hr hH hS hc hs => ?_)
  refine mz_putF X Y.2.2.2 hH hS fp_RX12_87 dX12_init_212 (mz_nra _ _).1 (mz_nra _ _).2 hr (fun h H locs hr hH hS => ?_)
  refine mz_aload_n X dX12_init_215 rfl (mz_at hl 0 rfl) ?_
  refine lv_sipush (v := 960) X.1 X.2.1 dX12_init_216 (by decide) ?_
  refine mz_kA (t := 0) X hH hS (by decide) rfl rfl (by decide) (mz_tb 93 (by decide +kernel) rfl) (fun _ _ => rfl) dX12_init_219 hr hc hs (fun v24 h H cells slots dc ds hr hH hS hc hs => ?_)
  refine mz_putF X Y.2.2.2 hH hS fp_RX12_90 dX12_init_221 (mz_nra _ _).1 (mz_nra _ _).2 hr (fun h H locs hr hH hS => ?_)
  refine mz_aload_n X dX12_init_224 rfl (mz_at hl 0 rfl) ?_
  refine lv_sipush (v := 960) X.1 X.2.1 dX12_init_225 (by decide) ?_
  refine mz_kA (t := 2) X hH hS (by decide) rfl rfl (by decide) (mz_tb 94 (by decide +kernel) rfl) (fun _ _ => rfl) dX12_init_228 hr hc hs (fun v25 h H cells slots dc ds hr hH hS hc hs => ?_)
  refine mz_putF X Y.2.2.2 hH hS fp_RX12_93 dX12_init_230 (mz_nra _ _).1 (mz_nra _ _).2 hr (fun h H locs hr hH hS => ?_)
  refine mz_aload_n X dX12_init_233 rfl (mz_at hl 0 rfl) ?_
  refine lv_sipush (v := 960) X.1 X.2.1 dX12_init_234 (by decide) ?_
  refine mz_kA (t := 0) X hH hS (by decide) rfl rfl (by decide) (mz_tb 93 (by decide +kernel) rfl) (fun _ _ => rfl) dX12_init_237 hr hc hs (fun v26 h H cells slots dc ds hr hH hS hc hs => ?_)
  refine mz_putF X Y.2.2.2 hH hS fp_RX12_96 dX12_init_239 (mz_nra _ _).1 (mz_nra _ _).2 hr (fun h H locs hr hH hS => ?_)
  refine mz_aload_n X dX12_init_242 rfl (mz_at hl 0 rfl) ?_
  refine lv_sipush (v := 28800) X.1 X.2.1 dX12_init_243 (by decide) ?_
  refine mz_kA (t := 2) X hH hS (by decide) rfl rfl (by decide) (mz_tb 94 (by decide +kernel) rfl) (fun _ _ => rfl) dX12_init_246 hr hc hs (fun v27 h H cells slots dc ds hr hH hS hc hs => ?_)
  refine mz_putF X Y.2.2.2 hH hS fp_RX12_99 dX12_init_248 (mz_nra _ _).1 (mz_nra _ _).2 hr (fun h H locs hr hH hS => ?_)
  refine mz_aload_n X dX12_init_251 rfl (mz_at hl 0 rfl) ?_
  refine lv_sipush (v := 28800) X.1 X.2.1 dX12_init_252 (by decide) ?_
  refine mz_kA (t := 0) X hH hS (by decide) rfl rfl (by decide) (mz_tb 93 (by decide +kernel) rfl) (fun _ _ => rfl) dX12_init_255 hr hc hs (fun v28 h H cells slots dc ds hr hH hS hc hs => ?_)
  refine mz_putF X Y.2.2.2 hH hS fp_RX12_102 dX12_init_257 (mz_nra _ _).1 (mz_nra _ _).2 hr (fun h H locs hr hH hS => ?_)
  refine mz_aload_n X dX12_init_260 rfl (mz_at hl 0 rfl) ?_
  refine mz_ldc (v := 864000) X (mz_tb 963 (by decide +kernel) rfl) dX12_init_261 ?_
  refine mz_kA (t := 1) X hH hS (by decide) rfl rfl (by decide) (mz_tb 201 (by decide +kernel) rfl) (fun _ _ => rfl) dX12_init_263 hr hc hs (fun v29 h H cells slots dc ds hr hH hS hc hs => ?_)
  refine mz_putF X Y.2.2.2 hH hS fp_RX12_106 dX12_init_265 (mz_nra _ _).1 (mz_nra _ _).2 hr (fun h H locs hr hH hS => ?_)
  refine mz_aload_n X dX12_init_268 rfl (mz_at hl 0 rfl) ?_
  refine lv_bipush (v := 60) X.1 X.2.1 dX12_init_269 (by decide) ?_
  refine mz_kA (t := 1) X hH hS (by decide) rfl rfl (by decide) (mz_tb 201 (by decide +kernel) rfl) (fun _ _ => rfl) dX12_init_271 hr hc hs (fun v30 h H cells slots dc ds hr hH hS hc hs => ?_)
  refine mz_putF X Y.2.2.2 hH hS fp_RX12_110 dX12_init_273 (mz_nra _ _).1 (mz_nra _ _).2 hr (fun h H locs hr hH hS => ?_)
  refine mz_aload_n X dX12_init_276 rfl (mz_at hl 0 rfl) ?_
  refine lv_bipush (v := 60) X.1 X.2.1 dX12_init_277 (by decide) ?_
  refine mz_kA (t := 1) X hH hS (by decide) rfl rfl (by decide) (mz_tb 201 (by decide +kernel) rfl) (fun _ _ => rfl) dX12_init_279 hr hc hs (fun v31 h H cells slots dc ds hr hH hS hc hs => ?_)
  refine mz_putF X Y.2.2.2 hH hS fp_RX12_113 dX12_init_281 (mz_nra _ _).1 (mz_nra _ _).2 hr (fun h H locs hr hH hS => ?_)
  refine mz_aload_n X dX12_init_284 rfl (mz_at hl 0 rfl) ?_
  refine lv_iconst (v := 4) X.1 X.2.1 dX12_init_285 (by decide) ?_
  refine mz_kA (t := 0) X hH hS (by decide) rfl rfl (by decide) (mz_tb 93 (by decide +kernel) rfl) (fun _ _ => rfl) dX12_init_286 hr hc hs (fun v32 h H cells slots dc ds hr hH hS hc hs => ?_)
  refine mz_dupR X dX12_init_288 ?_
  refine lv_iconst (v := 0) X.1 X.2.1 dX12_init_289 (by decide) ?_
  refine lv_iconst (v := (-1)) X.1 X.2.1 dX12_init_290 (by decide) ?_
  refine mz_iast X hH hS dX12_init_291 hr (fun h H locs hr hH hS => ?_)
  refine mz_dupR X dX12_init_292 ?_
  refine lv_iconst (v := 1) X.1 X.2.1 dX12_init_293 (by decide) ?_
  refine lv_iconst (v := (-1)) X.1 X.2.1 dX12_init_294 (by decide) ?_
  refine mz_iast X hH hS dX12_init_295 hr (fun h H locs hr hH hS => ?_)
  refine mz_dupR X dX12_init_296 ?_
  refine lv_iconst (v := 2) X.1 X.2.1 dX12_init_297 (by decide) ?_
  refine lv_iconst (v := (-1)) X.1 X.2.1 dX12_init_298 (by decide) ?_
  refine mz_iast X hH hS dX12_init_299 hr (fun h H locs hr hH hS => ?_)
  refine mz_dupR X dX12_init_300 ?_
  refine lv_iconst (v := 3) X.1 X.2.1 dX12_init_301 (by decide) ?_
  refine lv_iconst (v := (-1)) X.1 X.2.1 dX12_init_302 (by decide) ?_
  refine mz_iast X hH hS dX12_init_303 hr (fun h H locs hr hH hS => ?_)
  refine mz_putF X Y.2.2.2 hH hS fp_RX12_116 dX12_init_304 (mz_nra _ _).1 (mz_nra _ _).2 hr (fun h H locs hr hH hS => ?_)
  refine mz_aload_n X dX12_init_307 rfl (mz_at hl 0 rfl) ?_
  refine lv_iconst (v := 4) X.1 X.2.1 dX12_init_308 (by decide) ?_
  refine mz_kA (t := 0) X hH hS (by decide) rfl rfl (by decide) (mz_tb 93 (by decide +kernel) rfl) (fun _ _ => rfl) dX12_init_309 hr hc hs (fun v33 h H cells slots dc ds hr hH hS hc hs => ?_)
  refine mz_putF X Y.2.2.2 hH hS fp_RX12_119 dX12_init_311 (mz_nra _ _).1 (mz_nra _ _).2 hr (fun h H locs hr hH hS => ?_)
  refine mz_aload_n X dX12_init_314 rfl (mz_at hl 0 rfl) ?_
  refine lv_bipush (v := 32) X.1 X.2.1 dX12_init_315 (by decide) ?_
  refine mz_kA (t := 0) X hH hS (by decide) rfl rfl (by decide) (mz_tb 93 (by decide +kernel) rfl) (fun _ _ => rfl) dX12_init_317 hr hc hs (fun v34 h H cells slots dc ds hr hH hS hc hs => ?_)
  refine mz_putF X Y.2.2.2 hH hS fp_RX12_122 dX12_init_319 (mz_nra _ _).1 (mz_nra _ _).2 hr (fun h H locs hr hH hS => ?_)
  exact mz_vret Y dX12_init_322 hH hS hc hs hr
set_option maxRecDepth 100000 in
theorem ct_X12_init (l : Launch) (g : mz_G) (h : mz_H) (a0 : (Option Nat)) (r : Unit) (hf : mz_H) (k n : Nat) (hr : fn_X12_init h a0 = some (r, hf, k, n)) : mz_C l g yX12_init cX12_init 1 none 1 20 [va_rf a0] h none hf k n := by
  refine mz_met (as := [(false, va_rf a0)]) (plainFor_of_name (by decide)) (mz_c1 (mz_cat_rf _) mz_c0) (Nat.le_of_ble_eq_true rfl) ?_
  intro p e s m args below meth c Y
  exact pf_X12_init_b0 r Y h a0 _ _ hr
theorem dX12_fails_0 : decode cX12_fails 0 = .ok (.aload_n 0, 1) := by decide +kernel
theorem dX12_fails_1 : decode cX12_fails 1 = .ok (.iload_n 1, 1) := by decide +kernel
theorem dX12_fails_2 : decode cX12_fails 2 = .ok (.putfield 125, 3) := by decide +kernel
theorem dX12_fails_5 : decode cX12_fails 5 = .ok (.aload_n 0, 1) := by decide +kernel
theorem dX12_fails_6 : decode cX12_fails 6 = .ok (.dup, 1) := by decide +kernel
theorem dX12_fails_7 : decode cX12_fails 7 = .ok (.getfield 128, 3) := by decide +kernel
theorem dX12_fails_10 : decode cX12_fails 10 = .ok (.iconst 1, 1) := by decide +kernel
theorem dX12_fails_11 : decode cX12_fails 11 = .ok (.iadd, 1) := by decide +kernel
theorem dX12_fails_12 : decode cX12_fails 12 = .ok (.putfield 128, 3) := by decide +kernel
theorem dX12_fails_15 : decode cX12_fails 15 = .ok (.bipush (-10), 2) := by decide +kernel
theorem dX12_fails_17 : decode cX12_fails 17 = .ok (.iload_n 1, 1) := by decide +kernel
theorem dX12_fails_18 : decode cX12_fails 18 = .ok (.isub, 1) := by decide +kernel
theorem dX12_fails_19 : decode cX12_fails 19 = .ok (.ireturn, 1) := by decide +kernel
def fn_X12_fails (h : mz_H) (a0 : (Option Nat)) (x1 : Int32) : mz_Res Int32 :=
  mz_op (mz_pF h a0 11 0 (Value.int x1)) fun h =>
  mz_op (mz_fI h a0 11 1) fun v1 =>
  mz_op (mz_pF h a0 11 1 (Value.int (v1 + 1))) fun h =>
  mz_ret ((-10) - x1) h
set_option maxHeartbeats 4000000 in
set_option maxRecDepth 100000 in
theorem pf_X12_fails_b0 (r : Int32) (Y : mz_Y p g RX12 cX12_fails 2 (some .int) "fails" (mz_AF h0) s m args meth c) (h : mz_H) (a0 : (Option Nat)) (x1 : Int32) (dc ds : Nat) (hr : fn_X12_fails h a0 x1 = some (r, hf, dc, ds)) : mz_Go l g p e s m args below meth c 0 0 DC DS h0 (some (Value.int r)) hf 2 0 [(0, false, va_rf a0), (1, false, .int x1)] [] h dc ds := by
  unfold fn_X12_fails at hr
  intro H locs cells slots ls hH hS hl hc hs
  have X := Y.1
  refine mz_aload_n X dX12_fails_0 rfl (mz_at hl 0 rfl) ?_
  refine lv_iload_n X.1 X.2.1 dX12_fails_1 rfl (mz_at hl 1 rfl) ?_
  refine mz_put X hH hS fp_RX12_125 dX12_fails_2 rfl rfl hr (fun h H locs hr hH hS => ?_)
  refine mz_aload_n X dX12_fails_5 rfl (mz_at hl 0 rfl) ?_
  refine mz_dupR X dX12_fails_6 ?_
  refine mz_getI X hH fl_RX12_128 dX12_fails_7 hr (fun v1 hr => ?_)
  refine lv_iconst (v := 1) X.1 X.2.1 dX12_fails_10 (by decide) ?_
  refine lv_iadd X.1 X.2.1 dX12_fails_11 ?_
  refine mz_put X hH hS fp_RX12_128 dX12_fails_12 rfl rfl hr (fun h H locs hr hH hS => ?_)
  refine lv_bipush (v := (-10)) X.1 X.2.1 dX12_fails_15 (by decide) ?_
  refine lv_iload_n X.1 X.2.1 dX12_fails_17 rfl (mz_at hl 1 rfl) ?_
  refine lv_isub X.1 X.2.1 dX12_fails_18 ?_
  exact mz_iret Y dX12_fails_19 hH hS hc hs hr
set_option maxRecDepth 100000 in
theorem ct_X12_fails (l : Launch) (g : mz_G) (h : mz_H) (a0 : (Option Nat)) (x1 : Int32) (r : Int32) (hf : mz_H) (k n : Nat) (hr : fn_X12_fails h a0 x1 = some (r, hf, k, n)) : mz_C l g yX12_fails cX12_fails 2 (some .int) 0 0 [va_rf a0, .int x1] h (some (Value.int r)) hf k n := by
  refine mz_met (as := [(false, va_rf a0), (false, .int x1)]) (plainFor_of_name (by decide)) (mz_c1 (mz_cat_rf _) (mz_c1 rfl mz_c0)) (Nat.le_of_ble_eq_true rfl) ?_
  intro p e s m args below meth c Y
  exact pf_X12_fails_b0 r Y h a0 x1 _ _ hr
theorem dX12_failsLong_0 : decode cX12_failsLong 0 = .ok (.aload_n 0, 1) := by decide +kernel
theorem dX12_failsLong_1 : decode cX12_failsLong 1 = .ok (.iload_n 1, 1) := by decide +kernel
theorem dX12_failsLong_2 : decode cX12_failsLong 2 = .ok (.invokevirtual 131, 3) := by decide +kernel
theorem dX12_failsLong_5 : decode cX12_failsLong 5 = .ok (.pop, 1) := by decide +kernel
theorem dX12_failsLong_6 : decode cX12_failsLong 6 = .ok (.lconst 0, 1) := by decide +kernel
theorem dX12_failsLong_7 : decode cX12_failsLong 7 = .ok (.lreturn, 1) := by decide +kernel
def fn_X12_failsLong (h : mz_H) (a0 : (Option Nat)) (x1 : Int32) : mz_Res Int64 :=
  mz_chk (mz_is h a0 11) <| mz_call (fn_X12_fails h a0 x1) fun v1 h =>
  mz_ret 0 h
set_option maxHeartbeats 4000000 in
set_option maxRecDepth 100000 in
theorem pf_X12_failsLong_b0 (r : Int64) (Y : mz_Y p g RX12 cX12_failsLong 2 (some .long) "failsLong" (mz_AF h0) s m args meth c) (h : mz_H) (a0 : (Option Nat)) (x1 : Int32) (dc ds : Nat) (hr : fn_X12_failsLong h a0 x1 = some (r, hf, dc, ds)) : mz_Go l g p e s m args below meth c 1 21 DC DS h0 (some (Value.long r)) hf 2 0 [(0, false, va_rf a0), (1, false, .int x1)] [] h dc ds := by
  unfold fn_X12_failsLong at hr
  intro H locs cells slots ls hH hS hl hc hs
  have X := Y.1
  refine mz_aload_n X dX12_failsLong_0 rfl (mz_at hl 0 rfl) ?_
  refine lv_iload_n X.1 X.2.1 dX12_failsLong_1 rfl (mz_at hl 1 rfl) ?_
  refine mz_kV Value.int X hH hS hl.1.1 [.int x1] [] hr (ct_X12_fails l g h a0 x1) mb_RX12_131 rfl im_X12_fails rfl (Nat.le_of_ble_eq_true rfl) ⟨Nat.le_of_ble_eq_true rfl, Nat.le_of_ble_eq_true rfl⟩ hc hs dX12_failsLong_2 rfl (fun v1 h H locs cells slots dc ds hr hH hS hc hs => ?_)
  refine lv_pop X.1 X.2.1 dX12_failsLong_5 rfl ?_
  refine lv_lconst (v := 0) X.1 X.2.1 dX12_failsLong_6 (by decide) ?_
  exact mz_lret Y dX12_failsLong_7 hH hS hc hs hr
set_option maxRecDepth 100000 in
theorem ct_X12_failsLong (l : Launch) (g : mz_G) (h : mz_H) (a0 : (Option Nat)) (x1 : Int32) (r : Int64) (hf : mz_H) (k n : Nat) (hr : fn_X12_failsLong h a0 x1 = some (r, hf, k, n)) : mz_C l g yX12_failsLong cX12_failsLong 2 (some .long) 1 21 [va_rf a0, .int x1] h (some (Value.long r)) hf k n := by
  refine mz_met (as := [(false, va_rf a0), (false, .int x1)]) (plainFor_of_name (by decide)) (mz_c1 (mz_cat_rf _) (mz_c1 rfl mz_c0)) (Nat.le_of_ble_eq_true rfl) ?_
  intro p e s m args below meth c Y
  exact pf_X12_failsLong_b0 r Y h a0 x1 _ _ hr
theorem dX12_within_0 : decode cX12_within 0 = .ok (.iload_n 0, 1) := by decide +kernel
theorem dX12_within_1 : decode cX12_within 1 = .ok (.iload_n 1, 1) := by decide +kernel
theorem dX12_within_2 : decode cX12_within 2 = .ok (.if_icmp .lt 12, 3) := by decide +kernel
theorem dX12_within_5 : decode cX12_within 5 = .ok (.iload_n 0, 1) := by decide +kernel
theorem dX12_within_6 : decode cX12_within 6 = .ok (.iload_n 2, 1) := by decide +kernel
theorem dX12_within_7 : decode cX12_within 7 = .ok (.if_icmp .gt 7, 3) := by decide +kernel
theorem dX12_within_10 : decode cX12_within 10 = .ok (.iconst 1, 1) := by decide +kernel
theorem dX12_within_11 : decode cX12_within 11 = .ok (.goto 4, 3) := by decide +kernel
theorem dX12_within_14 : decode cX12_within 14 = .ok (.iconst 0, 1) := by decide +kernel
theorem dX12_within_15 : decode cX12_within 15 = .ok (.ireturn, 1) := by decide +kernel
def fn_X12_within (h : mz_H) (x0 : Int32) (x1 : Int32) (x2 : Int32) : mz_Res Int32 :=
  if x0 < x1 then
    mz_chk ((0 : Int32) &&& 1 == 0) (mz_ret 0 h)
  else
    if x2 < x0 then
      mz_chk ((0 : Int32) &&& 1 == 0) (mz_ret 0 h)
    else
      mz_chk ((1 : Int32) &&& 1 == 1) (mz_ret 1 h)
set_option maxHeartbeats 4000000 in
set_option maxRecDepth 100000 in
theorem pf_X12_within_b0 (r : Int32) (Y : mz_Y p g RX12 cX12_within 3 (some .boolean) "within" (mz_AF h0) s m args meth c) (h : mz_H) (x0 : Int32) (x1 : Int32) (x2 : Int32) (dc ds : Nat) (hr : fn_X12_within h x0 x1 x2 = some (r, hf, dc, ds)) : mz_Go l g p e s m args below meth c 0 0 DC DS h0 (some (Value.int r)) hf 3 0 [(0, false, .int x0), (1, false, .int x1), (2, false, .int x2)] [] h dc ds := by
  unfold fn_X12_within at hr
  intro H locs cells slots ls hH hS hl hc hs
  have X := Y.1
  refine lv_iload_n X.1 X.2.1 dX12_within_0 rfl (mz_at hl 0 rfl) ?_
  refine lv_iload_n X.1 X.2.1 dX12_within_1 rfl (mz_at hl 1 rfl) ?_
  refine mz_icmp_lt X 14 dX12_within_2 (by decide) hr (fun hr => ?_) (fun hr => ?_)
  · refine lv_iconst (v := 0) X.1 X.2.1 dX12_within_14 (by decide) ?_
    exact mz_zret Y dX12_within_15 hH hS hc hs hr
  · refine lv_iload_n X.1 X.2.1 dX12_within_5 rfl (mz_at hl 0 rfl) ?_
    refine lv_iload_n X.1 X.2.1 dX12_within_6 rfl (mz_at hl 2 rfl) ?_
    refine mz_icmp_gt X 14 dX12_within_7 (by decide) hr (fun hr => ?_) (fun hr => ?_)
    · refine lv_iconst (v := 0) X.1 X.2.1 dX12_within_14 (by decide) ?_
      exact mz_zret Y dX12_within_15 hH hS hc hs hr
    · refine lv_iconst (v := 1) X.1 X.2.1 dX12_within_10 (by decide) ?_
      refine lv_goto (tgt := 15) X.1 X.2.1 dX12_within_11 (by decide) ?_
      exact mz_zret Y dX12_within_15 hH hS hc hs hr
set_option maxRecDepth 100000 in
theorem ct_X12_within (l : Launch) (g : mz_G) (h : mz_H) (x0 : Int32) (x1 : Int32) (x2 : Int32) (r : Int32) (hf : mz_H) (k n : Nat) (hr : fn_X12_within h x0 x1 x2 = some (r, hf, k, n)) : mz_C l g yX12_within cX12_within 3 (some .boolean) 0 0 [.int x0, .int x1, .int x2] h (some (Value.int r)) hf k n := by
  refine mz_met (as := [(false, .int x0), (false, .int x1), (false, .int x2)]) (plainFor_of_name (by decide)) (mz_c1 rfl (mz_c1 rfl (mz_c1 rfl mz_c0))) (Nat.le_of_ble_eq_true rfl) ?_
  intro p e s m args below meth c Y
  exact pf_X12_within_b0 r Y h x0 x1 x2 _ _ hr
theorem dX12_isClass_0 : decode cX12_isClass 0 = .ok (.iload_n 1, 1) := by decide +kernel
theorem dX12_isClass_1 : decode cX12_isClass 1 = .ok (.ifCond .lt 15, 3) := by decide +kernel
theorem dX12_isClass_4 : decode cX12_isClass 4 = .ok (.iload_n 1, 1) := by decide +kernel
theorem dX12_isClass_5 : decode cX12_isClass 5 = .ok (.aload_n 0, 1) := by decide +kernel
theorem dX12_isClass_6 : decode cX12_isClass 6 = .ok (.getfield 135, 3) := by decide +kernel
theorem dX12_isClass_9 : decode cX12_isClass 9 = .ok (.if_icmp .ge 7, 3) := by decide +kernel
theorem dX12_isClass_12 : decode cX12_isClass 12 = .ok (.iconst 1, 1) := by decide +kernel
theorem dX12_isClass_13 : decode cX12_isClass 13 = .ok (.goto 4, 3) := by decide +kernel
theorem dX12_isClass_16 : decode cX12_isClass 16 = .ok (.iconst 0, 1) := by decide +kernel
theorem dX12_isClass_17 : decode cX12_isClass 17 = .ok (.ireturn, 1) := by decide +kernel
def fn_X12_isClass (h : mz_H) (a0 : (Option Nat)) (x1 : Int32) : mz_Res Int32 :=
  if x1 < 0 then
    mz_chk ((0 : Int32) &&& 1 == 0) (mz_ret 0 h)
  else
    mz_op (mz_fI h a0 11 2) fun v1 =>
    if v1 ≤ x1 then
      mz_chk ((0 : Int32) &&& 1 == 0) (mz_ret 0 h)
    else
      mz_chk ((1 : Int32) &&& 1 == 1) (mz_ret 1 h)
set_option maxHeartbeats 4000000 in
set_option maxRecDepth 100000 in
theorem pf_X12_isClass_b0 (r : Int32) (Y : mz_Y p g RX12 cX12_isClass 2 (some .boolean) "isClass" (mz_AF h0) s m args meth c) (h : mz_H) (a0 : (Option Nat)) (x1 : Int32) (dc ds : Nat) (hr : fn_X12_isClass h a0 x1 = some (r, hf, dc, ds)) : mz_Go l g p e s m args below meth c 0 0 DC DS h0 (some (Value.int r)) hf 2 0 [(0, false, va_rf a0), (1, false, .int x1)] [] h dc ds := by
  unfold fn_X12_isClass at hr
  intro H locs cells slots ls hH hS hl hc hs
  have X := Y.1
  refine lv_iload_n X.1 X.2.1 dX12_isClass_0 rfl (mz_at hl 1 rfl) ?_
  refine mz_if_lt X 16 dX12_isClass_1 (by decide) hr (fun hr => ?_) (fun hr => ?_)
  · refine lv_iconst (v := 0) X.1 X.2.1 dX12_isClass_16 (by decide) ?_
    exact mz_zret Y dX12_isClass_17 hH hS hc hs hr
  · refine lv_iload_n X.1 X.2.1 dX12_isClass_4 rfl (mz_at hl 1 rfl) ?_
    refine mz_aload_n X dX12_isClass_5 rfl (mz_at hl 0 rfl) ?_
    refine mz_getI X hH fl_RX12_135 dX12_isClass_6 hr (fun v1 hr => ?_)
    refine mz_icmp_ge X 16 dX12_isClass_9 (by decide) hr (fun hr => ?_) (fun hr => ?_)
    · refine lv_iconst (v := 0) X.1 X.2.1 dX12_isClass_16 (by decide) ?_
      exact mz_zret Y dX12_isClass_17 hH hS hc hs hr
    · refine lv_iconst (v := 1) X.1 X.2.1 dX12_isClass_12 (by decide) ?_
      refine lv_goto (tgt := 17) X.1 X.2.1 dX12_isClass_13 (by decide) ?_
      exact mz_zret Y dX12_isClass_17 hH hS hc hs hr
set_option maxRecDepth 100000 in
theorem ct_X12_isClass (l : Launch) (g : mz_G) (h : mz_H) (a0 : (Option Nat)) (x1 : Int32) (r : Int32) (hf : mz_H) (k n : Nat) (hr : fn_X12_isClass h a0 x1 = some (r, hf, k, n)) : mz_C l g yX12_isClass cX12_isClass 2 (some .boolean) 0 0 [va_rf a0, .int x1] h (some (Value.int r)) hf k n := by
  refine mz_met (as := [(false, va_rf a0), (false, .int x1)]) (plainFor_of_name (by decide)) (mz_c1 (mz_cat_rf _) (mz_c1 rfl mz_c0)) (Nat.le_of_ble_eq_true rfl) ?_
  intro p e s m args below meth c Y
  exact pf_X12_isClass_b0 r Y h a0 x1 _ _ hr
theorem dX12_above_0 : decode cX12_above 0 = .ok (.iconst 0, 1) := by decide +kernel
theorem dX12_above_1 : decode cX12_above 1 = .ok (.istore_n 2, 1) := by decide +kernel
theorem dX12_above_2 : decode cX12_above 2 = .ok (.aload_n 0, 1) := by decide +kernel
theorem dX12_above_3 : decode cX12_above 3 = .ok (.getfield 13, 3) := by decide +kernel
theorem dX12_above_6 : decode cX12_above 6 = .ok (.iload_n 1, 1) := by decide +kernel
theorem dX12_above_7 : decode cX12_above 7 = .ok (.iaload, 1) := by decide +kernel
theorem dX12_above_8 : decode cX12_above 8 = .ok (.istore_n 3, 1) := by decide +kernel
theorem dX12_above_9 : decode cX12_above 9 = .ok (.iload_n 3, 1) := by decide +kernel
theorem dX12_above_10 : decode cX12_above 10 = .ok (.bipush (-9), 2) := by decide +kernel
theorem dX12_above_12 : decode cX12_above 12 = .ok (.if_icmp .eq 16, 3) := by decide +kernel
theorem dX12_above_15 : decode cX12_above 15 = .ok (.iinc 2 1, 3) := by decide +kernel
theorem dX12_above_18 : decode cX12_above 18 = .ok (.aload_n 0, 1) := by decide +kernel
theorem dX12_above_19 : decode cX12_above 19 = .ok (.getfield 13, 3) := by decide +kernel
theorem dX12_above_22 : decode cX12_above 22 = .ok (.iload_n 3, 1) := by decide +kernel
theorem dX12_above_23 : decode cX12_above 23 = .ok (.iaload, 1) := by decide +kernel
theorem dX12_above_24 : decode cX12_above 24 = .ok (.istore_n 3, 1) := by decide +kernel
theorem dX12_above_25 : decode cX12_above 25 = .ok (.goto (-16), 3) := by decide +kernel
theorem dX12_above_28 : decode cX12_above 28 = .ok (.iload_n 2, 1) := by decide +kernel
theorem dX12_above_29 : decode cX12_above 29 = .ok (.ireturn, 1) := by decide +kernel
def fn_X12_above_b9 : Nat → mz_H → (Option Nat) → Int32 → Int32 → mz_Res Int32
  | 0, _, _, _, _ => none
  | n + 1, h, a0, x2, x3 =>
    if x3 = (-9) then
      mz_ret x2 h
    else
      mz_op (some (x2 + 1)) fun v1 =>
      mz_op (mz_fR h a0 11 4) fun v2 =>
      mz_op (mz_aI h v2 0 x3) fun v3 =>
      fn_X12_above_b9 n h a0 v1 v3
set_option maxHeartbeats 4000000 in
set_option maxRecDepth 100000 in
theorem pf_X12_above_b9 (r : Int32) (Y : mz_Y p g RX12 cX12_above 4 (some .int) "above" (mz_AF h0) s m args meth c) : ∀ (n : Nat) (h : mz_H) (a0 : (Option Nat)) (x2 : Int32) (x3 : Int32) (dc ds : Nat), fn_X12_above_b9 n h a0 x2 x3 = some (r, hf, dc, ds) → mz_Go l g p e s m args below meth c 0 0 DC DS h0 (some (Value.int r)) hf 4 9 [(0, false, va_rf a0), (2, false, .int x2), (3, false, .int x3)] [] h dc ds := by
  have X := Y.1
  intro n
  induction n with
  | zero => intro h a0 x2 x3 dc ds hr; simp [fn_X12_above_b9] at hr
  | succ n ih =>
    intro h a0 x2 x3 dc ds hr
    rw [fn_X12_above_b9] at hr
    intro H locs cells slots ls hH hS hl hc hs
    refine lv_iload_n X.1 X.2.1 dX12_above_9 rfl (mz_at hl 2 rfl) ?_
    refine lv_bipush (v := (-9)) X.1 X.2.1 dX12_above_10 (by decide) ?_
    refine mz_icmp_eq X 28 dX12_above_12 (by decide) hr (fun hr => ?_) (fun hr => ?_)
    · refine lv_iload_n X.1 X.2.1 dX12_above_28 rfl (mz_at hl 1 rfl) ?_
      exact mz_iret Y dX12_above_29 hH hS hc hs hr
    · obtain ⟨v1, hv1, hr⟩ := mz_op_some hr
      have hv1 := Option.some.inj hv1
      refine mz_iinc (k := 1) X [(2, false, .int v1), (0, false, va_rf a0), (3, false, .int x3)] v1 dX12_above_15 hl rfl hv1 (by decide) rfl (fun ls hl => ?_)
      refine mz_aload_n X dX12_above_18 rfl (mz_at hl 1 rfl) ?_
      refine mz_getR X hH fl_RX12_13 dX12_above_19 hr (fun v2 hr => ?_)
      refine lv_iload_n X.1 X.2.1 dX12_above_22 rfl (mz_at hl 2 rfl) ?_
      refine mz_iald X hH dX12_above_23 hr (fun v3 hr => ?_)
      refine mz_istore_n X [(3, false, .int v3), (2, false, .int v1), (0, false, va_rf a0)] dX12_above_24 rfl hl (by decide) rfl (fun ls hl => ?_)
      refine lv_goto (tgt := 9) X.1 X.2.1 dX12_above_25 (by decide) ?_
      exact ih h a0 v1 v3 _ _ hr H locs cells slots ls hH hS (mz_sub hl [2, 1, 0] rfl) hc hs
def fn_X12_above (h : mz_H) (a0 : (Option Nat)) (x1 : Int32) : mz_Res Int32 :=
  mz_op (mz_fR h a0 11 4) fun v1 =>
  mz_op (mz_aI h v1 0 x1) fun v2 =>
  fn_X12_above_b9 1001 h a0 0 v2
set_option maxHeartbeats 4000000 in
set_option maxRecDepth 100000 in
theorem pf_X12_above_b0 (r : Int32) (Y : mz_Y p g RX12 cX12_above 4 (some .int) "above" (mz_AF h0) s m args meth c) (h : mz_H) (a0 : (Option Nat)) (x1 : Int32) (dc ds : Nat) (hr : fn_X12_above h a0 x1 = some (r, hf, dc, ds)) : mz_Go l g p e s m args below meth c 0 0 DC DS h0 (some (Value.int r)) hf 4 0 [(0, false, va_rf a0), (1, false, .int x1)] [] h dc ds := by
  unfold fn_X12_above at hr
  intro H locs cells slots ls hH hS hl hc hs
  have X := Y.1
  refine lv_iconst (v := 0) X.1 X.2.1 dX12_above_0 (by decide) ?_
  refine mz_istore_n X [(2, false, .int 0), (0, false, va_rf a0), (1, false, .int x1)] dX12_above_1 rfl hl (by decide) rfl (fun ls hl => ?_)
  refine mz_aload_n X dX12_above_2 rfl (mz_at hl 1 rfl) ?_
  refine mz_getR X hH fl_RX12_13 dX12_above_3 hr (fun v1 hr => ?_)
  refine lv_iload_n X.1 X.2.1 dX12_above_6 rfl (mz_at hl 2 rfl) ?_
  refine mz_iald X hH dX12_above_7 hr (fun v2 hr => ?_)
  refine mz_istore_n X [(3, false, .int v2), (2, false, .int 0), (0, false, va_rf a0), (1, false, .int x1)] dX12_above_8 rfl hl (by decide) rfl (fun ls hl => ?_)
  exact pf_X12_above_b9 r Y 1001 h a0 0 v2 _ _ hr H locs cells slots ls hH hS (mz_sub hl [2, 1, 0] rfl) hc hs
set_option maxRecDepth 100000 in
theorem ct_X12_above (l : Launch) (g : mz_G) (h : mz_H) (a0 : (Option Nat)) (x1 : Int32) (r : Int32) (hf : mz_H) (k n : Nat) (hr : fn_X12_above h a0 x1 = some (r, hf, k, n)) : mz_C l g yX12_above cX12_above 4 (some .int) 0 0 [va_rf a0, .int x1] h (some (Value.int r)) hf k n := by
  refine mz_met (as := [(false, va_rf a0), (false, .int x1)]) (plainFor_of_name (by decide)) (mz_c1 (mz_cat_rf _) (mz_c1 rfl mz_c0)) (Nat.le_of_ble_eq_true rfl) ?_
  intro p e s m args below meth c Y
  exact pf_X12_above_b0 r Y h a0 x1 _ _ hr
theorem dX12_cls_0 : decode cX12_cls 0 = .ok (.iload_n 2, 1) := by decide +kernel
theorem dX12_cls_1 : decode cX12_cls 1 = .ok (.bipush (-9), 2) := by decide +kernel
theorem dX12_cls_3 : decode cX12_cls 3 = .ok (.if_icmp .eq 13, 3) := by decide +kernel
theorem dX12_cls_6 : decode cX12_cls 6 = .ok (.aload_n 0, 1) := by decide +kernel
theorem dX12_cls_7 : decode cX12_cls 7 = .ok (.iload_n 2, 1) := by decide +kernel
theorem dX12_cls_8 : decode cX12_cls 8 = .ok (.invokevirtual 138, 3) := by decide +kernel
theorem dX12_cls_11 : decode cX12_cls 11 = .ok (.ifCond .ne 5, 3) := by decide +kernel
theorem dX12_cls_14 : decode cX12_cls 14 = .ok (.iconst (-1), 1) := by decide +kernel
theorem dX12_cls_15 : decode cX12_cls 15 = .ok (.ireturn, 1) := by decide +kernel
theorem dX12_cls_16 : decode cX12_cls 16 = .ok (.iload_n 1, 1) := by decide +kernel
theorem dX12_cls_17 : decode cX12_cls 17 = .ok (.iconst 0, 1) := by decide +kernel
theorem dX12_cls_18 : decode cX12_cls 18 = .ok (.iconst 5, 1) := by decide +kernel
theorem dX12_cls_19 : decode cX12_cls 19 = .ok (.invokestatic 142, 3) := by decide +kernel
theorem dX12_cls_22 : decode cX12_cls 22 = .ok (.ifCond .ne 6, 3) := by decide +kernel
theorem dX12_cls_25 : decode cX12_cls 25 = .ok (.bipush (-2), 2) := by decide +kernel
theorem dX12_cls_27 : decode cX12_cls 27 = .ok (.ireturn, 1) := by decide +kernel
theorem dX12_cls_28 : decode cX12_cls 28 = .ok (.iload_n 1, 1) := by decide +kernel
theorem dX12_cls_29 : decode cX12_cls 29 = .ok (.iconst 1, 1) := by decide +kernel
theorem dX12_cls_30 : decode cX12_cls 30 = .ok (.if_icmp .gt 27, 3) := by decide +kernel
theorem dX12_cls_33 : decode cX12_cls 33 = .ok (.iload_n 2, 1) := by decide +kernel
theorem dX12_cls_34 : decode cX12_cls 34 = .ok (.bipush (-9), 2) := by decide +kernel
theorem dX12_cls_36 : decode cX12_cls 36 = .ok (.if_icmp .eq 13, 3) := by decide +kernel
theorem dX12_cls_39 : decode cX12_cls 39 = .ok (.aload_n 0, 1) := by decide +kernel
theorem dX12_cls_40 : decode cX12_cls 40 = .ok (.getfield 7, 3) := by decide +kernel
theorem dX12_cls_43 : decode cX12_cls 43 = .ok (.iload_n 2, 1) := by decide +kernel
theorem dX12_cls_44 : decode cX12_cls 44 = .ok (.iaload, 1) := by decide +kernel
theorem dX12_cls_45 : decode cX12_cls 45 = .ok (.iconst 1, 1) := by decide +kernel
theorem dX12_cls_46 : decode cX12_cls 46 = .ok (.if_icmp .gt 7, 3) := by decide +kernel
theorem dX12_cls_49 : decode cX12_cls 49 = .ok (.iconst 1, 1) := by decide +kernel
theorem dX12_cls_50 : decode cX12_cls 50 = .ok (.goto 47, 3) := by decide +kernel
theorem dX12_cls_53 : decode cX12_cls 53 = .ok (.iconst 0, 1) := by decide +kernel
theorem dX12_cls_54 : decode cX12_cls 54 = .ok (.goto 43, 3) := by decide +kernel
theorem dX12_cls_57 : decode cX12_cls 57 = .ok (.iload_n 1, 1) := by decide +kernel
theorem dX12_cls_58 : decode cX12_cls 58 = .ok (.iconst 5, 1) := by decide +kernel
theorem dX12_cls_59 : decode cX12_cls 59 = .ok (.if_icmp .ne 27, 3) := by decide +kernel
theorem dX12_cls_62 : decode cX12_cls 62 = .ok (.iload_n 2, 1) := by decide +kernel
theorem dX12_cls_63 : decode cX12_cls 63 = .ok (.bipush (-9), 2) := by decide +kernel
theorem dX12_cls_65 : decode cX12_cls 65 = .ok (.if_icmp .eq 17, 3) := by decide +kernel
theorem dX12_cls_68 : decode cX12_cls 68 = .ok (.aload_n 0, 1) := by decide +kernel
theorem dX12_cls_69 : decode cX12_cls 69 = .ok (.getfield 7, 3) := by decide +kernel
theorem dX12_cls_72 : decode cX12_cls 72 = .ok (.iload_n 2, 1) := by decide +kernel
theorem dX12_cls_73 : decode cX12_cls 73 = .ok (.iaload, 1) := by decide +kernel
theorem dX12_cls_74 : decode cX12_cls 74 = .ok (.iconst 4, 1) := by decide +kernel
theorem dX12_cls_75 : decode cX12_cls 75 = .ok (.if_icmp .ne 7, 3) := by decide +kernel
theorem dX12_cls_78 : decode cX12_cls 78 = .ok (.iconst 1, 1) := by decide +kernel
theorem dX12_cls_79 : decode cX12_cls 79 = .ok (.goto 18, 3) := by decide +kernel
theorem dX12_cls_82 : decode cX12_cls 82 = .ok (.iconst 0, 1) := by decide +kernel
theorem dX12_cls_83 : decode cX12_cls 83 = .ok (.goto 14, 3) := by decide +kernel
theorem dX12_cls_86 : decode cX12_cls 86 = .ok (.iload_n 2, 1) := by decide +kernel
theorem dX12_cls_87 : decode cX12_cls 87 = .ok (.bipush (-9), 2) := by decide +kernel
theorem dX12_cls_89 : decode cX12_cls 89 = .ok (.if_icmp .ne 7, 3) := by decide +kernel
theorem dX12_cls_92 : decode cX12_cls 92 = .ok (.iconst 1, 1) := by decide +kernel
theorem dX12_cls_93 : decode cX12_cls 93 = .ok (.goto 4, 3) := by decide +kernel
theorem dX12_cls_96 : decode cX12_cls 96 = .ok (.iconst 0, 1) := by decide +kernel
theorem dX12_cls_97 : decode cX12_cls 97 = .ok (.istore_n 3, 1) := by decide +kernel
theorem dX12_cls_98 : decode cX12_cls 98 = .ok (.iload_n 3, 1) := by decide +kernel
theorem dX12_cls_99 : decode cX12_cls 99 = .ok (.ifCond .ne 6, 3) := by decide +kernel
theorem dX12_cls_102 : decode cX12_cls 102 = .ok (.bipush (-3), 2) := by decide +kernel
theorem dX12_cls_104 : decode cX12_cls 104 = .ok (.ireturn, 1) := by decide +kernel
theorem dX12_cls_105 : decode cX12_cls 105 = .ok (.aload_n 0, 1) := by decide +kernel
theorem dX12_cls_106 : decode cX12_cls 106 = .ok (.getfield 135, 3) := by decide +kernel
theorem dX12_cls_109 : decode cX12_cls 109 = .ok (.bipush 40, 2) := by decide +kernel
theorem dX12_cls_111 : decode cX12_cls 111 = .ok (.if_icmp .eq 19, 3) := by decide +kernel
theorem dX12_cls_114 : decode cX12_cls 114 = .ok (.iload_n 2, 1) := by decide +kernel
theorem dX12_cls_115 : decode cX12_cls 115 = .ok (.bipush (-9), 2) := by decide +kernel
theorem dX12_cls_117 : decode cX12_cls 117 = .ok (.if_icmp .eq 16, 3) := by decide +kernel
theorem dX12_cls_120 : decode cX12_cls 120 = .ok (.aload_n 0, 1) := by decide +kernel
theorem dX12_cls_121 : decode cX12_cls 121 = .ok (.iload_n 2, 1) := by decide +kernel
theorem dX12_cls_122 : decode cX12_cls 122 = .ok (.invokevirtual 146, 3) := by decide +kernel
theorem dX12_cls_125 : decode cX12_cls 125 = .ok (.bipush 7, 2) := by decide +kernel
theorem dX12_cls_127 : decode cX12_cls 127 = .ok (.if_icmp .ne 6, 3) := by decide +kernel
theorem dX12_cls_130 : decode cX12_cls 130 = .ok (.bipush (-4), 2) := by decide +kernel
theorem dX12_cls_132 : decode cX12_cls 132 = .ok (.ireturn, 1) := by decide +kernel
theorem dX12_cls_133 : decode cX12_cls 133 = .ok (.aload_n 0, 1) := by decide +kernel
theorem dX12_cls_134 : decode cX12_cls 134 = .ok (.getfield 7, 3) := by decide +kernel
theorem dX12_cls_137 : decode cX12_cls 137 = .ok (.aload_n 0, 1) := by decide +kernel
theorem dX12_cls_138 : decode cX12_cls 138 = .ok (.getfield 135, 3) := by decide +kernel
theorem dX12_cls_141 : decode cX12_cls 141 = .ok (.iload_n 1, 1) := by decide +kernel
theorem dX12_cls_142 : decode cX12_cls 142 = .ok (.iastore, 1) := by decide +kernel
theorem dX12_cls_143 : decode cX12_cls 143 = .ok (.aload_n 0, 1) := by decide +kernel
theorem dX12_cls_144 : decode cX12_cls 144 = .ok (.getfield 13, 3) := by decide +kernel
theorem dX12_cls_147 : decode cX12_cls 147 = .ok (.aload_n 0, 1) := by decide +kernel
theorem dX12_cls_148 : decode cX12_cls 148 = .ok (.getfield 135, 3) := by decide +kernel
theorem dX12_cls_151 : decode cX12_cls 151 = .ok (.iload_n 2, 1) := by decide +kernel
theorem dX12_cls_152 : decode cX12_cls 152 = .ok (.iastore, 1) := by decide +kernel
theorem dX12_cls_153 : decode cX12_cls 153 = .ok (.aload_n 0, 1) := by decide +kernel
theorem dX12_cls_154 : decode cX12_cls 154 = .ok (.dup, 1) := by decide +kernel
theorem dX12_cls_155 : decode cX12_cls 155 = .ok (.getfield 135, 3) := by decide +kernel
theorem dX12_cls_158 : decode cX12_cls 158 = .ok (.iconst 1, 1) := by decide +kernel
theorem dX12_cls_159 : decode cX12_cls 159 = .ok (.iadd, 1) := by decide +kernel
theorem dX12_cls_160 : decode cX12_cls 160 = .ok (.putfield 135, 3) := by decide +kernel
theorem dX12_cls_163 : decode cX12_cls 163 = .ok (.aload_n 0, 1) := by decide +kernel
theorem dX12_cls_164 : decode cX12_cls 164 = .ok (.getfield 135, 3) := by decide +kernel
theorem dX12_cls_167 : decode cX12_cls 167 = .ok (.iconst 1, 1) := by decide +kernel
theorem dX12_cls_168 : decode cX12_cls 168 = .ok (.isub, 1) := by decide +kernel
theorem dX12_cls_169 : decode cX12_cls 169 = .ok (.ireturn, 1) := by decide +kernel
def fn_X12_cls_b133 (h : mz_H) (a0 : (Option Nat)) (x1 : Int32) (x2 : Int32) : mz_Res Int32 :=
  mz_op (mz_fR h a0 11 3) fun v1 =>
  mz_op (mz_fI h a0 11 2) fun v2 =>
  mz_op (mz_sI h v1 0 v2 x1) fun h =>
  mz_op (mz_fR h a0 11 4) fun v3 =>
  mz_op (mz_fI h a0 11 2) fun v4 =>
  mz_op (mz_sI h v3 0 v4 x2) fun h =>
  mz_op (mz_fI h a0 11 2) fun v5 =>
  mz_op (mz_pF h a0 11 2 (Value.int (v5 + 1))) fun h =>
  mz_op (mz_fI h a0 11 2) fun v6 =>
  mz_ret (v6 - 1) h
set_option maxHeartbeats 4000000 in
set_option maxRecDepth 100000 in
theorem pf_X12_cls_b133 (r : Int32) (Y : mz_Y p g RX12 cX12_cls 4 (some .int) "cls" (mz_AF h0) s m args meth c) (h : mz_H) (a0 : (Option Nat)) (x1 : Int32) (x2 : Int32) (dc ds : Nat) (hr : fn_X12_cls_b133 h a0 x1 x2 = some (r, hf, dc, ds)) : mz_Go l g p e s m args below meth c 1 23 DC DS h0 (some (Value.int r)) hf 4 133 [(0, false, va_rf a0), (1, false, .int x1), (2, false, .int x2)] [] h dc ds := by
  unfold fn_X12_cls_b133 at hr
  intro H locs cells slots ls hH hS hl hc hs
  have X := Y.1
  refine mz_aload_n X dX12_cls_133 rfl (mz_at hl 0 rfl) ?_
  refine mz_getR X hH fl_RX12_7 dX12_cls_134 hr (fun v1 hr => ?_)
  refine mz_aload_n X dX12_cls_137 rfl (mz_at hl 0 rfl) ?_
  refine mz_getI X hH fl_RX12_135 dX12_cls_138 hr (fun v2 hr => ?_)
  refine lv_iload_n X.1 X.2.1 dX12_cls_141 rfl (mz_at hl 1 rfl) ?_
  refine mz_iast X hH hS dX12_cls_142 hr (fun h H locs hr hH hS => ?_)
  refine mz_aload_n X dX12_cls_143 rfl (mz_at hl 0 rfl) ?_
  refine mz_getR X hH fl_RX12_13 dX12_cls_144 hr (fun v3 hr => ?_)
  refine mz_aload_n X dX12_cls_147 rfl (mz_at hl 0 rfl) ?_
  refine mz_getI X hH fl_RX12_135 dX12_cls_148 hr (fun v4 hr => ?_)
  refine lv_iload_n X.1 X.2.1 dX12_cls_151 rfl (mz_at hl 2 rfl) ?_
  refine mz_iast X hH hS dX12_cls_152 hr (fun h H locs hr hH hS => ?_)
  refine mz_aload_n X dX12_cls_153 rfl (mz_at hl 0 rfl) ?_
  refine mz_dupR X dX12_cls_154 ?_
  refine mz_getI X hH fl_RX12_135 dX12_cls_155 hr (fun v5 hr => ?_)
  refine lv_iconst (v := 1) X.1 X.2.1 dX12_cls_158 (by decide) ?_
  refine lv_iadd X.1 X.2.1 dX12_cls_159 ?_
  refine mz_put X hH hS fp_RX12_135 dX12_cls_160 rfl rfl hr (fun h H locs hr hH hS => ?_)
  refine mz_aload_n X dX12_cls_163 rfl (mz_at hl 0 rfl) ?_
  refine mz_getI X hH fl_RX12_135 dX12_cls_164 hr (fun v6 hr => ?_)
  refine lv_iconst (v := 1) X.1 X.2.1 dX12_cls_167 (by decide) ?_
  refine lv_isub X.1 X.2.1 dX12_cls_168 ?_
  exact mz_iret Y dX12_cls_169 hH hS hc hs hr
def fn_X12_cls_b97 (h : mz_H) (a0 : (Option Nat)) (x1 : Int32) (x2 : Int32) (s0 : Int32) : mz_Res Int32 :=
  if s0 = 0 then
    mz_ret (-3) h
  else
    mz_op (mz_fI h a0 11 2) fun v1 =>
    if v1 = 40 then
      mz_ret (-4) h
    else
      if x2 = (-9) then
        fn_X12_cls_b133 h a0 x1 x2
      else
        mz_chk (mz_is h a0 11) <| mz_call (fn_X12_above h a0 x2) fun v2 h =>
        if v2 = 7 then
          mz_ret (-4) h
        else
          fn_X12_cls_b133 h a0 x1 x2
set_option maxHeartbeats 4000000 in
set_option maxRecDepth 100000 in
theorem pf_X12_cls_b97 (r : Int32) (Y : mz_Y p g RX12 cX12_cls 4 (some .int) "cls" (mz_AF h0) s m args meth c) (h : mz_H) (a0 : (Option Nat)) (x1 : Int32) (x2 : Int32) (s0 : Int32) (dc ds : Nat) (hr : fn_X12_cls_b97 h a0 x1 x2 s0 = some (r, hf, dc, ds)) : mz_Go l g p e s m args below meth c 1 23 DC DS h0 (some (Value.int r)) hf 4 97 [(0, false, va_rf a0), (1, false, .int x1), (2, false, .int x2)] [.int s0] h dc ds := by
  unfold fn_X12_cls_b97 at hr
  intro H locs cells slots ls hH hS hl hc hs
  have X := Y.1
  refine mz_istore_n X [(3, false, .int s0), (0, false, va_rf a0), (1, false, .int x1), (2, false, .int x2)] dX12_cls_97 rfl hl (by decide) rfl (fun ls hl => ?_)
  refine lv_iload_n X.1 X.2.1 dX12_cls_98 rfl (mz_at hl 0 rfl) ?_
  refine mz_if_ne X 105 dX12_cls_99 (by decide) hr (fun hr => ?_) (fun hr => ?_)
  · refine mz_aload_n X dX12_cls_105 rfl (mz_at hl 1 rfl) ?_
    refine mz_getI X hH fl_RX12_135 dX12_cls_106 hr (fun v1 hr => ?_)
    refine lv_bipush (v := 40) X.1 X.2.1 dX12_cls_109 (by decide) ?_
    refine mz_icmp_eq X 130 dX12_cls_111 (by decide) hr (fun hr => ?_) (fun hr => ?_)
    · refine lv_bipush (v := (-4)) X.1 X.2.1 dX12_cls_130 (by decide) ?_
      exact mz_iret Y dX12_cls_132 hH hS hc hs hr
    · refine lv_iload_n X.1 X.2.1 dX12_cls_114 rfl (mz_at hl 3 rfl) ?_
      refine lv_bipush (v := (-9)) X.1 X.2.1 dX12_cls_115 (by decide) ?_
      refine mz_icmp_eq X 133 dX12_cls_117 (by decide) hr (fun hr => ?_) (fun hr => ?_)
      · exact pf_X12_cls_b133 r Y h a0 x1 x2 _ _ hr H locs cells slots ls hH hS (mz_sub hl [1, 2, 3] rfl) hc hs
      · refine mz_aload_n X dX12_cls_120 rfl (mz_at hl 1 rfl) ?_
        refine lv_iload_n X.1 X.2.1 dX12_cls_121 rfl (mz_at hl 3 rfl) ?_
        refine mz_kV Value.int X hH hS hl.1.1 [.int x2] [] hr (ct_X12_above l g h a0 x2) mb_RX12_146 rfl im_X12_above rfl (Nat.le_of_ble_eq_true rfl) ⟨Nat.le_of_ble_eq_true rfl, Nat.le_of_ble_eq_true rfl⟩ hc hs dX12_cls_122 rfl (fun v2 h H locs cells slots dc ds hr hH hS hc hs => ?_)
        refine lv_bipush (v := 7) X.1 X.2.1 dX12_cls_125 (by decide) ?_
        refine mz_icmp_ne X 133 dX12_cls_127 (by decide) hr (fun hr => ?_) (fun hr => ?_)
        · exact pf_X12_cls_b133 r Y h a0 x1 x2 _ _ hr H locs cells slots ls hH hS (mz_sub hl [1, 2, 3] rfl) hc hs
        · refine lv_bipush (v := (-4)) X.1 X.2.1 dX12_cls_130 (by decide) ?_
          exact mz_iret Y dX12_cls_132 hH hS hc hs hr
  · refine lv_bipush (v := (-3)) X.1 X.2.1 dX12_cls_102 (by decide) ?_
    exact mz_iret Y dX12_cls_104 hH hS hc hs hr
def fn_X12_cls_b82 (h : mz_H) (a0 : (Option Nat)) (x1 : Int32) (x2 : Int32) : mz_Res Int32 :=
  fn_X12_cls_b97 h a0 x1 x2 0
set_option maxHeartbeats 4000000 in
set_option maxRecDepth 100000 in
theorem pf_X12_cls_b82 (r : Int32) (Y : mz_Y p g RX12 cX12_cls 4 (some .int) "cls" (mz_AF h0) s m args meth c) (h : mz_H) (a0 : (Option Nat)) (x1 : Int32) (x2 : Int32) (dc ds : Nat) (hr : fn_X12_cls_b82 h a0 x1 x2 = some (r, hf, dc, ds)) : mz_Go l g p e s m args below meth c 1 23 DC DS h0 (some (Value.int r)) hf 4 82 [(0, false, va_rf a0), (1, false, .int x1), (2, false, .int x2)] [] h dc ds := by
  unfold fn_X12_cls_b82 at hr
  intro H locs cells slots ls hH hS hl hc hs
  have X := Y.1
  refine lv_iconst (v := 0) X.1 X.2.1 dX12_cls_82 (by decide) ?_
  refine lv_goto (tgt := 97) X.1 X.2.1 dX12_cls_83 (by decide) ?_
  exact pf_X12_cls_b97 r Y h a0 x1 x2 0 _ _ hr H locs cells slots ls hH hS (mz_sub hl [0, 1, 2] rfl) hc hs
def fn_X12_cls_b49 (h : mz_H) (a0 : (Option Nat)) (x1 : Int32) (x2 : Int32) : mz_Res Int32 :=
  fn_X12_cls_b97 h a0 x1 x2 1
set_option maxHeartbeats 4000000 in
set_option maxRecDepth 100000 in
theorem pf_X12_cls_b49 (r : Int32) (Y : mz_Y p g RX12 cX12_cls 4 (some .int) "cls" (mz_AF h0) s m args meth c) (h : mz_H) (a0 : (Option Nat)) (x1 : Int32) (x2 : Int32) (dc ds : Nat) (hr : fn_X12_cls_b49 h a0 x1 x2 = some (r, hf, dc, ds)) : mz_Go l g p e s m args below meth c 1 23 DC DS h0 (some (Value.int r)) hf 4 49 [(0, false, va_rf a0), (1, false, .int x1), (2, false, .int x2)] [] h dc ds := by
  unfold fn_X12_cls_b49 at hr
  intro H locs cells slots ls hH hS hl hc hs
  have X := Y.1
  refine lv_iconst (v := 1) X.1 X.2.1 dX12_cls_49 (by decide) ?_
  refine lv_goto (tgt := 97) X.1 X.2.1 dX12_cls_50 (by decide) ?_
  exact pf_X12_cls_b97 r Y h a0 x1 x2 1 _ _ hr H locs cells slots ls hH hS (mz_sub hl [0, 1, 2] rfl) hc hs
def fn_X12_cls_b16 (h : mz_H) (a0 : (Option Nat)) (x1 : Int32) (x2 : Int32) : mz_Res Int32 :=
  mz_call (fn_X12_within h x1 0 5) fun v1 h =>
  if v1 = 0 then
    mz_ret (-2) h
  else
    if 1 < x1 then
      if x1 = 5 then
        if x2 = (-9) then
          fn_X12_cls_b82 h a0 x1 x2
        else
          mz_op (mz_fR h a0 11 3) fun v2 =>
          mz_op (mz_aI h v2 0 x2) fun v3 =>
          if v3 = 4 then
            fn_X12_cls_b97 h a0 x1 x2 1
          else
            fn_X12_cls_b82 h a0 x1 x2
      else
        if x2 = (-9) then
          fn_X12_cls_b97 h a0 x1 x2 1
        else
          fn_X12_cls_b97 h a0 x1 x2 0
    else
      if x2 = (-9) then
        fn_X12_cls_b49 h a0 x1 x2
      else
        mz_op (mz_fR h a0 11 3) fun v4 =>
        mz_op (mz_aI h v4 0 x2) fun v5 =>
        if 1 < v5 then
          fn_X12_cls_b97 h a0 x1 x2 0
        else
          fn_X12_cls_b49 h a0 x1 x2
set_option maxHeartbeats 4000000 in
set_option maxRecDepth 100000 in
theorem pf_X12_cls_b16 (r : Int32) (Y : mz_Y p g RX12 cX12_cls 4 (some .int) "cls" (mz_AF h0) s m args meth c) (h : mz_H) (a0 : (Option Nat)) (x1 : Int32) (x2 : Int32) (dc ds : Nat) (hr : fn_X12_cls_b16 h a0 x1 x2 = some (r, hf, dc, ds)) : mz_Go l g p e s m args below meth c 1 23 DC DS h0 (some (Value.int r)) hf 4 16 [(0, false, va_rf a0), (1, false, .int x1), (2, false, .int x2)] [] h dc ds := by
  unfold fn_X12_cls_b16 at hr
  intro H locs cells slots ls hH hS hl hc hs
  have X := Y.1
  refine lv_iload_n X.1 X.2.1 dX12_cls_16 rfl (mz_at hl 1 rfl) ?_
  refine lv_iconst (v := 0) X.1 X.2.1 dX12_cls_17 (by decide) ?_
  refine lv_iconst (v := 5) X.1 X.2.1 dX12_cls_18 (by decide) ?_
  refine mz_kS Value.int X hH hS hl.1.1 [.int x1, .int 0, .int 5] [] hr (ct_X12_within l g h x1 0 5) mb_RX12_142 im_X12_within rfl (Nat.le_of_ble_eq_true rfl) ⟨Nat.le_of_ble_eq_true rfl, Nat.le_of_ble_eq_true rfl⟩ hc hs dX12_cls_19 rfl (fun v1 h H locs cells slots dc ds hr hH hS hc hs => ?_)
  refine mz_if_ne X 28 dX12_cls_22 (by decide) hr (fun hr => ?_) (fun hr => ?_)
  · refine lv_iload_n X.1 X.2.1 dX12_cls_28 rfl (mz_at hl 1 rfl) ?_
    refine lv_iconst (v := 1) X.1 X.2.1 dX12_cls_29 (by decide) ?_
    refine mz_icmp_gt X 57 dX12_cls_30 (by decide) hr (fun hr => ?_) (fun hr => ?_)
    · refine lv_iload_n X.1 X.2.1 dX12_cls_57 rfl (mz_at hl 1 rfl) ?_
      refine lv_iconst (v := 5) X.1 X.2.1 dX12_cls_58 (by decide) ?_
      refine mz_icmp_ne X 86 dX12_cls_59 (by decide) hr (fun hr => ?_) (fun hr => ?_)
      · refine lv_iload_n X.1 X.2.1 dX12_cls_86 rfl (mz_at hl 2 rfl) ?_
        refine lv_bipush (v := (-9)) X.1 X.2.1 dX12_cls_87 (by decide) ?_
        refine mz_icmp_ne X 96 dX12_cls_89 (by decide) hr (fun hr => ?_) (fun hr => ?_)
        · refine lv_iconst (v := 0) X.1 X.2.1 dX12_cls_96 (by decide) ?_
          exact pf_X12_cls_b97 r Y h a0 x1 x2 0 _ _ hr H locs cells slots ls hH hS (mz_sub hl [0, 1, 2] rfl) hc hs
        · refine lv_iconst (v := 1) X.1 X.2.1 dX12_cls_92 (by decide) ?_
          refine lv_goto (tgt := 97) X.1 X.2.1 dX12_cls_93 (by decide) ?_
          exact pf_X12_cls_b97 r Y h a0 x1 x2 1 _ _ hr H locs cells slots ls hH hS (mz_sub hl [0, 1, 2] rfl) hc hs
      · refine lv_iload_n X.1 X.2.1 dX12_cls_62 rfl (mz_at hl 2 rfl) ?_
        refine lv_bipush (v := (-9)) X.1 X.2.1 dX12_cls_63 (by decide) ?_
        refine mz_icmp_eq X 82 dX12_cls_65 (by decide) hr (fun hr => ?_) (fun hr => ?_)
        · exact pf_X12_cls_b82 r Y h a0 x1 x2 _ _ hr H locs cells slots ls hH hS (mz_sub hl [0, 1, 2] rfl) hc hs
        · refine mz_aload_n X dX12_cls_68 rfl (mz_at hl 0 rfl) ?_
          refine mz_getR X hH fl_RX12_7 dX12_cls_69 hr (fun v2 hr => ?_)
          refine lv_iload_n X.1 X.2.1 dX12_cls_72 rfl (mz_at hl 2 rfl) ?_
          refine mz_iald X hH dX12_cls_73 hr (fun v3 hr => ?_)
          refine lv_iconst (v := 4) X.1 X.2.1 dX12_cls_74 (by decide) ?_
          refine mz_icmp_ne X 82 dX12_cls_75 (by decide) hr (fun hr => ?_) (fun hr => ?_)
          · exact pf_X12_cls_b82 r Y h a0 x1 x2 _ _ hr H locs cells slots ls hH hS (mz_sub hl [0, 1, 2] rfl) hc hs
          · refine lv_iconst (v := 1) X.1 X.2.1 dX12_cls_78 (by decide) ?_
            refine lv_goto (tgt := 97) X.1 X.2.1 dX12_cls_79 (by decide) ?_
            exact pf_X12_cls_b97 r Y h a0 x1 x2 1 _ _ hr H locs cells slots ls hH hS (mz_sub hl [0, 1, 2] rfl) hc hs
    · refine lv_iload_n X.1 X.2.1 dX12_cls_33 rfl (mz_at hl 2 rfl) ?_
      refine lv_bipush (v := (-9)) X.1 X.2.1 dX12_cls_34 (by decide) ?_
      refine mz_icmp_eq X 49 dX12_cls_36 (by decide) hr (fun hr => ?_) (fun hr => ?_)
      · exact pf_X12_cls_b49 r Y h a0 x1 x2 _ _ hr H locs cells slots ls hH hS (mz_sub hl [0, 1, 2] rfl) hc hs
      · refine mz_aload_n X dX12_cls_39 rfl (mz_at hl 0 rfl) ?_
        refine mz_getR X hH fl_RX12_7 dX12_cls_40 hr (fun v4 hr => ?_)
        refine lv_iload_n X.1 X.2.1 dX12_cls_43 rfl (mz_at hl 2 rfl) ?_
        refine mz_iald X hH dX12_cls_44 hr (fun v5 hr => ?_)
        refine lv_iconst (v := 1) X.1 X.2.1 dX12_cls_45 (by decide) ?_
        refine mz_icmp_gt X 53 dX12_cls_46 (by decide) hr (fun hr => ?_) (fun hr => ?_)
        · refine lv_iconst (v := 0) X.1 X.2.1 dX12_cls_53 (by decide) ?_
          refine lv_goto (tgt := 97) X.1 X.2.1 dX12_cls_54 (by decide) ?_
          exact pf_X12_cls_b97 r Y h a0 x1 x2 0 _ _ hr H locs cells slots ls hH hS (mz_sub hl [0, 1, 2] rfl) hc hs
        · exact pf_X12_cls_b49 r Y h a0 x1 x2 _ _ hr H locs cells slots ls hH hS (mz_sub hl [0, 1, 2] rfl) hc hs
  · refine lv_bipush (v := (-2)) X.1 X.2.1 dX12_cls_25 (by decide) ?_
    exact mz_iret Y dX12_cls_27 hH hS hc hs hr
def fn_X12_cls (h : mz_H) (a0 : (Option Nat)) (x1 : Int32) (x2 : Int32) : mz_Res Int32 :=
  if x2 = (-9) then
    fn_X12_cls_b16 h a0 x1 x2
  else
    mz_chk (mz_is h a0 11) <| mz_call (fn_X12_isClass h a0 x2) fun v1 h =>
    if v1 = 0 then
      mz_ret (-1) h
    else
      fn_X12_cls_b16 h a0 x1 x2
set_option maxHeartbeats 4000000 in
set_option maxRecDepth 100000 in
theorem pf_X12_cls_b0 (r : Int32) (Y : mz_Y p g RX12 cX12_cls 4 (some .int) "cls" (mz_AF h0) s m args meth c) (h : mz_H) (a0 : (Option Nat)) (x1 : Int32) (x2 : Int32) (dc ds : Nat) (hr : fn_X12_cls h a0 x1 x2 = some (r, hf, dc, ds)) : mz_Go l g p e s m args below meth c 1 23 DC DS h0 (some (Value.int r)) hf 4 0 [(0, false, va_rf a0), (1, false, .int x1), (2, false, .int x2)] [] h dc ds := by
  unfold fn_X12_cls at hr
  intro H locs cells slots ls hH hS hl hc hs
  have X := Y.1
  refine lv_iload_n X.1 X.2.1 dX12_cls_0 rfl (mz_at hl 2 rfl) ?_
  refine lv_bipush (v := (-9)) X.1 X.2.1 dX12_cls_1 (by decide) ?_
  refine mz_icmp_eq X 16 dX12_cls_3 (by decide) hr (fun hr => ?_) (fun hr => ?_)
  · exact pf_X12_cls_b16 r Y h a0 x1 x2 _ _ hr H locs cells slots ls hH hS (mz_sub hl [0, 1, 2] rfl) hc hs
  · refine mz_aload_n X dX12_cls_6 rfl (mz_at hl 0 rfl) ?_
    refine lv_iload_n X.1 X.2.1 dX12_cls_7 rfl (mz_at hl 2 rfl) ?_
    refine mz_kV Value.int X hH hS hl.1.1 [.int x2] [] hr (ct_X12_isClass l g h a0 x2) mb_RX12_138 rfl im_X12_isClass rfl (Nat.le_of_ble_eq_true rfl) ⟨Nat.le_of_ble_eq_true rfl, Nat.le_of_ble_eq_true rfl⟩ hc hs dX12_cls_8 rfl (fun v1 h H locs cells slots dc ds hr hH hS hc hs => ?_)
    refine mz_if_ne X 16 dX12_cls_11 (by decide) hr (fun hr => ?_) (fun hr => ?_)
    · exact pf_X12_cls_b16 r Y h a0 x1 x2 _ _ hr H locs cells slots ls hH hS (mz_sub hl [0, 1, 2] rfl) hc hs
    · refine lv_iconst (v := (-1)) X.1 X.2.1 dX12_cls_14 (by decide) ?_
      exact mz_iret Y dX12_cls_15 hH hS hc hs hr
set_option maxRecDepth 100000 in
theorem ct_X12_cls (l : Launch) (g : mz_G) (h : mz_H) (a0 : (Option Nat)) (x1 : Int32) (x2 : Int32) (r : Int32) (hf : mz_H) (k n : Nat) (hr : fn_X12_cls h a0 x1 x2 = some (r, hf, k, n)) : mz_C l g yX12_cls cX12_cls 4 (some .int) 1 23 [va_rf a0, .int x1, .int x2] h (some (Value.int r)) hf k n := by
  refine mz_met (as := [(false, va_rf a0), (false, .int x1), (false, .int x2)]) (plainFor_of_name (by decide)) (mz_c1 (mz_cat_rf _) (mz_c1 rfl (mz_c1 rfl mz_c0))) (Nat.le_of_ble_eq_true rfl) ?_
  intro p e s m args below meth c Y
  exact pf_X12_cls_b0 r Y h a0 x1 x2 _ _ hr
theorem dX12_isOnWay_0 : decode cX12_isOnWay 0 = .ok (.iconst 0, 1) := by decide +kernel
theorem dX12_isOnWay_1 : decode cX12_isOnWay 1 = .ok (.istore_n 2, 1) := by decide +kernel
theorem dX12_isOnWay_2 : decode cX12_isOnWay 2 = .ok (.iconst 0, 1) := by decide +kernel
theorem dX12_isOnWay_3 : decode cX12_isOnWay 3 = .ok (.istore_n 3, 1) := by decide +kernel
theorem dX12_isOnWay_4 : decode cX12_isOnWay 4 = .ok (.iload_n 3, 1) := by decide +kernel
theorem dX12_isOnWay_5 : decode cX12_isOnWay 5 = .ok (.aload_n 0, 1) := by decide +kernel
theorem dX12_isOnWay_6 : decode cX12_isOnWay 6 = .ok (.getfield 149, 3) := by decide +kernel
theorem dX12_isOnWay_9 : decode cX12_isOnWay 9 = .ok (.if_icmp .ge 27, 3) := by decide +kernel
theorem dX12_isOnWay_12 : decode cX12_isOnWay 12 = .ok (.iload_n 2, 1) := by decide +kernel
theorem dX12_isOnWay_13 : decode cX12_isOnWay 13 = .ok (.aload_n 0, 1) := by decide +kernel
theorem dX12_isOnWay_14 : decode cX12_isOnWay 14 = .ok (.getfield 50, 3) := by decide +kernel
theorem dX12_isOnWay_17 : decode cX12_isOnWay 17 = .ok (.iload_n 3, 1) := by decide +kernel
theorem dX12_isOnWay_18 : decode cX12_isOnWay 18 = .ok (.iaload, 1) := by decide +kernel
theorem dX12_isOnWay_19 : decode cX12_isOnWay 19 = .ok (.iload_n 1, 1) := by decide +kernel
theorem dX12_isOnWay_20 : decode cX12_isOnWay 20 = .ok (.if_icmp .ne 7, 3) := by decide +kernel
theorem dX12_isOnWay_23 : decode cX12_isOnWay 23 = .ok (.iconst 1, 1) := by decide +kernel
theorem dX12_isOnWay_24 : decode cX12_isOnWay 24 = .ok (.goto 4, 3) := by decide +kernel
theorem dX12_isOnWay_27 : decode cX12_isOnWay 27 = .ok (.iconst 0, 1) := by decide +kernel
theorem dX12_isOnWay_28 : decode cX12_isOnWay 28 = .ok (.ior, 1) := by decide +kernel
theorem dX12_isOnWay_29 : decode cX12_isOnWay 29 = .ok (.istore_n 2, 1) := by decide +kernel
theorem dX12_isOnWay_30 : decode cX12_isOnWay 30 = .ok (.iinc 3 1, 3) := by decide +kernel
theorem dX12_isOnWay_33 : decode cX12_isOnWay 33 = .ok (.goto (-29), 3) := by decide +kernel
theorem dX12_isOnWay_36 : decode cX12_isOnWay 36 = .ok (.iload_n 2, 1) := by decide +kernel
theorem dX12_isOnWay_37 : decode cX12_isOnWay 37 = .ok (.ireturn, 1) := by decide +kernel
def fn_X12_isOnWay_b28 (rc4 : mz_H → (Option Nat) → Int32 → Int32 → Int32 → mz_Res Int32) (h : mz_H) (a0 : (Option Nat)) (x1 : Int32) (x3 : Int32) (s0 : Int32) (s1 : Int32) : mz_Res Int32 :=
  mz_op (some (s0 ||| s1)) fun v1 =>
  mz_op (some (x3 + 1)) fun v2 =>
  rc4 h a0 x1 v1 v2
set_option maxHeartbeats 4000000 in
set_option maxRecDepth 100000 in
theorem pf_X12_isOnWay_b28 (r : Int32) (Y : mz_Y p g RX12 cX12_isOnWay 4 (some .boolean) "isOnWay" (mz_AF h0) s m args meth c) {rc4 : mz_H → (Option Nat) → Int32 → Int32 → Int32 → mz_Res Int32} (hrc4 : ∀ (h : mz_H) (a0 : (Option Nat)) (x1 : Int32) (x2 : Int32) (x3 : Int32) (dc ds : Nat), rc4 h a0 x1 x2 x3 = some (r, hf, dc, ds) → mz_Go l g p e s m args below meth c 0 0 DC DS h0 (some (Value.int r)) hf 4 4 [(0, false, va_rf a0), (1, false, .int x1), (2, false, .int x2), (3, false, .int x3)] [] h dc ds) (h : mz_H) (a0 : (Option Nat)) (x1 : Int32) (x3 : Int32) (s0 : Int32) (s1 : Int32) (dc ds : Nat) (hr : fn_X12_isOnWay_b28 rc4 h a0 x1 x3 s0 s1 = some (r, hf, dc, ds)) : mz_Go l g p e s m args below meth c 0 0 DC DS h0 (some (Value.int r)) hf 4 28 [(0, false, va_rf a0), (1, false, .int x1), (3, false, .int x3)] [.int s1, .int s0] h dc ds := by
  unfold fn_X12_isOnWay_b28 at hr
  intro H locs cells slots ls hH hS hl hc hs
  have X := Y.1
  refine lv_ior X.1 X.2.1 dX12_isOnWay_28 ?_
  refine mz_topi hr (fun v1 hv1 hr => ?_)
  refine mz_istore_n X [(2, false, .int v1), (0, false, va_rf a0), (1, false, .int x1), (3, false, .int x3)] dX12_isOnWay_29 rfl hl (by decide) rfl (fun ls hl => ?_)
  obtain ⟨v2, hv2, hr⟩ := mz_op_some hr
  have hv2 := Option.some.inj hv2
  refine mz_iinc (k := 3) X [(3, false, .int v2), (2, false, .int v1), (0, false, va_rf a0), (1, false, .int x1)] v2 dX12_isOnWay_30 hl rfl hv2 (by decide) rfl (fun ls hl => ?_)
  refine lv_goto (tgt := 4) X.1 X.2.1 dX12_isOnWay_33 (by decide) ?_
  exact hrc4 h a0 x1 v1 v2 _ _ hr H locs cells slots ls hH hS (mz_sub hl [2, 3, 1, 0] rfl) hc hs
def fn_X12_isOnWay_b4 : Nat → mz_H → (Option Nat) → Int32 → Int32 → Int32 → mz_Res Int32
  | 0, _, _, _, _, _ => none
  | n + 1, h, a0, x1, x2, x3 =>
    mz_op (mz_fI h a0 11 17) fun v1 =>
    if v1 ≤ x3 then
      mz_chk (x2 &&& 1 == x2) (mz_ret x2 h)
    else
      mz_op (mz_fR h a0 11 16) fun v2 =>
      mz_op (mz_aI h v2 0 x3) fun v3 =>
      if v3 = x1 then
        fn_X12_isOnWay_b28 (fn_X12_isOnWay_b4 n) h a0 x1 x3 x2 1
      else
        fn_X12_isOnWay_b28 (fn_X12_isOnWay_b4 n) h a0 x1 x3 x2 0
set_option maxHeartbeats 4000000 in
set_option maxRecDepth 100000 in
theorem pf_X12_isOnWay_b4 (r : Int32) (Y : mz_Y p g RX12 cX12_isOnWay 4 (some .boolean) "isOnWay" (mz_AF h0) s m args meth c) : ∀ (n : Nat) (h : mz_H) (a0 : (Option Nat)) (x1 : Int32) (x2 : Int32) (x3 : Int32) (dc ds : Nat), fn_X12_isOnWay_b4 n h a0 x1 x2 x3 = some (r, hf, dc, ds) → mz_Go l g p e s m args below meth c 0 0 DC DS h0 (some (Value.int r)) hf 4 4 [(0, false, va_rf a0), (1, false, .int x1), (2, false, .int x2), (3, false, .int x3)] [] h dc ds := by
  have X := Y.1
  intro n
  induction n with
  | zero => intro h a0 x1 x2 x3 dc ds hr; simp [fn_X12_isOnWay_b4] at hr
  | succ n ih =>
    intro h a0 x1 x2 x3 dc ds hr
    rw [fn_X12_isOnWay_b4] at hr
    intro H locs cells slots ls hH hS hl hc hs
    refine lv_iload_n X.1 X.2.1 dX12_isOnWay_4 rfl (mz_at hl 3 rfl) ?_
    refine mz_aload_n X dX12_isOnWay_5 rfl (mz_at hl 0 rfl) ?_
    refine mz_getI X hH fl_RX12_149 dX12_isOnWay_6 hr (fun v1 hr => ?_)
    refine mz_icmp_ge X 36 dX12_isOnWay_9 (by decide) hr (fun hr => ?_) (fun hr => ?_)
    · refine lv_iload_n X.1 X.2.1 dX12_isOnWay_36 rfl (mz_at hl 2 rfl) ?_
      exact mz_zret Y dX12_isOnWay_37 hH hS hc hs hr
    · refine lv_iload_n X.1 X.2.1 dX12_isOnWay_12 rfl (mz_at hl 2 rfl) ?_
      refine mz_aload_n X dX12_isOnWay_13 rfl (mz_at hl 0 rfl) ?_
      refine mz_getR X hH fl_RX12_50 dX12_isOnWay_14 hr (fun v2 hr => ?_)
      refine lv_iload_n X.1 X.2.1 dX12_isOnWay_17 rfl (mz_at hl 3 rfl) ?_
      refine mz_iald X hH dX12_isOnWay_18 hr (fun v3 hr => ?_)
      refine lv_iload_n X.1 X.2.1 dX12_isOnWay_19 rfl (mz_at hl 1 rfl) ?_
      refine mz_icmp_ne X 27 dX12_isOnWay_20 (by decide) hr (fun hr => ?_) (fun hr => ?_)
      · refine lv_iconst (v := 0) X.1 X.2.1 dX12_isOnWay_27 (by decide) ?_
        exact pf_X12_isOnWay_b28 r Y ih h a0 x1 x3 x2 0 _ _ hr H locs cells slots ls hH hS (mz_sub hl [0, 1, 3] rfl) hc hs
      · refine lv_iconst (v := 1) X.1 X.2.1 dX12_isOnWay_23 (by decide) ?_
        refine lv_goto (tgt := 28) X.1 X.2.1 dX12_isOnWay_24 (by decide) ?_
        exact pf_X12_isOnWay_b28 r Y ih h a0 x1 x3 x2 1 _ _ hr H locs cells slots ls hH hS (mz_sub hl [0, 1, 3] rfl) hc hs
def fn_X12_isOnWay (h : mz_H) (a0 : (Option Nat)) (x1 : Int32) : mz_Res Int32 :=
  fn_X12_isOnWay_b4 1001 h a0 x1 0 0
set_option maxHeartbeats 4000000 in
set_option maxRecDepth 100000 in
theorem pf_X12_isOnWay_b0 (r : Int32) (Y : mz_Y p g RX12 cX12_isOnWay 4 (some .boolean) "isOnWay" (mz_AF h0) s m args meth c) (h : mz_H) (a0 : (Option Nat)) (x1 : Int32) (dc ds : Nat) (hr : fn_X12_isOnWay h a0 x1 = some (r, hf, dc, ds)) : mz_Go l g p e s m args below meth c 0 0 DC DS h0 (some (Value.int r)) hf 4 0 [(0, false, va_rf a0), (1, false, .int x1)] [] h dc ds := by
  unfold fn_X12_isOnWay at hr
  intro H locs cells slots ls hH hS hl hc hs
  have X := Y.1
  refine lv_iconst (v := 0) X.1 X.2.1 dX12_isOnWay_0 (by decide) ?_
  refine mz_istore_n X [(2, false, .int 0), (0, false, va_rf a0), (1, false, .int x1)] dX12_isOnWay_1 rfl hl (by decide) rfl (fun ls hl => ?_)
  refine lv_iconst (v := 0) X.1 X.2.1 dX12_isOnWay_2 (by decide) ?_
  refine mz_istore_n X [(3, false, .int 0), (2, false, .int 0), (0, false, va_rf a0), (1, false, .int x1)] dX12_isOnWay_3 rfl hl (by decide) rfl (fun ls hl => ?_)
  exact pf_X12_isOnWay_b4 r Y 1001 h a0 x1 0 0 _ _ hr H locs cells slots ls hH hS (mz_sub hl [2, 3, 1, 0] rfl) hc hs
set_option maxRecDepth 100000 in
theorem ct_X12_isOnWay (l : Launch) (g : mz_G) (h : mz_H) (a0 : (Option Nat)) (x1 : Int32) (r : Int32) (hf : mz_H) (k n : Nat) (hr : fn_X12_isOnWay h a0 x1 = some (r, hf, k, n)) : mz_C l g yX12_isOnWay cX12_isOnWay 4 (some .boolean) 0 0 [va_rf a0, .int x1] h (some (Value.int r)) hf k n := by
  refine mz_met (as := [(false, va_rf a0), (false, .int x1)]) (plainFor_of_name (by decide)) (mz_c1 (mz_cat_rf _) (mz_c1 rfl mz_c0)) (Nat.le_of_ble_eq_true rfl) ?_
  intro p e s m args below meth c Y
  exact pf_X12_isOnWay_b0 r Y h a0 x1 _ _ hr
theorem dX12_put_0 : decode cX12_put 0 = .ok (.aload_n 0, 1) := by decide +kernel
theorem dX12_put_1 : decode cX12_put 1 = .ok (.getfield 50, 3) := by decide +kernel
theorem dX12_put_4 : decode cX12_put 4 = .ok (.aload_n 0, 1) := by decide +kernel
theorem dX12_put_5 : decode cX12_put 5 = .ok (.getfield 149, 3) := by decide +kernel
theorem dX12_put_8 : decode cX12_put 8 = .ok (.iload_n 1, 1) := by decide +kernel
theorem dX12_put_9 : decode cX12_put 9 = .ok (.iastore, 1) := by decide +kernel
theorem dX12_put_10 : decode cX12_put 10 = .ok (.aload_n 0, 1) := by decide +kernel
theorem dX12_put_11 : decode cX12_put 11 = .ok (.dup, 1) := by decide +kernel
theorem dX12_put_12 : decode cX12_put 12 = .ok (.getfield 149, 3) := by decide +kernel
theorem dX12_put_15 : decode cX12_put 15 = .ok (.iconst 1, 1) := by decide +kernel
theorem dX12_put_16 : decode cX12_put 16 = .ok (.iadd, 1) := by decide +kernel
theorem dX12_put_17 : decode cX12_put 17 = .ok (.putfield 149, 3) := by decide +kernel
theorem dX12_put_20 : decode cX12_put 20 = .ok (.return_, 1) := by decide +kernel
def fn_X12_put (h : mz_H) (a0 : (Option Nat)) (x1 : Int32) : mz_Res Unit :=
  mz_op (mz_fR h a0 11 16) fun v1 =>
  mz_op (mz_fI h a0 11 17) fun v2 =>
  mz_op (mz_sI h v1 0 v2 x1) fun h =>
  mz_op (mz_fI h a0 11 17) fun v3 =>
  mz_op (mz_pF h a0 11 17 (Value.int (v3 + 1))) fun h =>
  mz_ret () h
set_option maxHeartbeats 4000000 in
set_option maxRecDepth 100000 in
theorem pf_X12_put_b0 (r : Unit) (Y : mz_Y p g RX12 cX12_put 2 none "put" (mz_AF h0) s m args meth c) (h : mz_H) (a0 : (Option Nat)) (x1 : Int32) (dc ds : Nat) (hr : fn_X12_put h a0 x1 = some (r, hf, dc, ds)) : mz_Go l g p e s m args below meth c 0 0 DC DS h0 none hf 2 0 [(0, false, va_rf a0), (1, false, .int x1)] [] h dc ds := by
  unfold fn_X12_put at hr
  intro H locs cells slots ls hH hS hl hc hs
  have X := Y.1
  refine mz_aload_n X dX12_put_0 rfl (mz_at hl 0 rfl) ?_
  refine mz_getR X hH fl_RX12_50 dX12_put_1 hr (fun v1 hr => ?_)
  refine mz_aload_n X dX12_put_4 rfl (mz_at hl 0 rfl) ?_
  refine mz_getI X hH fl_RX12_149 dX12_put_5 hr (fun v2 hr => ?_)
  refine lv_iload_n X.1 X.2.1 dX12_put_8 rfl (mz_at hl 1 rfl) ?_
  refine mz_iast X hH hS dX12_put_9 hr (fun h H locs hr hH hS => ?_)
  refine mz_aload_n X dX12_put_10 rfl (mz_at hl 0 rfl) ?_
  refine mz_dupR X dX12_put_11 ?_
  refine mz_getI X hH fl_RX12_149 dX12_put_12 hr (fun v3 hr => ?_)
  refine lv_iconst (v := 1) X.1 X.2.1 dX12_put_15 (by decide) ?_
  refine lv_iadd X.1 X.2.1 dX12_put_16 ?_
  refine mz_put X hH hS fp_RX12_149 dX12_put_17 rfl rfl hr (fun h H locs hr hH hS => ?_)
  exact mz_vret Y dX12_put_20 hH hS hc hs hr
set_option maxRecDepth 100000 in
theorem ct_X12_put (l : Launch) (g : mz_G) (h : mz_H) (a0 : (Option Nat)) (x1 : Int32) (r : Unit) (hf : mz_H) (k n : Nat) (hr : fn_X12_put h a0 x1 = some (r, hf, k, n)) : mz_C l g yX12_put cX12_put 2 none 0 0 [va_rf a0, .int x1] h none hf k n := by
  refine mz_met (as := [(false, va_rf a0), (false, .int x1)]) (plainFor_of_name (by decide)) (mz_c1 (mz_cat_rf _) (mz_c1 rfl mz_c0)) (Nat.le_of_ble_eq_true rfl) ?_
  intro p e s m args below meth c Y
  exact pf_X12_put_b0 r Y h a0 x1 _ _ hr
theorem dX12_findWay_0 : decode cX12_findWay 0 = .ok (.aload_n 0, 1) := by decide +kernel
theorem dX12_findWay_1 : decode cX12_findWay 1 = .ok (.iconst 0, 1) := by decide +kernel
theorem dX12_findWay_2 : decode cX12_findWay 2 = .ok (.putfield 149, 3) := by decide +kernel
theorem dX12_findWay_5 : decode cX12_findWay 5 = .ok (.iload_n 1, 1) := by decide +kernel
theorem dX12_findWay_6 : decode cX12_findWay 6 = .ok (.istore_n 2, 1) := by decide +kernel
theorem dX12_findWay_7 : decode cX12_findWay 7 = .ok (.iload_n 2, 1) := by decide +kernel
theorem dX12_findWay_8 : decode cX12_findWay 8 = .ok (.bipush (-9), 2) := by decide +kernel
theorem dX12_findWay_10 : decode cX12_findWay 10 = .ok (.if_icmp .eq 18, 3) := by decide +kernel
theorem dX12_findWay_13 : decode cX12_findWay 13 = .ok (.aload_n 0, 1) := by decide +kernel
theorem dX12_findWay_14 : decode cX12_findWay 14 = .ok (.iload_n 2, 1) := by decide +kernel
theorem dX12_findWay_15 : decode cX12_findWay 15 = .ok (.invokevirtual 152, 3) := by decide +kernel
theorem dX12_findWay_18 : decode cX12_findWay 18 = .ok (.aload_n 0, 1) := by decide +kernel
theorem dX12_findWay_19 : decode cX12_findWay 19 = .ok (.getfield 13, 3) := by decide +kernel
theorem dX12_findWay_22 : decode cX12_findWay 22 = .ok (.iload_n 2, 1) := by decide +kernel
theorem dX12_findWay_23 : decode cX12_findWay 23 = .ok (.iaload, 1) := by decide +kernel
theorem dX12_findWay_24 : decode cX12_findWay 24 = .ok (.istore_n 2, 1) := by decide +kernel
theorem dX12_findWay_25 : decode cX12_findWay 25 = .ok (.goto (-18), 3) := by decide +kernel
theorem dX12_findWay_28 : decode cX12_findWay 28 = .ok (.aload_n 0, 1) := by decide +kernel
theorem dX12_findWay_29 : decode cX12_findWay 29 = .ok (.getfield 149, 3) := by decide +kernel
theorem dX12_findWay_32 : decode cX12_findWay 32 = .ok (.istore_n 2, 1) := by decide +kernel
theorem dX12_findWay_33 : decode cX12_findWay 33 = .ok (.iconst 0, 1) := by decide +kernel
theorem dX12_findWay_34 : decode cX12_findWay 34 = .ok (.istore_n 3, 1) := by decide +kernel
theorem dX12_findWay_35 : decode cX12_findWay 35 = .ok (.iload_n 3, 1) := by decide +kernel
theorem dX12_findWay_36 : decode cX12_findWay 36 = .ok (.iload_n 2, 1) := by decide +kernel
theorem dX12_findWay_37 : decode cX12_findWay 37 = .ok (.if_icmp .ge 136, 3) := by decide +kernel
theorem dX12_findWay_40 : decode cX12_findWay 40 = .ok (.aload_n 0, 1) := by decide +kernel
theorem dX12_findWay_41 : decode cX12_findWay 41 = .ok (.getfield 53, 3) := by decide +kernel
theorem dX12_findWay_44 : decode cX12_findWay 44 = .ok (.iconst 0, 1) := by decide +kernel
theorem dX12_findWay_45 : decode cX12_findWay 45 = .ok (.aload_n 0, 1) := by decide +kernel
theorem dX12_findWay_46 : decode cX12_findWay 46 = .ok (.getfield 50, 3) := by decide +kernel
theorem dX12_findWay_49 : decode cX12_findWay 49 = .ok (.iload_n 3, 1) := by decide +kernel
theorem dX12_findWay_50 : decode cX12_findWay 50 = .ok (.iaload, 1) := by decide +kernel
theorem dX12_findWay_51 : decode cX12_findWay 51 = .ok (.iastore, 1) := by decide +kernel
theorem dX12_findWay_52 : decode cX12_findWay 52 = .ok (.aload_n 0, 1) := by decide +kernel
theorem dX12_findWay_53 : decode cX12_findWay 53 = .ok (.getfield 56, 3) := by decide +kernel
theorem dX12_findWay_56 : decode cX12_findWay 56 = .ok (.iconst 0, 1) := by decide +kernel
theorem dX12_findWay_57 : decode cX12_findWay 57 = .ok (.iconst 0, 1) := by decide +kernel
theorem dX12_findWay_58 : decode cX12_findWay 58 = .ok (.iastore, 1) := by decide +kernel
theorem dX12_findWay_59 : decode cX12_findWay 59 = .ok (.iconst 0, 1) := by decide +kernel
theorem dX12_findWay_60 : decode cX12_findWay 60 = .ok (.istore 4, 2) := by decide +kernel
theorem dX12_findWay_62 : decode cX12_findWay 62 = .ok (.iload 4, 2) := by decide +kernel
theorem dX12_findWay_64 : decode cX12_findWay 64 = .ok (.ifCond .lt 103, 3) := by decide +kernel
theorem dX12_findWay_67 : decode cX12_findWay 67 = .ok (.aload_n 0, 1) := by decide +kernel
theorem dX12_findWay_68 : decode cX12_findWay 68 = .ok (.getfield 53, 3) := by decide +kernel
theorem dX12_findWay_71 : decode cX12_findWay 71 = .ok (.iload 4, 2) := by decide +kernel
theorem dX12_findWay_73 : decode cX12_findWay 73 = .ok (.iaload, 1) := by decide +kernel
theorem dX12_findWay_74 : decode cX12_findWay 74 = .ok (.istore 5, 2) := by decide +kernel
theorem dX12_findWay_76 : decode cX12_findWay 76 = .ok (.aload_n 0, 1) := by decide +kernel
theorem dX12_findWay_77 : decode cX12_findWay 77 = .ok (.getfield 56, 3) := by decide +kernel
theorem dX12_findWay_80 : decode cX12_findWay 80 = .ok (.iload 4, 2) := by decide +kernel
theorem dX12_findWay_82 : decode cX12_findWay 82 = .ok (.iaload, 1) := by decide +kernel
theorem dX12_findWay_83 : decode cX12_findWay 83 = .ok (.aload_n 0, 1) := by decide +kernel
theorem dX12_findWay_84 : decode cX12_findWay 84 = .ok (.getfield 16, 3) := by decide +kernel
theorem dX12_findWay_87 : decode cX12_findWay 87 = .ok (.iload 5, 2) := by decide +kernel
theorem dX12_findWay_89 : decode cX12_findWay 89 = .ok (.iaload, 1) := by decide +kernel
theorem dX12_findWay_90 : decode cX12_findWay 90 = .ok (.if_icmp .ne 9, 3) := by decide +kernel
theorem dX12_findWay_93 : decode cX12_findWay 93 = .ok (.iinc 4 (-1), 3) := by decide +kernel
theorem dX12_findWay_96 : decode cX12_findWay 96 = .ok (.goto 68, 3) := by decide +kernel
theorem dX12_findWay_99 : decode cX12_findWay 99 = .ok (.aload_n 0, 1) := by decide +kernel
theorem dX12_findWay_100 : decode cX12_findWay 100 = .ok (.getfield 19, 3) := by decide +kernel
theorem dX12_findWay_103 : decode cX12_findWay 103 = .ok (.iconst 3, 1) := by decide +kernel
theorem dX12_findWay_104 : decode cX12_findWay 104 = .ok (.iload 5, 2) := by decide +kernel
theorem dX12_findWay_106 : decode cX12_findWay 106 = .ok (.imul, 1) := by decide +kernel
theorem dX12_findWay_107 : decode cX12_findWay 107 = .ok (.aload_n 0, 1) := by decide +kernel
theorem dX12_findWay_108 : decode cX12_findWay 108 = .ok (.getfield 56, 3) := by decide +kernel
theorem dX12_findWay_111 : decode cX12_findWay 111 = .ok (.iload 4, 2) := by decide +kernel
theorem dX12_findWay_113 : decode cX12_findWay 113 = .ok (.iaload, 1) := by decide +kernel
theorem dX12_findWay_114 : decode cX12_findWay 114 = .ok (.iadd, 1) := by decide +kernel
theorem dX12_findWay_115 : decode cX12_findWay 115 = .ok (.iaload, 1) := by decide +kernel
theorem dX12_findWay_116 : decode cX12_findWay 116 = .ok (.istore 6, 2) := by decide +kernel
theorem dX12_findWay_118 : decode cX12_findWay 118 = .ok (.aload_n 0, 1) := by decide +kernel
theorem dX12_findWay_119 : decode cX12_findWay 119 = .ok (.getfield 56, 3) := by decide +kernel
theorem dX12_findWay_122 : decode cX12_findWay 122 = .ok (.iload 4, 2) := by decide +kernel
theorem dX12_findWay_124 : decode cX12_findWay 124 = .ok (.dup2, 1) := by decide +kernel
theorem dX12_findWay_125 : decode cX12_findWay 125 = .ok (.iaload, 1) := by decide +kernel
theorem dX12_findWay_126 : decode cX12_findWay 126 = .ok (.iconst 1, 1) := by decide +kernel
theorem dX12_findWay_127 : decode cX12_findWay 127 = .ok (.iadd, 1) := by decide +kernel
theorem dX12_findWay_128 : decode cX12_findWay 128 = .ok (.iastore, 1) := by decide +kernel
theorem dX12_findWay_129 : decode cX12_findWay 129 = .ok (.aload_n 0, 1) := by decide +kernel
theorem dX12_findWay_130 : decode cX12_findWay 130 = .ok (.iload 6, 2) := by decide +kernel
theorem dX12_findWay_132 : decode cX12_findWay 132 = .ok (.invokevirtual 156, 3) := by decide +kernel
theorem dX12_findWay_135 : decode cX12_findWay 135 = .ok (.ifCond .ne 29, 3) := by decide +kernel
theorem dX12_findWay_138 : decode cX12_findWay 138 = .ok (.aload_n 0, 1) := by decide +kernel
theorem dX12_findWay_139 : decode cX12_findWay 139 = .ok (.iload 6, 2) := by decide +kernel
theorem dX12_findWay_141 : decode cX12_findWay 141 = .ok (.invokevirtual 152, 3) := by decide +kernel
theorem dX12_findWay_144 : decode cX12_findWay 144 = .ok (.iinc 4 1, 3) := by decide +kernel
theorem dX12_findWay_147 : decode cX12_findWay 147 = .ok (.aload_n 0, 1) := by decide +kernel
theorem dX12_findWay_148 : decode cX12_findWay 148 = .ok (.getfield 53, 3) := by decide +kernel
theorem dX12_findWay_151 : decode cX12_findWay 151 = .ok (.iload 4, 2) := by decide +kernel
theorem dX12_findWay_153 : decode cX12_findWay 153 = .ok (.iload 6, 2) := by decide +kernel
theorem dX12_findWay_155 : decode cX12_findWay 155 = .ok (.iastore, 1) := by decide +kernel
theorem dX12_findWay_156 : decode cX12_findWay 156 = .ok (.aload_n 0, 1) := by decide +kernel
theorem dX12_findWay_157 : decode cX12_findWay 157 = .ok (.getfield 56, 3) := by decide +kernel
theorem dX12_findWay_160 : decode cX12_findWay 160 = .ok (.iload 4, 2) := by decide +kernel
theorem dX12_findWay_162 : decode cX12_findWay 162 = .ok (.iconst 0, 1) := by decide +kernel
theorem dX12_findWay_163 : decode cX12_findWay 163 = .ok (.iastore, 1) := by decide +kernel
theorem dX12_findWay_164 : decode cX12_findWay 164 = .ok (.goto (-102), 3) := by decide +kernel
theorem dX12_findWay_167 : decode cX12_findWay 167 = .ok (.iinc 3 1, 3) := by decide +kernel
theorem dX12_findWay_170 : decode cX12_findWay 170 = .ok (.goto (-135), 3) := by decide +kernel
theorem dX12_findWay_173 : decode cX12_findWay 173 = .ok (.return_, 1) := by decide +kernel
def fn_X12_findWay_b164 (rc35 : mz_H → (Option Nat) → Int32 → Int32 → mz_Res Unit) (rc62 : mz_H → (Option Nat) → Int32 → Int32 → Int32 → mz_Res Unit) (h : mz_H) (a0 : (Option Nat)) (x2 : Int32) (x3 : Int32) (x4 : Int32) : mz_Res Unit :=
  rc62 h a0 x2 x3 x4
set_option maxHeartbeats 4000000 in
set_option maxRecDepth 100000 in
theorem pf_X12_findWay_b164 (r : Unit) (Y : mz_Y p g RX12 cX12_findWay 7 none "findWay" (mz_AF h0) s m args meth c) {rc35 : mz_H → (Option Nat) → Int32 → Int32 → mz_Res Unit} (hrc35 : ∀ (h : mz_H) (a0 : (Option Nat)) (x2 : Int32) (x3 : Int32) (dc ds : Nat), rc35 h a0 x2 x3 = some (r, hf, dc, ds) → mz_Go l g p e s m args below meth c 1 23 DC DS h0 none hf 7 35 [(0, false, va_rf a0), (2, false, .int x2), (3, false, .int x3)] [] h dc ds) {rc62 : mz_H → (Option Nat) → Int32 → Int32 → Int32 → mz_Res Unit} (hrc62 : ∀ (h : mz_H) (a0 : (Option Nat)) (x2 : Int32) (x3 : Int32) (x4 : Int32) (dc ds : Nat), rc62 h a0 x2 x3 x4 = some (r, hf, dc, ds) → mz_Go l g p e s m args below meth c 1 23 DC DS h0 none hf 7 62 [(0, false, va_rf a0), (2, false, .int x2), (3, false, .int x3), (4, false, .int x4)] [] h dc ds) (h : mz_H) (a0 : (Option Nat)) (x2 : Int32) (x3 : Int32) (x4 : Int32) (dc ds : Nat) (hr : fn_X12_findWay_b164 rc35 rc62 h a0 x2 x3 x4 = some (r, hf, dc, ds)) : mz_Go l g p e s m args below meth c 1 23 DC DS h0 none hf 7 164 [(0, false, va_rf a0), (2, false, .int x2), (3, false, .int x3), (4, false, .int x4)] [] h dc ds := by
  unfold fn_X12_findWay_b164 at hr
  intro H locs cells slots ls hH hS hl hc hs
  have X := Y.1
  refine lv_goto (tgt := 62) X.1 X.2.1 dX12_findWay_164 (by decide) ?_
  exact hrc62 h a0 x2 x3 x4 _ _ hr H locs cells slots ls hH hS (mz_sub hl [0, 1, 2, 3] rfl) hc hs
def fn_X12_findWay_b62 (rc35 : mz_H → (Option Nat) → Int32 → Int32 → mz_Res Unit) : Nat → mz_H → (Option Nat) → Int32 → Int32 → Int32 → mz_Res Unit
  | 0, _, _, _, _, _ => none
  | n + 1, h, a0, x2, x3, x4 =>
    if x4 < 0 then
      mz_op (some (x3 + 1)) fun v1 =>
      rc35 h a0 x2 v1
    else
      mz_op (mz_fR h a0 11 18) fun v2 =>
      mz_op (mz_aI h v2 0 x4) fun v3 =>
      mz_op (mz_fR h a0 11 19) fun v4 =>
      mz_op (mz_aI h v4 0 x4) fun v5 =>
      mz_op (mz_fR h a0 11 5) fun v6 =>
      mz_op (mz_aI h v6 0 v3) fun v7 =>
      if v5 = v7 then
        mz_op (some (x4 + (-1))) fun v18 =>
        fn_X12_findWay_b164 rc35 (fn_X12_findWay_b62 rc35 n) h a0 x2 x3 v18
      else
        mz_op (mz_fR h a0 11 6) fun v8 =>
        mz_op (mz_fR h a0 11 19) fun v9 =>
        mz_op (mz_aI h v9 0 x4) fun v10 =>
        mz_op (mz_aI h v8 0 ((3 * v3) + v10)) fun v11 =>
        mz_op (mz_fR h a0 11 19) fun v12 =>
        mz_op (mz_aI h v12 0 x4) fun v13 =>
        mz_op (mz_sI h v12 0 x4 (v13 + 1)) fun h =>
        mz_chk (mz_is h a0 11) <| mz_call (fn_X12_isOnWay h a0 v11) fun v14 h =>
        if v14 = 0 then
          mz_chk (mz_is h a0 11) <| mz_call (fn_X12_put h a0 v11) fun _ h =>
          mz_op (some (x4 + 1)) fun v15 =>
          mz_op (mz_fR h a0 11 18) fun v16 =>
          mz_op (mz_sI h v16 0 v15 v11) fun h =>
          mz_op (mz_fR h a0 11 19) fun v17 =>
          mz_op (mz_sI h v17 0 v15 0) fun h =>
          fn_X12_findWay_b164 rc35 (fn_X12_findWay_b62 rc35 n) h a0 x2 x3 v15
        else
          fn_X12_findWay_b164 rc35 (fn_X12_findWay_b62 rc35 n) h a0 x2 x3 x4
set_option maxHeartbeats 4000000 in
set_option maxRecDepth 100000 in
theorem pf_X12_findWay_b62 (r : Unit) (Y : mz_Y p g RX12 cX12_findWay 7 none "findWay" (mz_AF h0) s m args meth c) {rc35 : mz_H → (Option Nat) → Int32 → Int32 → mz_Res Unit} (hrc35 : ∀ (h : mz_H) (a0 : (Option Nat)) (x2 : Int32) (x3 : Int32) (dc ds : Nat), rc35 h a0 x2 x3 = some (r, hf, dc, ds) → mz_Go l g p e s m args below meth c 1 23 DC DS h0 none hf 7 35 [(0, false, va_rf a0), (2, false, .int x2), (3, false, .int x3)] [] h dc ds) : ∀ (n : Nat) (h : mz_H) (a0 : (Option Nat)) (x2 : Int32) (x3 : Int32) (x4 : Int32) (dc ds : Nat), fn_X12_findWay_b62 rc35 n h a0 x2 x3 x4 = some (r, hf, dc, ds) → mz_Go l g p e s m args below meth c 1 23 DC DS h0 none hf 7 62 [(0, false, va_rf a0), (2, false, .int x2), (3, false, .int x3), (4, false, .int x4)] [] h dc ds := by
  have X := Y.1
  intro n
  induction n with
  | zero => intro h a0 x2 x3 x4 dc ds hr; simp [fn_X12_findWay_b62] at hr
  | succ n ih =>
    intro h a0 x2 x3 x4 dc ds hr
    rw [fn_X12_findWay_b62] at hr
    intro H locs cells slots ls hH hS hl hc hs
    refine lv_iload X.1 X.2.1 dX12_findWay_62 (mz_at hl 3 rfl) ?_
    refine mz_if_lt X 167 dX12_findWay_64 (by decide) hr (fun hr => ?_) (fun hr => ?_)
    · obtain ⟨v1, hv1, hr⟩ := mz_op_some hr
      have hv1 := Option.some.inj hv1
      refine mz_iinc (k := 2) X [(3, false, .int v1), (0, false, va_rf a0), (2, false, .int x2), (4, false, .int x4)] v1 dX12_findWay_167 hl rfl hv1 (by decide) rfl (fun ls hl => ?_)
      refine lv_goto (tgt := 35) X.1 X.2.1 dX12_findWay_170 (by decide) ?_
      exact hrc35 h a0 x2 v1 _ _ hr H locs cells slots ls hH hS (mz_sub hl [1, 2, 0] rfl) hc hs
    · refine mz_aload_n X dX12_findWay_67 rfl (mz_at hl 0 rfl) ?_
      refine mz_getR X hH fl_RX12_53 dX12_findWay_68 hr (fun v2 hr => ?_)
      refine lv_iload X.1 X.2.1 dX12_findWay_71 (mz_at hl 3 rfl) ?_
      refine mz_iald X hH dX12_findWay_73 hr (fun v3 hr => ?_)
      refine mz_istore X [(5, false, .int v3), (0, false, va_rf a0), (2, false, .int x2), (3, false, .int x3), (4, false, .int x4)] dX12_findWay_74 hl (by decide) rfl (fun ls hl => ?_)
      refine mz_aload_n X dX12_findWay_76 rfl (mz_at hl 1 rfl) ?_
      refine mz_getR X hH fl_RX12_56 dX12_findWay_77 hr (fun v4 hr => ?_)
      refine lv_iload X.1 X.2.1 dX12_findWay_80 (mz_at hl 4 rfl) ?_
      refine mz_iald X hH dX12_findWay_82 hr (fun v5 hr => ?_)
      refine mz_aload_n X dX12_findWay_83 rfl (mz_at hl 1 rfl) ?_
      refine mz_getR X hH fl_RX12_16 dX12_findWay_84 hr (fun v6 hr => ?_)
      refine lv_iload X.1 X.2.1 dX12_findWay_87 (mz_at hl 0 rfl) ?_
      refine mz_iald X hH dX12_findWay_89 hr (fun v7 hr => ?_)
      refine mz_icmp_ne X 99 dX12_findWay_90 (by decide) hr (fun hr => ?_) (fun hr => ?_)
      · refine mz_aload_n X dX12_findWay_99 rfl (mz_at hl 1 rfl) ?_
        refine mz_getR X hH fl_RX12_19 dX12_findWay_100 hr (fun v8 hr => ?_)
        refine lv_iconst (v := 3) X.1 X.2.1 dX12_findWay_103 (by decide) ?_
        refine lv_iload X.1 X.2.1 dX12_findWay_104 (mz_at hl 0 rfl) ?_
        refine lv_imul X.1 X.2.1 dX12_findWay_106 ?_
        refine mz_aload_n X dX12_findWay_107 rfl (mz_at hl 1 rfl) ?_
        refine mz_getR X hH fl_RX12_56 dX12_findWay_108 hr (fun v9 hr => ?_)
        refine lv_iload X.1 X.2.1 dX12_findWay_111 (mz_at hl 4 rfl) ?_
        refine mz_iald X hH dX12_findWay_113 hr (fun v10 hr => ?_)
        refine lv_iadd X.1 X.2.1 dX12_findWay_114 ?_
        refine mz_iald X hH dX12_findWay_115 hr (fun v11 hr => ?_)
        refine mz_istore X [(6, false, .int v11), (5, false, .int v3), (0, false, va_rf a0), (2, false, .int x2), (3, false, .int x3), (4, false, .int x4)] dX12_findWay_116 hl (by decide) rfl (fun ls hl => ?_)
        refine mz_aload_n X dX12_findWay_118 rfl (mz_at hl 2 rfl) ?_
        refine mz_getR X hH fl_RX12_56 dX12_findWay_119 hr (fun v12 hr => ?_)
        refine lv_iload X.1 X.2.1 dX12_findWay_122 (mz_at hl 5 rfl) ?_
        refine mz_dup2 X dX12_findWay_124 ?_
        refine mz_iald X hH dX12_findWay_125 hr (fun v13 hr => ?_)
        refine lv_iconst (v := 1) X.1 X.2.1 dX12_findWay_126 (by decide) ?_
        refine lv_iadd X.1 X.2.1 dX12_findWay_127 ?_
        refine mz_iast X hH hS dX12_findWay_128 hr (fun h H locs hr hH hS => ?_)
        refine mz_aload_n X dX12_findWay_129 rfl (mz_at hl 2 rfl) ?_
        refine lv_iload X.1 X.2.1 dX12_findWay_130 (mz_at hl 0 rfl) ?_
        refine mz_kV Value.int X hH hS hl.1.1 [.int v11] [] hr (ct_X12_isOnWay l g h a0 v11) mb_RX12_156 rfl im_X12_isOnWay rfl (Nat.le_of_ble_eq_true rfl) ⟨Nat.le_of_ble_eq_true rfl, Nat.le_of_ble_eq_true rfl⟩ hc hs dX12_findWay_132 rfl (fun v14 h H locs cells slots dc ds hr hH hS hc hs => ?_)
        refine mz_if_ne X 164 dX12_findWay_135 (by decide) hr (fun hr => ?_) (fun hr => ?_)
        · exact pf_X12_findWay_b164 r Y hrc35 ih h a0 x2 x3 x4 _ _ hr H locs cells slots ls hH hS (mz_sub hl [2, 3, 4, 5] rfl) hc hs
        · refine mz_aload_n X dX12_findWay_138 rfl (mz_at hl 2 rfl) ?_
          refine lv_iload X.1 X.2.1 dX12_findWay_139 (mz_at hl 0 rfl) ?_
          refine mz_kV0 X hH hS hl.1.1 [.int v11] [] hr (ct_X12_put l g h a0 v11) mb_RX12_152 rfl im_X12_put rfl (Nat.le_of_ble_eq_true rfl) ⟨Nat.le_of_ble_eq_true rfl, Nat.le_of_ble_eq_true rfl⟩ hc hs dX12_findWay_141 rfl (fun _ h H locs cells slots dc ds hr hH hS hc hs => ?_)
          obtain ⟨v15, hv15, hr⟩ := mz_op_some hr
          have hv15 := Option.some.inj hv15
          refine mz_iinc (k := 5) X [(4, false, .int v15), (6, false, .int v11), (5, false, .int v3), (0, false, va_rf a0), (2, false, .int x2), (3, false, .int x3)] v15 dX12_findWay_144 hl rfl hv15 (by decide) rfl (fun ls hl => ?_)
          refine mz_aload_n X dX12_findWay_147 rfl (mz_at hl 3 rfl) ?_
          refine mz_getR X hH fl_RX12_53 dX12_findWay_148 hr (fun v16 hr => ?_)
          refine lv_iload X.1 X.2.1 dX12_findWay_151 (mz_at hl 0 rfl) ?_
          refine lv_iload X.1 X.2.1 dX12_findWay_153 (mz_at hl 1 rfl) ?_
          refine mz_iast X hH hS dX12_findWay_155 hr (fun h H locs hr hH hS => ?_)
          refine mz_aload_n X dX12_findWay_156 rfl (mz_at hl 3 rfl) ?_
          refine mz_getR X hH fl_RX12_56 dX12_findWay_157 hr (fun v17 hr => ?_)
          refine lv_iload X.1 X.2.1 dX12_findWay_160 (mz_at hl 0 rfl) ?_
          refine lv_iconst (v := 0) X.1 X.2.1 dX12_findWay_162 (by decide) ?_
          refine mz_iast X hH hS dX12_findWay_163 hr (fun h H locs hr hH hS => ?_)
          exact pf_X12_findWay_b164 r Y hrc35 ih h a0 x2 x3 v15 _ _ hr H locs cells slots ls hH hS (mz_sub hl [3, 4, 5, 0] rfl) hc hs
      · obtain ⟨v18, hv18, hr⟩ := mz_op_some hr
        have hv18 := Option.some.inj hv18
        refine mz_iinc (k := 4) X [(4, false, .int v18), (5, false, .int v3), (0, false, va_rf a0), (2, false, .int x2), (3, false, .int x3)] v18 dX12_findWay_93 hl rfl hv18 (by decide) rfl (fun ls hl => ?_)
        refine lv_goto (tgt := 164) X.1 X.2.1 dX12_findWay_96 (by decide) ?_
        exact pf_X12_findWay_b164 r Y hrc35 ih h a0 x2 x3 v18 _ _ hr H locs cells slots ls hH hS (mz_sub hl [2, 3, 4, 0] rfl) hc hs
def fn_X12_findWay_b35 : Nat → mz_H → (Option Nat) → Int32 → Int32 → mz_Res Unit
  | 0, _, _, _, _ => none
  | n + 1, h, a0, x2, x3 =>
    if x2 ≤ x3 then
      mz_ret () h
    else
      mz_op (mz_fR h a0 11 18) fun v1 =>
      mz_op (mz_fR h a0 11 16) fun v2 =>
      mz_op (mz_aI h v2 0 x3) fun v3 =>
      mz_op (mz_sI h v1 0 0 v3) fun h =>
      mz_op (mz_fR h a0 11 19) fun v4 =>
      mz_op (mz_sI h v4 0 0 0) fun h =>
      fn_X12_findWay_b62 (fn_X12_findWay_b35 n) 1001 h a0 x2 x3 0
set_option maxHeartbeats 4000000 in
set_option maxRecDepth 100000 in
theorem pf_X12_findWay_b35 (r : Unit) (Y : mz_Y p g RX12 cX12_findWay 7 none "findWay" (mz_AF h0) s m args meth c) : ∀ (n : Nat) (h : mz_H) (a0 : (Option Nat)) (x2 : Int32) (x3 : Int32) (dc ds : Nat), fn_X12_findWay_b35 n h a0 x2 x3 = some (r, hf, dc, ds) → mz_Go l g p e s m args below meth c 1 23 DC DS h0 none hf 7 35 [(0, false, va_rf a0), (2, false, .int x2), (3, false, .int x3)] [] h dc ds := by
  have X := Y.1
  intro n
  induction n with
  | zero => intro h a0 x2 x3 dc ds hr; simp [fn_X12_findWay_b35] at hr
  | succ n ih =>
    intro h a0 x2 x3 dc ds hr
    rw [fn_X12_findWay_b35] at hr
    intro H locs cells slots ls hH hS hl hc hs
    refine lv_iload_n X.1 X.2.1 dX12_findWay_35 rfl (mz_at hl 2 rfl) ?_
    refine lv_iload_n X.1 X.2.1 dX12_findWay_36 rfl (mz_at hl 1 rfl) ?_
    refine mz_icmp_ge X 173 dX12_findWay_37 (by decide) hr (fun hr => ?_) (fun hr => ?_)
    · exact mz_vret Y dX12_findWay_173 hH hS hc hs hr
    · refine mz_aload_n X dX12_findWay_40 rfl (mz_at hl 0 rfl) ?_
      refine mz_getR X hH fl_RX12_53 dX12_findWay_41 hr (fun v1 hr => ?_)
      refine lv_iconst (v := 0) X.1 X.2.1 dX12_findWay_44 (by decide) ?_
      refine mz_aload_n X dX12_findWay_45 rfl (mz_at hl 0 rfl) ?_
      refine mz_getR X hH fl_RX12_50 dX12_findWay_46 hr (fun v2 hr => ?_)
      refine lv_iload_n X.1 X.2.1 dX12_findWay_49 rfl (mz_at hl 2 rfl) ?_
      refine mz_iald X hH dX12_findWay_50 hr (fun v3 hr => ?_)
      refine mz_iast X hH hS dX12_findWay_51 hr (fun h H locs hr hH hS => ?_)
      refine mz_aload_n X dX12_findWay_52 rfl (mz_at hl 0 rfl) ?_
      refine mz_getR X hH fl_RX12_56 dX12_findWay_53 hr (fun v4 hr => ?_)
      refine lv_iconst (v := 0) X.1 X.2.1 dX12_findWay_56 (by decide) ?_
      refine lv_iconst (v := 0) X.1 X.2.1 dX12_findWay_57 (by decide) ?_
      refine mz_iast X hH hS dX12_findWay_58 hr (fun h H locs hr hH hS => ?_)
      refine lv_iconst (v := 0) X.1 X.2.1 dX12_findWay_59 (by decide) ?_
      refine mz_istore X [(4, false, .int 0), (0, false, va_rf a0), (2, false, .int x2), (3, false, .int x3)] dX12_findWay_60 hl (by decide) rfl (fun ls hl => ?_)
      exact pf_X12_findWay_b62 r Y ih 1001 h a0 x2 x3 0 _ _ hr H locs cells slots ls hH hS (mz_sub hl [1, 2, 3, 0] rfl) hc hs
def fn_X12_findWay_b7 : Nat → mz_H → (Option Nat) → Int32 → mz_Res Unit
  | 0, _, _, _ => none
  | n + 1, h, a0, x2 =>
    if x2 = (-9) then
      mz_op (mz_fI h a0 11 17) fun v1 =>
      fn_X12_findWay_b35 1001 h a0 v1 0
    else
      mz_chk (mz_is h a0 11) <| mz_call (fn_X12_put h a0 x2) fun _ h =>
      mz_op (mz_fR h a0 11 4) fun v2 =>
      mz_op (mz_aI h v2 0 x2) fun v3 =>
      fn_X12_findWay_b7 n h a0 v3
set_option maxHeartbeats 4000000 in
set_option maxRecDepth 100000 in
theorem pf_X12_findWay_b7 (r : Unit) (Y : mz_Y p g RX12 cX12_findWay 7 none "findWay" (mz_AF h0) s m args meth c) : ∀ (n : Nat) (h : mz_H) (a0 : (Option Nat)) (x2 : Int32) (dc ds : Nat), fn_X12_findWay_b7 n h a0 x2 = some (r, hf, dc, ds) → mz_Go l g p e s m args below meth c 1 23 DC DS h0 none hf 7 7 [(0, false, va_rf a0), (2, false, .int x2)] [] h dc ds := by
  have X := Y.1
  intro n
  induction n with
  | zero => intro h a0 x2 dc ds hr; simp [fn_X12_findWay_b7] at hr
  | succ n ih =>
    intro h a0 x2 dc ds hr
    rw [fn_X12_findWay_b7] at hr
    intro H locs cells slots ls hH hS hl hc hs
    refine lv_iload_n X.1 X.2.1 dX12_findWay_7 rfl (mz_at hl 1 rfl) ?_
    refine lv_bipush (v := (-9)) X.1 X.2.1 dX12_findWay_8 (by decide) ?_
    refine mz_icmp_eq X 28 dX12_findWay_10 (by decide) hr (fun hr => ?_) (fun hr => ?_)
    · refine mz_aload_n X dX12_findWay_28 rfl (mz_at hl 0 rfl) ?_
      refine mz_getI X hH fl_RX12_149 dX12_findWay_29 hr (fun v1 hr => ?_)
      refine mz_istore_n X [(2, false, .int v1), (0, false, va_rf a0)] dX12_findWay_32 rfl hl (by decide) rfl (fun ls hl => ?_)
      refine lv_iconst (v := 0) X.1 X.2.1 dX12_findWay_33 (by decide) ?_
      refine mz_istore_n X [(3, false, .int 0), (2, false, .int v1), (0, false, va_rf a0)] dX12_findWay_34 rfl hl (by decide) rfl (fun ls hl => ?_)
      exact pf_X12_findWay_b35 r Y 1001 h a0 v1 0 _ _ hr H locs cells slots ls hH hS (mz_sub hl [2, 1, 0] rfl) hc hs
    · refine mz_aload_n X dX12_findWay_13 rfl (mz_at hl 0 rfl) ?_
      refine lv_iload_n X.1 X.2.1 dX12_findWay_14 rfl (mz_at hl 1 rfl) ?_
      refine mz_kV0 X hH hS hl.1.1 [.int x2] [] hr (ct_X12_put l g h a0 x2) mb_RX12_152 rfl im_X12_put rfl (Nat.le_of_ble_eq_true rfl) ⟨Nat.le_of_ble_eq_true rfl, Nat.le_of_ble_eq_true rfl⟩ hc hs dX12_findWay_15 rfl (fun _ h H locs cells slots dc ds hr hH hS hc hs => ?_)
      refine mz_aload_n X dX12_findWay_18 rfl (mz_at hl 0 rfl) ?_
      refine mz_getR X hH fl_RX12_13 dX12_findWay_19 hr (fun v2 hr => ?_)
      refine lv_iload_n X.1 X.2.1 dX12_findWay_22 rfl (mz_at hl 1 rfl) ?_
      refine mz_iald X hH dX12_findWay_23 hr (fun v3 hr => ?_)
      refine mz_istore_n X [(2, false, .int v3), (0, false, va_rf a0)] dX12_findWay_24 rfl hl (by decide) rfl (fun ls hl => ?_)
      refine lv_goto (tgt := 7) X.1 X.2.1 dX12_findWay_25 (by decide) ?_
      exact ih h a0 v3 _ _ hr H locs cells slots ls hH hS (mz_sub hl [1, 0] rfl) hc hs
def fn_X12_findWay (h : mz_H) (a0 : (Option Nat)) (x1 : Int32) : mz_Res Unit :=
  mz_op (mz_pF h a0 11 17 (Value.int 0)) fun h =>
  fn_X12_findWay_b7 1001 h a0 x1
set_option maxHeartbeats 4000000 in
set_option maxRecDepth 100000 in
theorem pf_X12_findWay_b0 (r : Unit) (Y : mz_Y p g RX12 cX12_findWay 7 none "findWay" (mz_AF h0) s m args meth c) (h : mz_H) (a0 : (Option Nat)) (x1 : Int32) (dc ds : Nat) (hr : fn_X12_findWay h a0 x1 = some (r, hf, dc, ds)) : mz_Go l g p e s m args below meth c 1 23 DC DS h0 none hf 7 0 [(0, false, va_rf a0), (1, false, .int x1)] [] h dc ds := by
  unfold fn_X12_findWay at hr
  intro H locs cells slots ls hH hS hl hc hs
  have X := Y.1
  refine mz_aload_n X dX12_findWay_0 rfl (mz_at hl 0 rfl) ?_
  refine lv_iconst (v := 0) X.1 X.2.1 dX12_findWay_1 (by decide) ?_
  refine mz_put X hH hS fp_RX12_149 dX12_findWay_2 rfl rfl hr (fun h H locs hr hH hS => ?_)
  refine lv_iload_n X.1 X.2.1 dX12_findWay_5 rfl (mz_at hl 1 rfl) ?_
  refine mz_istore_n X [(2, false, .int x1), (0, false, va_rf a0), (1, false, .int x1)] dX12_findWay_6 rfl hl (by decide) rfl (fun ls hl => ?_)
  exact pf_X12_findWay_b7 r Y 1001 h a0 x1 _ _ hr H locs cells slots ls hH hS (mz_sub hl [1, 0] rfl) hc hs
set_option maxRecDepth 100000 in
theorem ct_X12_findWay (l : Launch) (g : mz_G) (h : mz_H) (a0 : (Option Nat)) (x1 : Int32) (r : Unit) (hf : mz_H) (k n : Nat) (hr : fn_X12_findWay h a0 x1 = some (r, hf, k, n)) : mz_C l g yX12_findWay cX12_findWay 7 none 1 23 [va_rf a0, .int x1] h none hf k n := by
  refine mz_met (as := [(false, va_rf a0), (false, .int x1)]) (plainFor_of_name (by decide)) (mz_c1 (mz_cat_rf _) (mz_c1 rfl mz_c0)) (Nat.le_of_ble_eq_true rfl) ?_
  intro p e s m args below meth c Y
  exact pf_X12_findWay_b0 r Y h a0 x1 _ _ hr
end
