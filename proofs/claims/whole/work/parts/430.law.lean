/-! THE CLAIM OUT OF ONE WALK OF THE LAW'S BODY. Your part is whole_start (and what it stands on); all else here is the same for every law, but numbers. -/
def R_law : String := "EventCountersLaw"
def lw_P (b : Addr) (xs : List Int32) (args : Array Value) (s : State) : Prop := args = #[.ref b] ∧ s.IntsAt b xs ∧ xs.length ≤ 3072 ∧ (Jvm.Cond.and given_1 narrow_1).before args s = true
def lw_Q (_ : Array Value) (s : State) (o : Outcome) (t : State) : Prop := o = .returned (some (.int 1)) ∧ Framed s o t [] 600000 7302250
def lw_Z (below : List Frame) (a : Array Value) (s : State) : State → Prop := fun t => ∃ o, t.status = .running ∧ Ended t below o ∧ lw_Q a s o t
/-- the law's own end, with 1 on the stack, nothing written that was there before, its room as the claim has it -/
theorem lw_ret {p : Program} {l : Launch} {e : Env} {s : State} {m : MethodId} {below : List Frame} {meth : Method} {c : Code} {b : Nat} (hx : p.tables.exec = Jvm.exec) (hb : c.code = code) (hr : meth.sig.returnType = ret) (hlocks : meth.locks = false) {pc : Nat} {H : Heap} {ls : Array Slot} (hdg : decode code pc = .ok (.ireturn, 1)) : W p l e room_1 s m #[Value.ref b] below meth c H [] 600000 7302250 (lw_Z below #[Value.ref b] s) (F0 m pc ls [.int 1]) := by
  intro T hT X
  obtain ⟨fs, hret, hrun, hended, hW, hframe⟩ := X.leave (v := some (.int 1)) (hlocks := hlocks) (fun h => by rw [hr] at h; cases h)
  have hmeth' : T.vm.method? m = some meth := X.method'
  refine ⟨T.setFrames fs, ?_, .returned (some (.int 1)), hrun, hended, rfl, ⟨_, rfl⟩, hW, hframe⟩
  jvm_step X.here [X.here.top, hx, hb, hdg, hmeth', hr, ret, narrow_b1]
  (try refine ⟨rfl, ?_⟩); (try refine ⟨rfl, ?_⟩)
  first | (intro acts; rw [hret _ acts rfl rfl rfl]) | rw [hret _ _ rfl rfl rfl]
  exact Steps.refl _
/-- what holds at the law's entry: the machine, the code, the tables' words (any of lw_tbl by 'hts w (by decide +kernel)'), the script of L ints xs at the cell b, what the Statement gives of the start (any of its parts by flat_of_before) -/
def lw_At (p : Program) (s : State) (m : MethodId) (meth : Method) (c : Code) (b L : Nat) (xs : Nat → Int32) : Prop :=
  p.tables.exec = Jvm.exec ∧ c.code = code ∧ meth.sig.returnType = ret ∧ c.maxLocals = 4 ∧ s.vm.findClass R_law = some m.cls ∧ (∀ w ∈ lw_tbl, w.before #[Value.ref b] s = true) ∧ va_X b L xs s s.heap ∧ b < s.heap.size ∧ meth.locks = false ∧ (Jvm.Cond.and given_1 narrow_1).before #[Value.ref b] s = true
theorem dL_law_0 : decode cL_law 0 = .ok (.new 7, 3) := by decide +kernel
theorem dL_law_3 : decode cL_law 3 = .ok (.dup, 1) := by decide +kernel
theorem dL_law_4 : decode cL_law 4 = .ok (.invokespecial 9, 3) := by decide +kernel
theorem dL_law_7 : decode cL_law 7 = .ok (.astore_n 1, 1) := by decide +kernel
theorem dL_law_8 : decode cL_law 8 = .ok (.new 10, 3) := by decide +kernel
theorem dL_law_11 : decode cL_law 11 = .ok (.dup, 1) := by decide +kernel
theorem dL_law_12 : decode cL_law 12 = .ok (.invokespecial 12, 3) := by decide +kernel
theorem dL_law_15 : decode cL_law 15 = .ok (.astore_n 2, 1) := by decide +kernel
theorem dL_law_16 : decode cL_law 16 = .ok (.iconst 0, 1) := by decide +kernel
theorem dL_law_17 : decode cL_law 17 = .ok (.istore_n 3, 1) := by decide +kernel
theorem dL_law_18 : decode cL_law 18 = .ok (.iload_n 3, 1) := by decide +kernel
theorem dL_law_19 : decode cL_law 19 = .ok (.aload_n 0, 1) := by decide +kernel
theorem dL_law_20 : decode cL_law 20 = .ok (.arraylength, 1) := by decide +kernel
theorem dL_law_21 : decode cL_law 21 = .ok (.bipush 6, 2) := by decide +kernel
theorem dL_law_23 : decode cL_law 23 = .ok (.isub, 1) := by decide +kernel
theorem dL_law_24 : decode cL_law 24 = .ok (.if_icmp .gt 1621, 3) := by decide +kernel
theorem dL_law_27 : decode cL_law 27 = .ok (.aload_n 0, 1) := by decide +kernel
theorem dL_law_28 : decode cL_law 28 = .ok (.iload_n 3, 1) := by decide +kernel
theorem dL_law_29 : decode cL_law 29 = .ok (.iaload, 1) := by decide +kernel
theorem dL_law_30 : decode cL_law 30 = .ok (.bipush 63, 2) := by decide +kernel
theorem dL_law_32 : decode cL_law 32 = .ok (.iand, 1) := by decide +kernel
theorem dL_law_33 : decode cL_law 33 = .ok (.tableswitch 1606 0 36 #[163, 216, 239, 252, 265, 298, 321, 344, 397, 430, 473, 516, 529, 562, 585, 618, 651, 674, 707, 740, 793, 847, 900, 963, 1026, 1090, 1143, 1196, 1249, 1302, 1335, 1378, 1391, 1434, 1477, 1520, 1583], 163) := by decide +kernel
theorem dL_law_196 : decode cL_law 196 = .ok (.aload_n 1, 1) := by decide +kernel
theorem dL_law_197 : decode cL_law 197 = .ok (.aload_n 0, 1) := by decide +kernel
theorem dL_law_198 : decode cL_law 198 = .ok (.iload_n 3, 1) := by decide +kernel
theorem dL_law_199 : decode cL_law 199 = .ok (.iconst 1, 1) := by decide +kernel
theorem dL_law_200 : decode cL_law 200 = .ok (.iadd, 1) := by decide +kernel
theorem dL_law_201 : decode cL_law 201 = .ok (.iaload, 1) := by decide +kernel
theorem dL_law_202 : decode cL_law 202 = .ok (.i2l, 1) := by decide +kernel
theorem dL_law_203 : decode cL_law 203 = .ok (.bipush 32, 2) := by decide +kernel
theorem dL_law_205 : decode cL_law 205 = .ok (.lshl, 1) := by decide +kernel
theorem dL_law_206 : decode cL_law 206 = .ok (.aload_n 0, 1) := by decide +kernel
theorem dL_law_207 : decode cL_law 207 = .ok (.iload_n 3, 1) := by decide +kernel
theorem dL_law_208 : decode cL_law 208 = .ok (.iconst 2, 1) := by decide +kernel
theorem dL_law_209 : decode cL_law 209 = .ok (.iadd, 1) := by decide +kernel
theorem dL_law_210 : decode cL_law 210 = .ok (.iaload, 1) := by decide +kernel
theorem dL_law_211 : decode cL_law 211 = .ok (.i2l, 1) := by decide +kernel
theorem dL_law_212 : decode cL_law 212 = .ok (.ldc2_w 13, 3) := by decide +kernel
theorem dL_law_215 : decode cL_law 215 = .ok (.land, 1) := by decide +kernel
theorem dL_law_216 : decode cL_law 216 = .ok (.lor, 1) := by decide +kernel
theorem dL_law_217 : decode cL_law 217 = .ok (.invokevirtual 15, 3) := by decide +kernel
theorem dL_law_220 : decode cL_law 220 = .ok (.aload_n 2, 1) := by decide +kernel
theorem dL_law_221 : decode cL_law 221 = .ok (.aload_n 0, 1) := by decide +kernel
theorem dL_law_222 : decode cL_law 222 = .ok (.iload_n 3, 1) := by decide +kernel
theorem dL_law_223 : decode cL_law 223 = .ok (.iconst 1, 1) := by decide +kernel
theorem dL_law_224 : decode cL_law 224 = .ok (.iadd, 1) := by decide +kernel
theorem dL_law_225 : decode cL_law 225 = .ok (.iaload, 1) := by decide +kernel
theorem dL_law_226 : decode cL_law 226 = .ok (.i2l, 1) := by decide +kernel
theorem dL_law_227 : decode cL_law 227 = .ok (.bipush 32, 2) := by decide +kernel
theorem dL_law_229 : decode cL_law 229 = .ok (.lshl, 1) := by decide +kernel
theorem dL_law_230 : decode cL_law 230 = .ok (.aload_n 0, 1) := by decide +kernel
theorem dL_law_231 : decode cL_law 231 = .ok (.iload_n 3, 1) := by decide +kernel
theorem dL_law_232 : decode cL_law 232 = .ok (.iconst 2, 1) := by decide +kernel
theorem dL_law_233 : decode cL_law 233 = .ok (.iadd, 1) := by decide +kernel
theorem dL_law_234 : decode cL_law 234 = .ok (.iaload, 1) := by decide +kernel
theorem dL_law_235 : decode cL_law 235 = .ok (.i2l, 1) := by decide +kernel
theorem dL_law_236 : decode cL_law 236 = .ok (.ldc2_w 13, 3) := by decide +kernel
theorem dL_law_239 : decode cL_law 239 = .ok (.land, 1) := by decide +kernel
theorem dL_law_240 : decode cL_law 240 = .ok (.lor, 1) := by decide +kernel
theorem dL_law_241 : decode cL_law 241 = .ok (.invokevirtual 19, 3) := by decide +kernel
theorem dL_law_244 : decode cL_law 244 = .ok (.if_icmp .eq 1395, 3) := by decide +kernel
theorem dL_law_247 : decode cL_law 247 = .ok (.iconst 0, 1) := by decide +kernel
theorem dL_law_248 : decode cL_law 248 = .ok (.ireturn, 1) := by decide +kernel
theorem dL_law_249 : decode cL_law 249 = .ok (.aload_n 1, 1) := by decide +kernel
theorem dL_law_250 : decode cL_law 250 = .ok (.aload_n 0, 1) := by decide +kernel
theorem dL_law_251 : decode cL_law 251 = .ok (.iload_n 3, 1) := by decide +kernel
theorem dL_law_252 : decode cL_law 252 = .ok (.iconst 1, 1) := by decide +kernel
theorem dL_law_253 : decode cL_law 253 = .ok (.iadd, 1) := by decide +kernel
theorem dL_law_254 : decode cL_law 254 = .ok (.iaload, 1) := by decide +kernel
theorem dL_law_255 : decode cL_law 255 = .ok (.invokevirtual 20, 3) := by decide +kernel
theorem dL_law_258 : decode cL_law 258 = .ok (.aload_n 2, 1) := by decide +kernel
theorem dL_law_259 : decode cL_law 259 = .ok (.aload_n 0, 1) := by decide +kernel
theorem dL_law_260 : decode cL_law 260 = .ok (.iload_n 3, 1) := by decide +kernel
theorem dL_law_261 : decode cL_law 261 = .ok (.iconst 1, 1) := by decide +kernel
theorem dL_law_262 : decode cL_law 262 = .ok (.iadd, 1) := by decide +kernel
theorem dL_law_263 : decode cL_law 263 = .ok (.iaload, 1) := by decide +kernel
theorem dL_law_264 : decode cL_law 264 = .ok (.invokevirtual 24, 3) := by decide +kernel
theorem dL_law_267 : decode cL_law 267 = .ok (.if_icmp .eq 1372, 3) := by decide +kernel
theorem dL_law_270 : decode cL_law 270 = .ok (.iconst 0, 1) := by decide +kernel
theorem dL_law_271 : decode cL_law 271 = .ok (.ireturn, 1) := by decide +kernel
theorem dL_law_272 : decode cL_law 272 = .ok (.aload_n 1, 1) := by decide +kernel
theorem dL_law_273 : decode cL_law 273 = .ok (.invokevirtual 25, 3) := by decide +kernel
theorem dL_law_276 : decode cL_law 276 = .ok (.aload_n 2, 1) := by decide +kernel
theorem dL_law_277 : decode cL_law 277 = .ok (.invokevirtual 29, 3) := by decide +kernel
theorem dL_law_280 : decode cL_law 280 = .ok (.if_icmp .eq 1359, 3) := by decide +kernel
theorem dL_law_283 : decode cL_law 283 = .ok (.iconst 0, 1) := by decide +kernel
theorem dL_law_284 : decode cL_law 284 = .ok (.ireturn, 1) := by decide +kernel
theorem dL_law_285 : decode cL_law 285 = .ok (.aload_n 1, 1) := by decide +kernel
theorem dL_law_286 : decode cL_law 286 = .ok (.invokevirtual 30, 3) := by decide +kernel
theorem dL_law_289 : decode cL_law 289 = .ok (.aload_n 2, 1) := by decide +kernel
theorem dL_law_290 : decode cL_law 290 = .ok (.invokevirtual 33, 3) := by decide +kernel
theorem dL_law_293 : decode cL_law 293 = .ok (.if_icmp .eq 1346, 3) := by decide +kernel
theorem dL_law_296 : decode cL_law 296 = .ok (.iconst 0, 1) := by decide +kernel
theorem dL_law_297 : decode cL_law 297 = .ok (.ireturn, 1) := by decide +kernel
theorem dL_law_298 : decode cL_law 298 = .ok (.aload_n 1, 1) := by decide +kernel
theorem dL_law_299 : decode cL_law 299 = .ok (.aload_n 0, 1) := by decide +kernel
theorem dL_law_300 : decode cL_law 300 = .ok (.iload_n 3, 1) := by decide +kernel
theorem dL_law_301 : decode cL_law 301 = .ok (.iconst 1, 1) := by decide +kernel
theorem dL_law_302 : decode cL_law 302 = .ok (.iadd, 1) := by decide +kernel
theorem dL_law_303 : decode cL_law 303 = .ok (.iaload, 1) := by decide +kernel
theorem dL_law_304 : decode cL_law 304 = .ok (.aload_n 0, 1) := by decide +kernel
theorem dL_law_305 : decode cL_law 305 = .ok (.iload_n 3, 1) := by decide +kernel
theorem dL_law_306 : decode cL_law 306 = .ok (.iconst 2, 1) := by decide +kernel
theorem dL_law_307 : decode cL_law 307 = .ok (.iadd, 1) := by decide +kernel
theorem dL_law_308 : decode cL_law 308 = .ok (.iaload, 1) := by decide +kernel
theorem dL_law_309 : decode cL_law 309 = .ok (.invokevirtual 34, 3) := by decide +kernel
theorem dL_law_312 : decode cL_law 312 = .ok (.aload_n 2, 1) := by decide +kernel
theorem dL_law_313 : decode cL_law 313 = .ok (.aload_n 0, 1) := by decide +kernel
theorem dL_law_314 : decode cL_law 314 = .ok (.iload_n 3, 1) := by decide +kernel
theorem dL_law_315 : decode cL_law 315 = .ok (.iconst 1, 1) := by decide +kernel
theorem dL_law_316 : decode cL_law 316 = .ok (.iadd, 1) := by decide +kernel
theorem dL_law_317 : decode cL_law 317 = .ok (.iaload, 1) := by decide +kernel
theorem dL_law_318 : decode cL_law 318 = .ok (.aload_n 0, 1) := by decide +kernel
theorem dL_law_319 : decode cL_law 319 = .ok (.iload_n 3, 1) := by decide +kernel
theorem dL_law_320 : decode cL_law 320 = .ok (.iconst 2, 1) := by decide +kernel
theorem dL_law_321 : decode cL_law 321 = .ok (.iadd, 1) := by decide +kernel
theorem dL_law_322 : decode cL_law 322 = .ok (.iaload, 1) := by decide +kernel
theorem dL_law_323 : decode cL_law 323 = .ok (.invokevirtual 38, 3) := by decide +kernel
theorem dL_law_326 : decode cL_law 326 = .ok (.if_icmp .eq 1313, 3) := by decide +kernel
theorem dL_law_329 : decode cL_law 329 = .ok (.iconst 0, 1) := by decide +kernel
theorem dL_law_330 : decode cL_law 330 = .ok (.ireturn, 1) := by decide +kernel
theorem dL_law_331 : decode cL_law 331 = .ok (.aload_n 1, 1) := by decide +kernel
theorem dL_law_332 : decode cL_law 332 = .ok (.aload_n 0, 1) := by decide +kernel
theorem dL_law_333 : decode cL_law 333 = .ok (.iload_n 3, 1) := by decide +kernel
theorem dL_law_334 : decode cL_law 334 = .ok (.iconst 1, 1) := by decide +kernel
theorem dL_law_335 : decode cL_law 335 = .ok (.iadd, 1) := by decide +kernel
theorem dL_law_336 : decode cL_law 336 = .ok (.iaload, 1) := by decide +kernel
theorem dL_law_337 : decode cL_law 337 = .ok (.invokevirtual 39, 3) := by decide +kernel
theorem dL_law_340 : decode cL_law 340 = .ok (.aload_n 2, 1) := by decide +kernel
theorem dL_law_341 : decode cL_law 341 = .ok (.aload_n 0, 1) := by decide +kernel
theorem dL_law_342 : decode cL_law 342 = .ok (.iload_n 3, 1) := by decide +kernel
theorem dL_law_343 : decode cL_law 343 = .ok (.iconst 1, 1) := by decide +kernel
theorem dL_law_344 : decode cL_law 344 = .ok (.iadd, 1) := by decide +kernel
theorem dL_law_345 : decode cL_law 345 = .ok (.iaload, 1) := by decide +kernel
theorem dL_law_346 : decode cL_law 346 = .ok (.invokevirtual 42, 3) := by decide +kernel
theorem dL_law_349 : decode cL_law 349 = .ok (.if_icmp .eq 1290, 3) := by decide +kernel
theorem dL_law_352 : decode cL_law 352 = .ok (.iconst 0, 1) := by decide +kernel
theorem dL_law_353 : decode cL_law 353 = .ok (.ireturn, 1) := by decide +kernel
theorem dL_law_354 : decode cL_law 354 = .ok (.aload_n 1, 1) := by decide +kernel
theorem dL_law_355 : decode cL_law 355 = .ok (.aload_n 0, 1) := by decide +kernel
theorem dL_law_356 : decode cL_law 356 = .ok (.iload_n 3, 1) := by decide +kernel
theorem dL_law_357 : decode cL_law 357 = .ok (.iconst 1, 1) := by decide +kernel
theorem dL_law_358 : decode cL_law 358 = .ok (.iadd, 1) := by decide +kernel
theorem dL_law_359 : decode cL_law 359 = .ok (.iaload, 1) := by decide +kernel
theorem dL_law_360 : decode cL_law 360 = .ok (.invokevirtual 43, 3) := by decide +kernel
theorem dL_law_363 : decode cL_law 363 = .ok (.aload_n 2, 1) := by decide +kernel
theorem dL_law_364 : decode cL_law 364 = .ok (.aload_n 0, 1) := by decide +kernel
theorem dL_law_365 : decode cL_law 365 = .ok (.iload_n 3, 1) := by decide +kernel
theorem dL_law_366 : decode cL_law 366 = .ok (.iconst 1, 1) := by decide +kernel
theorem dL_law_367 : decode cL_law 367 = .ok (.iadd, 1) := by decide +kernel
theorem dL_law_368 : decode cL_law 368 = .ok (.iaload, 1) := by decide +kernel
theorem dL_law_369 : decode cL_law 369 = .ok (.invokevirtual 46, 3) := by decide +kernel
theorem dL_law_372 : decode cL_law 372 = .ok (.if_icmp .eq 1267, 3) := by decide +kernel
theorem dL_law_375 : decode cL_law 375 = .ok (.iconst 0, 1) := by decide +kernel
theorem dL_law_376 : decode cL_law 376 = .ok (.ireturn, 1) := by decide +kernel
theorem dL_law_377 : decode cL_law 377 = .ok (.aload_n 1, 1) := by decide +kernel
theorem dL_law_378 : decode cL_law 378 = .ok (.aload_n 0, 1) := by decide +kernel
theorem dL_law_379 : decode cL_law 379 = .ok (.iload_n 3, 1) := by decide +kernel
theorem dL_law_380 : decode cL_law 380 = .ok (.iconst 1, 1) := by decide +kernel
theorem dL_law_381 : decode cL_law 381 = .ok (.iadd, 1) := by decide +kernel
theorem dL_law_382 : decode cL_law 382 = .ok (.iaload, 1) := by decide +kernel
theorem dL_law_383 : decode cL_law 383 = .ok (.aload_n 0, 1) := by decide +kernel
theorem dL_law_384 : decode cL_law 384 = .ok (.iload_n 3, 1) := by decide +kernel
theorem dL_law_385 : decode cL_law 385 = .ok (.iconst 2, 1) := by decide +kernel
theorem dL_law_386 : decode cL_law 386 = .ok (.iadd, 1) := by decide +kernel
theorem dL_law_387 : decode cL_law 387 = .ok (.iaload, 1) := by decide +kernel
theorem dL_law_388 : decode cL_law 388 = .ok (.aload_n 0, 1) := by decide +kernel
theorem dL_law_389 : decode cL_law 389 = .ok (.iload_n 3, 1) := by decide +kernel
theorem dL_law_390 : decode cL_law 390 = .ok (.iconst 3, 1) := by decide +kernel
theorem dL_law_391 : decode cL_law 391 = .ok (.iadd, 1) := by decide +kernel
theorem dL_law_392 : decode cL_law 392 = .ok (.iaload, 1) := by decide +kernel
theorem dL_law_393 : decode cL_law 393 = .ok (.aload_n 0, 1) := by decide +kernel
theorem dL_law_394 : decode cL_law 394 = .ok (.iload_n 3, 1) := by decide +kernel
theorem dL_law_395 : decode cL_law 395 = .ok (.iconst 4, 1) := by decide +kernel
theorem dL_law_396 : decode cL_law 396 = .ok (.iadd, 1) := by decide +kernel
theorem dL_law_397 : decode cL_law 397 = .ok (.iaload, 1) := by decide +kernel
theorem dL_law_398 : decode cL_law 398 = .ok (.invokevirtual 47, 3) := by decide +kernel
theorem dL_law_401 : decode cL_law 401 = .ok (.aload_n 2, 1) := by decide +kernel
theorem dL_law_402 : decode cL_law 402 = .ok (.aload_n 0, 1) := by decide +kernel
theorem dL_law_403 : decode cL_law 403 = .ok (.iload_n 3, 1) := by decide +kernel
theorem dL_law_404 : decode cL_law 404 = .ok (.iconst 1, 1) := by decide +kernel
theorem dL_law_405 : decode cL_law 405 = .ok (.iadd, 1) := by decide +kernel
theorem dL_law_406 : decode cL_law 406 = .ok (.iaload, 1) := by decide +kernel
theorem dL_law_407 : decode cL_law 407 = .ok (.aload_n 0, 1) := by decide +kernel
theorem dL_law_408 : decode cL_law 408 = .ok (.iload_n 3, 1) := by decide +kernel
theorem dL_law_409 : decode cL_law 409 = .ok (.iconst 2, 1) := by decide +kernel
theorem dL_law_410 : decode cL_law 410 = .ok (.iadd, 1) := by decide +kernel
theorem dL_law_411 : decode cL_law 411 = .ok (.iaload, 1) := by decide +kernel
theorem dL_law_412 : decode cL_law 412 = .ok (.aload_n 0, 1) := by decide +kernel
theorem dL_law_413 : decode cL_law 413 = .ok (.iload_n 3, 1) := by decide +kernel
theorem dL_law_414 : decode cL_law 414 = .ok (.iconst 3, 1) := by decide +kernel
theorem dL_law_415 : decode cL_law 415 = .ok (.iadd, 1) := by decide +kernel
theorem dL_law_416 : decode cL_law 416 = .ok (.iaload, 1) := by decide +kernel
theorem dL_law_417 : decode cL_law 417 = .ok (.aload_n 0, 1) := by decide +kernel
theorem dL_law_418 : decode cL_law 418 = .ok (.iload_n 3, 1) := by decide +kernel
theorem dL_law_419 : decode cL_law 419 = .ok (.iconst 4, 1) := by decide +kernel
theorem dL_law_420 : decode cL_law 420 = .ok (.iadd, 1) := by decide +kernel
theorem dL_law_421 : decode cL_law 421 = .ok (.iaload, 1) := by decide +kernel
theorem dL_law_422 : decode cL_law 422 = .ok (.invokevirtual 51, 3) := by decide +kernel
theorem dL_law_425 : decode cL_law 425 = .ok (.if_icmp .eq 1214, 3) := by decide +kernel
theorem dL_law_428 : decode cL_law 428 = .ok (.iconst 0, 1) := by decide +kernel
theorem dL_law_429 : decode cL_law 429 = .ok (.ireturn, 1) := by decide +kernel
theorem dL_law_430 : decode cL_law 430 = .ok (.aload_n 1, 1) := by decide +kernel
theorem dL_law_431 : decode cL_law 431 = .ok (.aload_n 0, 1) := by decide +kernel
theorem dL_law_432 : decode cL_law 432 = .ok (.iload_n 3, 1) := by decide +kernel
theorem dL_law_433 : decode cL_law 433 = .ok (.iconst 1, 1) := by decide +kernel
theorem dL_law_434 : decode cL_law 434 = .ok (.iadd, 1) := by decide +kernel
theorem dL_law_435 : decode cL_law 435 = .ok (.iaload, 1) := by decide +kernel
theorem dL_law_436 : decode cL_law 436 = .ok (.aload_n 0, 1) := by decide +kernel
theorem dL_law_437 : decode cL_law 437 = .ok (.iload_n 3, 1) := by decide +kernel
theorem dL_law_438 : decode cL_law 438 = .ok (.iconst 2, 1) := by decide +kernel
theorem dL_law_439 : decode cL_law 439 = .ok (.iadd, 1) := by decide +kernel
theorem dL_law_440 : decode cL_law 440 = .ok (.iaload, 1) := by decide +kernel
theorem dL_law_441 : decode cL_law 441 = .ok (.invokevirtual 52, 3) := by decide +kernel
theorem dL_law_444 : decode cL_law 444 = .ok (.aload_n 2, 1) := by decide +kernel
theorem dL_law_445 : decode cL_law 445 = .ok (.aload_n 0, 1) := by decide +kernel
theorem dL_law_446 : decode cL_law 446 = .ok (.iload_n 3, 1) := by decide +kernel
theorem dL_law_447 : decode cL_law 447 = .ok (.iconst 1, 1) := by decide +kernel
theorem dL_law_448 : decode cL_law 448 = .ok (.iadd, 1) := by decide +kernel
theorem dL_law_449 : decode cL_law 449 = .ok (.iaload, 1) := by decide +kernel
theorem dL_law_450 : decode cL_law 450 = .ok (.aload_n 0, 1) := by decide +kernel
theorem dL_law_451 : decode cL_law 451 = .ok (.iload_n 3, 1) := by decide +kernel
theorem dL_law_452 : decode cL_law 452 = .ok (.iconst 2, 1) := by decide +kernel
theorem dL_law_453 : decode cL_law 453 = .ok (.iadd, 1) := by decide +kernel
theorem dL_law_454 : decode cL_law 454 = .ok (.iaload, 1) := by decide +kernel
theorem dL_law_455 : decode cL_law 455 = .ok (.invokevirtual 55, 3) := by decide +kernel
theorem dL_law_458 : decode cL_law 458 = .ok (.if_icmp .eq 1181, 3) := by decide +kernel
theorem dL_law_461 : decode cL_law 461 = .ok (.iconst 0, 1) := by decide +kernel
theorem dL_law_462 : decode cL_law 462 = .ok (.ireturn, 1) := by decide +kernel
theorem dL_law_463 : decode cL_law 463 = .ok (.aload_n 1, 1) := by decide +kernel
theorem dL_law_464 : decode cL_law 464 = .ok (.aload_n 0, 1) := by decide +kernel
theorem dL_law_465 : decode cL_law 465 = .ok (.iload_n 3, 1) := by decide +kernel
theorem dL_law_466 : decode cL_law 466 = .ok (.iconst 1, 1) := by decide +kernel
theorem dL_law_467 : decode cL_law 467 = .ok (.iadd, 1) := by decide +kernel
theorem dL_law_468 : decode cL_law 468 = .ok (.iaload, 1) := by decide +kernel
theorem dL_law_469 : decode cL_law 469 = .ok (.aload_n 0, 1) := by decide +kernel
theorem dL_law_470 : decode cL_law 470 = .ok (.iload_n 3, 1) := by decide +kernel
theorem dL_law_471 : decode cL_law 471 = .ok (.iconst 2, 1) := by decide +kernel
theorem dL_law_472 : decode cL_law 472 = .ok (.iadd, 1) := by decide +kernel
theorem dL_law_473 : decode cL_law 473 = .ok (.iaload, 1) := by decide +kernel
theorem dL_law_474 : decode cL_law 474 = .ok (.aload_n 0, 1) := by decide +kernel
theorem dL_law_475 : decode cL_law 475 = .ok (.iload_n 3, 1) := by decide +kernel
theorem dL_law_476 : decode cL_law 476 = .ok (.iconst 3, 1) := by decide +kernel
theorem dL_law_477 : decode cL_law 477 = .ok (.iadd, 1) := by decide +kernel
theorem dL_law_478 : decode cL_law 478 = .ok (.iaload, 1) := by decide +kernel
theorem dL_law_479 : decode cL_law 479 = .ok (.invokevirtual 56, 3) := by decide +kernel
theorem dL_law_482 : decode cL_law 482 = .ok (.aload_n 2, 1) := by decide +kernel
theorem dL_law_483 : decode cL_law 483 = .ok (.aload_n 0, 1) := by decide +kernel
theorem dL_law_484 : decode cL_law 484 = .ok (.iload_n 3, 1) := by decide +kernel
theorem dL_law_485 : decode cL_law 485 = .ok (.iconst 1, 1) := by decide +kernel
theorem dL_law_486 : decode cL_law 486 = .ok (.iadd, 1) := by decide +kernel
theorem dL_law_487 : decode cL_law 487 = .ok (.iaload, 1) := by decide +kernel
theorem dL_law_488 : decode cL_law 488 = .ok (.aload_n 0, 1) := by decide +kernel
theorem dL_law_489 : decode cL_law 489 = .ok (.iload_n 3, 1) := by decide +kernel
theorem dL_law_490 : decode cL_law 490 = .ok (.iconst 2, 1) := by decide +kernel
theorem dL_law_491 : decode cL_law 491 = .ok (.iadd, 1) := by decide +kernel
theorem dL_law_492 : decode cL_law 492 = .ok (.iaload, 1) := by decide +kernel
theorem dL_law_493 : decode cL_law 493 = .ok (.aload_n 0, 1) := by decide +kernel
theorem dL_law_494 : decode cL_law 494 = .ok (.iload_n 3, 1) := by decide +kernel
theorem dL_law_495 : decode cL_law 495 = .ok (.iconst 3, 1) := by decide +kernel
theorem dL_law_496 : decode cL_law 496 = .ok (.iadd, 1) := by decide +kernel
theorem dL_law_497 : decode cL_law 497 = .ok (.iaload, 1) := by decide +kernel
theorem dL_law_498 : decode cL_law 498 = .ok (.invokevirtual 60, 3) := by decide +kernel
theorem dL_law_501 : decode cL_law 501 = .ok (.if_icmp .eq 1138, 3) := by decide +kernel
theorem dL_law_504 : decode cL_law 504 = .ok (.iconst 0, 1) := by decide +kernel
theorem dL_law_505 : decode cL_law 505 = .ok (.ireturn, 1) := by decide +kernel
theorem dL_law_506 : decode cL_law 506 = .ok (.aload_n 1, 1) := by decide +kernel
theorem dL_law_507 : decode cL_law 507 = .ok (.aload_n 0, 1) := by decide +kernel
theorem dL_law_508 : decode cL_law 508 = .ok (.iload_n 3, 1) := by decide +kernel
theorem dL_law_509 : decode cL_law 509 = .ok (.iconst 1, 1) := by decide +kernel
theorem dL_law_510 : decode cL_law 510 = .ok (.iadd, 1) := by decide +kernel
theorem dL_law_511 : decode cL_law 511 = .ok (.iaload, 1) := by decide +kernel
theorem dL_law_512 : decode cL_law 512 = .ok (.aload_n 0, 1) := by decide +kernel
theorem dL_law_513 : decode cL_law 513 = .ok (.iload_n 3, 1) := by decide +kernel
theorem dL_law_514 : decode cL_law 514 = .ok (.iconst 2, 1) := by decide +kernel
theorem dL_law_515 : decode cL_law 515 = .ok (.iadd, 1) := by decide +kernel
theorem dL_law_516 : decode cL_law 516 = .ok (.iaload, 1) := by decide +kernel
theorem dL_law_517 : decode cL_law 517 = .ok (.aload_n 0, 1) := by decide +kernel
theorem dL_law_518 : decode cL_law 518 = .ok (.iload_n 3, 1) := by decide +kernel
theorem dL_law_519 : decode cL_law 519 = .ok (.iconst 3, 1) := by decide +kernel
theorem dL_law_520 : decode cL_law 520 = .ok (.iadd, 1) := by decide +kernel
theorem dL_law_521 : decode cL_law 521 = .ok (.iaload, 1) := by decide +kernel
theorem dL_law_522 : decode cL_law 522 = .ok (.invokevirtual 61, 3) := by decide +kernel
theorem dL_law_525 : decode cL_law 525 = .ok (.aload_n 2, 1) := by decide +kernel
theorem dL_law_526 : decode cL_law 526 = .ok (.aload_n 0, 1) := by decide +kernel
theorem dL_law_527 : decode cL_law 527 = .ok (.iload_n 3, 1) := by decide +kernel
theorem dL_law_528 : decode cL_law 528 = .ok (.iconst 1, 1) := by decide +kernel
theorem dL_law_529 : decode cL_law 529 = .ok (.iadd, 1) := by decide +kernel
theorem dL_law_530 : decode cL_law 530 = .ok (.iaload, 1) := by decide +kernel
theorem dL_law_531 : decode cL_law 531 = .ok (.aload_n 0, 1) := by decide +kernel
theorem dL_law_532 : decode cL_law 532 = .ok (.iload_n 3, 1) := by decide +kernel
theorem dL_law_533 : decode cL_law 533 = .ok (.iconst 2, 1) := by decide +kernel
theorem dL_law_534 : decode cL_law 534 = .ok (.iadd, 1) := by decide +kernel
theorem dL_law_535 : decode cL_law 535 = .ok (.iaload, 1) := by decide +kernel
theorem dL_law_536 : decode cL_law 536 = .ok (.aload_n 0, 1) := by decide +kernel
theorem dL_law_537 : decode cL_law 537 = .ok (.iload_n 3, 1) := by decide +kernel
theorem dL_law_538 : decode cL_law 538 = .ok (.iconst 3, 1) := by decide +kernel
theorem dL_law_539 : decode cL_law 539 = .ok (.iadd, 1) := by decide +kernel
theorem dL_law_540 : decode cL_law 540 = .ok (.iaload, 1) := by decide +kernel
theorem dL_law_541 : decode cL_law 541 = .ok (.invokevirtual 64, 3) := by decide +kernel
theorem dL_law_544 : decode cL_law 544 = .ok (.if_icmp .eq 1095, 3) := by decide +kernel
theorem dL_law_547 : decode cL_law 547 = .ok (.iconst 0, 1) := by decide +kernel
theorem dL_law_548 : decode cL_law 548 = .ok (.ireturn, 1) := by decide +kernel
theorem dL_law_549 : decode cL_law 549 = .ok (.aload_n 1, 1) := by decide +kernel
theorem dL_law_550 : decode cL_law 550 = .ok (.invokevirtual 65, 3) := by decide +kernel
theorem dL_law_553 : decode cL_law 553 = .ok (.aload_n 2, 1) := by decide +kernel
theorem dL_law_554 : decode cL_law 554 = .ok (.invokevirtual 68, 3) := by decide +kernel
theorem dL_law_557 : decode cL_law 557 = .ok (.if_icmp .eq 1082, 3) := by decide +kernel
theorem dL_law_560 : decode cL_law 560 = .ok (.iconst 0, 1) := by decide +kernel
theorem dL_law_561 : decode cL_law 561 = .ok (.ireturn, 1) := by decide +kernel
theorem dL_law_562 : decode cL_law 562 = .ok (.aload_n 1, 1) := by decide +kernel
theorem dL_law_563 : decode cL_law 563 = .ok (.aload_n 0, 1) := by decide +kernel
theorem dL_law_564 : decode cL_law 564 = .ok (.iload_n 3, 1) := by decide +kernel
theorem dL_law_565 : decode cL_law 565 = .ok (.iconst 1, 1) := by decide +kernel
theorem dL_law_566 : decode cL_law 566 = .ok (.iadd, 1) := by decide +kernel
theorem dL_law_567 : decode cL_law 567 = .ok (.iaload, 1) := by decide +kernel
theorem dL_law_568 : decode cL_law 568 = .ok (.aload_n 0, 1) := by decide +kernel
theorem dL_law_569 : decode cL_law 569 = .ok (.iload_n 3, 1) := by decide +kernel
theorem dL_law_570 : decode cL_law 570 = .ok (.iconst 2, 1) := by decide +kernel
theorem dL_law_571 : decode cL_law 571 = .ok (.iadd, 1) := by decide +kernel
theorem dL_law_572 : decode cL_law 572 = .ok (.iaload, 1) := by decide +kernel
theorem dL_law_573 : decode cL_law 573 = .ok (.invokevirtual 69, 3) := by decide +kernel
theorem dL_law_576 : decode cL_law 576 = .ok (.aload_n 2, 1) := by decide +kernel
theorem dL_law_577 : decode cL_law 577 = .ok (.aload_n 0, 1) := by decide +kernel
theorem dL_law_578 : decode cL_law 578 = .ok (.iload_n 3, 1) := by decide +kernel
theorem dL_law_579 : decode cL_law 579 = .ok (.iconst 1, 1) := by decide +kernel
theorem dL_law_580 : decode cL_law 580 = .ok (.iadd, 1) := by decide +kernel
theorem dL_law_581 : decode cL_law 581 = .ok (.iaload, 1) := by decide +kernel
theorem dL_law_582 : decode cL_law 582 = .ok (.aload_n 0, 1) := by decide +kernel
theorem dL_law_583 : decode cL_law 583 = .ok (.iload_n 3, 1) := by decide +kernel
theorem dL_law_584 : decode cL_law 584 = .ok (.iconst 2, 1) := by decide +kernel
theorem dL_law_585 : decode cL_law 585 = .ok (.iadd, 1) := by decide +kernel
theorem dL_law_586 : decode cL_law 586 = .ok (.iaload, 1) := by decide +kernel
theorem dL_law_587 : decode cL_law 587 = .ok (.invokevirtual 72, 3) := by decide +kernel
theorem dL_law_590 : decode cL_law 590 = .ok (.if_icmp .eq 1049, 3) := by decide +kernel
theorem dL_law_593 : decode cL_law 593 = .ok (.iconst 0, 1) := by decide +kernel
theorem dL_law_594 : decode cL_law 594 = .ok (.ireturn, 1) := by decide +kernel
theorem dL_law_595 : decode cL_law 595 = .ok (.aload_n 1, 1) := by decide +kernel
theorem dL_law_596 : decode cL_law 596 = .ok (.aload_n 0, 1) := by decide +kernel
theorem dL_law_597 : decode cL_law 597 = .ok (.iload_n 3, 1) := by decide +kernel
theorem dL_law_598 : decode cL_law 598 = .ok (.iconst 1, 1) := by decide +kernel
theorem dL_law_599 : decode cL_law 599 = .ok (.iadd, 1) := by decide +kernel
theorem dL_law_600 : decode cL_law 600 = .ok (.iaload, 1) := by decide +kernel
theorem dL_law_601 : decode cL_law 601 = .ok (.invokevirtual 73, 3) := by decide +kernel
theorem dL_law_604 : decode cL_law 604 = .ok (.aload_n 2, 1) := by decide +kernel
theorem dL_law_605 : decode cL_law 605 = .ok (.aload_n 0, 1) := by decide +kernel
theorem dL_law_606 : decode cL_law 606 = .ok (.iload_n 3, 1) := by decide +kernel
theorem dL_law_607 : decode cL_law 607 = .ok (.iconst 1, 1) := by decide +kernel
theorem dL_law_608 : decode cL_law 608 = .ok (.iadd, 1) := by decide +kernel
theorem dL_law_609 : decode cL_law 609 = .ok (.iaload, 1) := by decide +kernel
theorem dL_law_610 : decode cL_law 610 = .ok (.invokevirtual 76, 3) := by decide +kernel
theorem dL_law_613 : decode cL_law 613 = .ok (.if_icmp .eq 1026, 3) := by decide +kernel
theorem dL_law_616 : decode cL_law 616 = .ok (.iconst 0, 1) := by decide +kernel
theorem dL_law_617 : decode cL_law 617 = .ok (.ireturn, 1) := by decide +kernel
theorem dL_law_618 : decode cL_law 618 = .ok (.aload_n 1, 1) := by decide +kernel
theorem dL_law_619 : decode cL_law 619 = .ok (.aload_n 0, 1) := by decide +kernel
theorem dL_law_620 : decode cL_law 620 = .ok (.iload_n 3, 1) := by decide +kernel
theorem dL_law_621 : decode cL_law 621 = .ok (.iconst 1, 1) := by decide +kernel
theorem dL_law_622 : decode cL_law 622 = .ok (.iadd, 1) := by decide +kernel
theorem dL_law_623 : decode cL_law 623 = .ok (.iaload, 1) := by decide +kernel
theorem dL_law_624 : decode cL_law 624 = .ok (.aload_n 0, 1) := by decide +kernel
theorem dL_law_625 : decode cL_law 625 = .ok (.iload_n 3, 1) := by decide +kernel
theorem dL_law_626 : decode cL_law 626 = .ok (.iconst 2, 1) := by decide +kernel
theorem dL_law_627 : decode cL_law 627 = .ok (.iadd, 1) := by decide +kernel
theorem dL_law_628 : decode cL_law 628 = .ok (.iaload, 1) := by decide +kernel
theorem dL_law_629 : decode cL_law 629 = .ok (.invokevirtual 77, 3) := by decide +kernel
theorem dL_law_632 : decode cL_law 632 = .ok (.aload_n 2, 1) := by decide +kernel
theorem dL_law_633 : decode cL_law 633 = .ok (.aload_n 0, 1) := by decide +kernel
theorem dL_law_634 : decode cL_law 634 = .ok (.iload_n 3, 1) := by decide +kernel
theorem dL_law_635 : decode cL_law 635 = .ok (.iconst 1, 1) := by decide +kernel
theorem dL_law_636 : decode cL_law 636 = .ok (.iadd, 1) := by decide +kernel
theorem dL_law_637 : decode cL_law 637 = .ok (.iaload, 1) := by decide +kernel
theorem dL_law_638 : decode cL_law 638 = .ok (.aload_n 0, 1) := by decide +kernel
theorem dL_law_639 : decode cL_law 639 = .ok (.iload_n 3, 1) := by decide +kernel
theorem dL_law_640 : decode cL_law 640 = .ok (.iconst 2, 1) := by decide +kernel
theorem dL_law_641 : decode cL_law 641 = .ok (.iadd, 1) := by decide +kernel
theorem dL_law_642 : decode cL_law 642 = .ok (.iaload, 1) := by decide +kernel
theorem dL_law_643 : decode cL_law 643 = .ok (.invokevirtual 80, 3) := by decide +kernel
theorem dL_law_646 : decode cL_law 646 = .ok (.if_icmp .eq 993, 3) := by decide +kernel
theorem dL_law_649 : decode cL_law 649 = .ok (.iconst 0, 1) := by decide +kernel
theorem dL_law_650 : decode cL_law 650 = .ok (.ireturn, 1) := by decide +kernel
theorem dL_law_651 : decode cL_law 651 = .ok (.aload_n 1, 1) := by decide +kernel
theorem dL_law_652 : decode cL_law 652 = .ok (.aload_n 0, 1) := by decide +kernel
theorem dL_law_653 : decode cL_law 653 = .ok (.iload_n 3, 1) := by decide +kernel
theorem dL_law_654 : decode cL_law 654 = .ok (.iconst 1, 1) := by decide +kernel
theorem dL_law_655 : decode cL_law 655 = .ok (.iadd, 1) := by decide +kernel
theorem dL_law_656 : decode cL_law 656 = .ok (.iaload, 1) := by decide +kernel
theorem dL_law_657 : decode cL_law 657 = .ok (.aload_n 0, 1) := by decide +kernel
theorem dL_law_658 : decode cL_law 658 = .ok (.iload_n 3, 1) := by decide +kernel
theorem dL_law_659 : decode cL_law 659 = .ok (.iconst 2, 1) := by decide +kernel
theorem dL_law_660 : decode cL_law 660 = .ok (.iadd, 1) := by decide +kernel
theorem dL_law_661 : decode cL_law 661 = .ok (.iaload, 1) := by decide +kernel
theorem dL_law_662 : decode cL_law 662 = .ok (.invokevirtual 81, 3) := by decide +kernel
theorem dL_law_665 : decode cL_law 665 = .ok (.aload_n 2, 1) := by decide +kernel
theorem dL_law_666 : decode cL_law 666 = .ok (.aload_n 0, 1) := by decide +kernel
theorem dL_law_667 : decode cL_law 667 = .ok (.iload_n 3, 1) := by decide +kernel
theorem dL_law_668 : decode cL_law 668 = .ok (.iconst 1, 1) := by decide +kernel
theorem dL_law_669 : decode cL_law 669 = .ok (.iadd, 1) := by decide +kernel
theorem dL_law_670 : decode cL_law 670 = .ok (.iaload, 1) := by decide +kernel
theorem dL_law_671 : decode cL_law 671 = .ok (.aload_n 0, 1) := by decide +kernel
theorem dL_law_672 : decode cL_law 672 = .ok (.iload_n 3, 1) := by decide +kernel
theorem dL_law_673 : decode cL_law 673 = .ok (.iconst 2, 1) := by decide +kernel
theorem dL_law_674 : decode cL_law 674 = .ok (.iadd, 1) := by decide +kernel
theorem dL_law_675 : decode cL_law 675 = .ok (.iaload, 1) := by decide +kernel
theorem dL_law_676 : decode cL_law 676 = .ok (.invokevirtual 84, 3) := by decide +kernel
theorem dL_law_679 : decode cL_law 679 = .ok (.if_icmp .eq 960, 3) := by decide +kernel
theorem dL_law_682 : decode cL_law 682 = .ok (.iconst 0, 1) := by decide +kernel
theorem dL_law_683 : decode cL_law 683 = .ok (.ireturn, 1) := by decide +kernel
theorem dL_law_684 : decode cL_law 684 = .ok (.aload_n 1, 1) := by decide +kernel
theorem dL_law_685 : decode cL_law 685 = .ok (.aload_n 0, 1) := by decide +kernel
theorem dL_law_686 : decode cL_law 686 = .ok (.iload_n 3, 1) := by decide +kernel
theorem dL_law_687 : decode cL_law 687 = .ok (.iconst 1, 1) := by decide +kernel
theorem dL_law_688 : decode cL_law 688 = .ok (.iadd, 1) := by decide +kernel
theorem dL_law_689 : decode cL_law 689 = .ok (.iaload, 1) := by decide +kernel
theorem dL_law_690 : decode cL_law 690 = .ok (.invokevirtual 85, 3) := by decide +kernel
theorem dL_law_693 : decode cL_law 693 = .ok (.aload_n 2, 1) := by decide +kernel
theorem dL_law_694 : decode cL_law 694 = .ok (.aload_n 0, 1) := by decide +kernel
theorem dL_law_695 : decode cL_law 695 = .ok (.iload_n 3, 1) := by decide +kernel
theorem dL_law_696 : decode cL_law 696 = .ok (.iconst 1, 1) := by decide +kernel
theorem dL_law_697 : decode cL_law 697 = .ok (.iadd, 1) := by decide +kernel
theorem dL_law_698 : decode cL_law 698 = .ok (.iaload, 1) := by decide +kernel
theorem dL_law_699 : decode cL_law 699 = .ok (.invokevirtual 88, 3) := by decide +kernel
theorem dL_law_702 : decode cL_law 702 = .ok (.if_icmp .eq 937, 3) := by decide +kernel
theorem dL_law_705 : decode cL_law 705 = .ok (.iconst 0, 1) := by decide +kernel
theorem dL_law_706 : decode cL_law 706 = .ok (.ireturn, 1) := by decide +kernel
theorem dL_law_707 : decode cL_law 707 = .ok (.aload_n 1, 1) := by decide +kernel
theorem dL_law_708 : decode cL_law 708 = .ok (.aload_n 0, 1) := by decide +kernel
theorem dL_law_709 : decode cL_law 709 = .ok (.iload_n 3, 1) := by decide +kernel
theorem dL_law_710 : decode cL_law 710 = .ok (.iconst 1, 1) := by decide +kernel
theorem dL_law_711 : decode cL_law 711 = .ok (.iadd, 1) := by decide +kernel
theorem dL_law_712 : decode cL_law 712 = .ok (.iaload, 1) := by decide +kernel
theorem dL_law_713 : decode cL_law 713 = .ok (.aload_n 0, 1) := by decide +kernel
theorem dL_law_714 : decode cL_law 714 = .ok (.iload_n 3, 1) := by decide +kernel
theorem dL_law_715 : decode cL_law 715 = .ok (.iconst 2, 1) := by decide +kernel
theorem dL_law_716 : decode cL_law 716 = .ok (.iadd, 1) := by decide +kernel
theorem dL_law_717 : decode cL_law 717 = .ok (.iaload, 1) := by decide +kernel
theorem dL_law_718 : decode cL_law 718 = .ok (.invokevirtual 89, 3) := by decide +kernel
theorem dL_law_721 : decode cL_law 721 = .ok (.aload_n 2, 1) := by decide +kernel
theorem dL_law_722 : decode cL_law 722 = .ok (.aload_n 0, 1) := by decide +kernel
theorem dL_law_723 : decode cL_law 723 = .ok (.iload_n 3, 1) := by decide +kernel
theorem dL_law_724 : decode cL_law 724 = .ok (.iconst 1, 1) := by decide +kernel
theorem dL_law_725 : decode cL_law 725 = .ok (.iadd, 1) := by decide +kernel
theorem dL_law_726 : decode cL_law 726 = .ok (.iaload, 1) := by decide +kernel
theorem dL_law_727 : decode cL_law 727 = .ok (.aload_n 0, 1) := by decide +kernel
theorem dL_law_728 : decode cL_law 728 = .ok (.iload_n 3, 1) := by decide +kernel
theorem dL_law_729 : decode cL_law 729 = .ok (.iconst 2, 1) := by decide +kernel
theorem dL_law_730 : decode cL_law 730 = .ok (.iadd, 1) := by decide +kernel
theorem dL_law_731 : decode cL_law 731 = .ok (.iaload, 1) := by decide +kernel
theorem dL_law_732 : decode cL_law 732 = .ok (.invokevirtual 92, 3) := by decide +kernel
theorem dL_law_735 : decode cL_law 735 = .ok (.if_icmp .eq 904, 3) := by decide +kernel
theorem dL_law_738 : decode cL_law 738 = .ok (.iconst 0, 1) := by decide +kernel
theorem dL_law_739 : decode cL_law 739 = .ok (.ireturn, 1) := by decide +kernel
theorem dL_law_740 : decode cL_law 740 = .ok (.aload_n 1, 1) := by decide +kernel
theorem dL_law_741 : decode cL_law 741 = .ok (.aload_n 0, 1) := by decide +kernel
theorem dL_law_742 : decode cL_law 742 = .ok (.iload_n 3, 1) := by decide +kernel
theorem dL_law_743 : decode cL_law 743 = .ok (.iconst 1, 1) := by decide +kernel
theorem dL_law_744 : decode cL_law 744 = .ok (.iadd, 1) := by decide +kernel
theorem dL_law_745 : decode cL_law 745 = .ok (.iaload, 1) := by decide +kernel
theorem dL_law_746 : decode cL_law 746 = .ok (.aload_n 0, 1) := by decide +kernel
theorem dL_law_747 : decode cL_law 747 = .ok (.iload_n 3, 1) := by decide +kernel
theorem dL_law_748 : decode cL_law 748 = .ok (.iconst 2, 1) := by decide +kernel
theorem dL_law_749 : decode cL_law 749 = .ok (.iadd, 1) := by decide +kernel
theorem dL_law_750 : decode cL_law 750 = .ok (.iaload, 1) := by decide +kernel
theorem dL_law_751 : decode cL_law 751 = .ok (.invokevirtual 93, 3) := by decide +kernel
theorem dL_law_754 : decode cL_law 754 = .ok (.aload_n 2, 1) := by decide +kernel
theorem dL_law_755 : decode cL_law 755 = .ok (.aload_n 0, 1) := by decide +kernel
theorem dL_law_756 : decode cL_law 756 = .ok (.iload_n 3, 1) := by decide +kernel
theorem dL_law_757 : decode cL_law 757 = .ok (.iconst 1, 1) := by decide +kernel
theorem dL_law_758 : decode cL_law 758 = .ok (.iadd, 1) := by decide +kernel
theorem dL_law_759 : decode cL_law 759 = .ok (.iaload, 1) := by decide +kernel
theorem dL_law_760 : decode cL_law 760 = .ok (.aload_n 0, 1) := by decide +kernel
theorem dL_law_761 : decode cL_law 761 = .ok (.iload_n 3, 1) := by decide +kernel
theorem dL_law_762 : decode cL_law 762 = .ok (.iconst 2, 1) := by decide +kernel
theorem dL_law_763 : decode cL_law 763 = .ok (.iadd, 1) := by decide +kernel
theorem dL_law_764 : decode cL_law 764 = .ok (.iaload, 1) := by decide +kernel
theorem dL_law_765 : decode cL_law 765 = .ok (.invokevirtual 96, 3) := by decide +kernel
theorem dL_law_768 : decode cL_law 768 = .ok (.if_icmp .eq 871, 3) := by decide +kernel
theorem dL_law_771 : decode cL_law 771 = .ok (.iconst 0, 1) := by decide +kernel
theorem dL_law_772 : decode cL_law 772 = .ok (.ireturn, 1) := by decide +kernel
theorem dL_law_773 : decode cL_law 773 = .ok (.aload_n 1, 1) := by decide +kernel
theorem dL_law_774 : decode cL_law 774 = .ok (.aload_n 0, 1) := by decide +kernel
theorem dL_law_775 : decode cL_law 775 = .ok (.iload_n 3, 1) := by decide +kernel
theorem dL_law_776 : decode cL_law 776 = .ok (.iconst 1, 1) := by decide +kernel
theorem dL_law_777 : decode cL_law 777 = .ok (.iadd, 1) := by decide +kernel
theorem dL_law_778 : decode cL_law 778 = .ok (.iaload, 1) := by decide +kernel
theorem dL_law_779 : decode cL_law 779 = .ok (.aload_n 0, 1) := by decide +kernel
theorem dL_law_780 : decode cL_law 780 = .ok (.iload_n 3, 1) := by decide +kernel
theorem dL_law_781 : decode cL_law 781 = .ok (.iconst 2, 1) := by decide +kernel
theorem dL_law_782 : decode cL_law 782 = .ok (.iadd, 1) := by decide +kernel
theorem dL_law_783 : decode cL_law 783 = .ok (.iaload, 1) := by decide +kernel
theorem dL_law_784 : decode cL_law 784 = .ok (.aload_n 0, 1) := by decide +kernel
theorem dL_law_785 : decode cL_law 785 = .ok (.iload_n 3, 1) := by decide +kernel
theorem dL_law_786 : decode cL_law 786 = .ok (.iconst 3, 1) := by decide +kernel
theorem dL_law_787 : decode cL_law 787 = .ok (.iadd, 1) := by decide +kernel
theorem dL_law_788 : decode cL_law 788 = .ok (.iaload, 1) := by decide +kernel
theorem dL_law_789 : decode cL_law 789 = .ok (.aload_n 0, 1) := by decide +kernel
theorem dL_law_790 : decode cL_law 790 = .ok (.iload_n 3, 1) := by decide +kernel
theorem dL_law_791 : decode cL_law 791 = .ok (.iconst 4, 1) := by decide +kernel
theorem dL_law_792 : decode cL_law 792 = .ok (.iadd, 1) := by decide +kernel
theorem dL_law_793 : decode cL_law 793 = .ok (.iaload, 1) := by decide +kernel
theorem dL_law_794 : decode cL_law 794 = .ok (.invokevirtual 97, 3) := by decide +kernel
theorem dL_law_797 : decode cL_law 797 = .ok (.aload_n 2, 1) := by decide +kernel
theorem dL_law_798 : decode cL_law 798 = .ok (.aload_n 0, 1) := by decide +kernel
theorem dL_law_799 : decode cL_law 799 = .ok (.iload_n 3, 1) := by decide +kernel
theorem dL_law_800 : decode cL_law 800 = .ok (.iconst 1, 1) := by decide +kernel
theorem dL_law_801 : decode cL_law 801 = .ok (.iadd, 1) := by decide +kernel
theorem dL_law_802 : decode cL_law 802 = .ok (.iaload, 1) := by decide +kernel
theorem dL_law_803 : decode cL_law 803 = .ok (.aload_n 0, 1) := by decide +kernel
theorem dL_law_804 : decode cL_law 804 = .ok (.iload_n 3, 1) := by decide +kernel
theorem dL_law_805 : decode cL_law 805 = .ok (.iconst 2, 1) := by decide +kernel
theorem dL_law_806 : decode cL_law 806 = .ok (.iadd, 1) := by decide +kernel
theorem dL_law_807 : decode cL_law 807 = .ok (.iaload, 1) := by decide +kernel
theorem dL_law_808 : decode cL_law 808 = .ok (.aload_n 0, 1) := by decide +kernel
theorem dL_law_809 : decode cL_law 809 = .ok (.iload_n 3, 1) := by decide +kernel
theorem dL_law_810 : decode cL_law 810 = .ok (.iconst 3, 1) := by decide +kernel
theorem dL_law_811 : decode cL_law 811 = .ok (.iadd, 1) := by decide +kernel
theorem dL_law_812 : decode cL_law 812 = .ok (.iaload, 1) := by decide +kernel
theorem dL_law_813 : decode cL_law 813 = .ok (.aload_n 0, 1) := by decide +kernel
theorem dL_law_814 : decode cL_law 814 = .ok (.iload_n 3, 1) := by decide +kernel
theorem dL_law_815 : decode cL_law 815 = .ok (.iconst 4, 1) := by decide +kernel
theorem dL_law_816 : decode cL_law 816 = .ok (.iadd, 1) := by decide +kernel
theorem dL_law_817 : decode cL_law 817 = .ok (.iaload, 1) := by decide +kernel
theorem dL_law_818 : decode cL_law 818 = .ok (.invokevirtual 100, 3) := by decide +kernel
theorem dL_law_821 : decode cL_law 821 = .ok (.if_icmp .eq 818, 3) := by decide +kernel
theorem dL_law_824 : decode cL_law 824 = .ok (.iconst 0, 1) := by decide +kernel
theorem dL_law_825 : decode cL_law 825 = .ok (.ireturn, 1) := by decide +kernel
theorem dL_law_826 : decode cL_law 826 = .ok (.aload_n 1, 1) := by decide +kernel
theorem dL_law_827 : decode cL_law 827 = .ok (.aload_n 0, 1) := by decide +kernel
theorem dL_law_828 : decode cL_law 828 = .ok (.iload_n 3, 1) := by decide +kernel
theorem dL_law_829 : decode cL_law 829 = .ok (.iconst 1, 1) := by decide +kernel
theorem dL_law_830 : decode cL_law 830 = .ok (.iadd, 1) := by decide +kernel
theorem dL_law_831 : decode cL_law 831 = .ok (.iaload, 1) := by decide +kernel
theorem dL_law_832 : decode cL_law 832 = .ok (.aload_n 0, 1) := by decide +kernel
theorem dL_law_833 : decode cL_law 833 = .ok (.iload_n 3, 1) := by decide +kernel
theorem dL_law_834 : decode cL_law 834 = .ok (.iconst 2, 1) := by decide +kernel
theorem dL_law_835 : decode cL_law 835 = .ok (.iadd, 1) := by decide +kernel
theorem dL_law_836 : decode cL_law 836 = .ok (.iaload, 1) := by decide +kernel
theorem dL_law_837 : decode cL_law 837 = .ok (.aload_n 0, 1) := by decide +kernel
theorem dL_law_838 : decode cL_law 838 = .ok (.iload_n 3, 1) := by decide +kernel
theorem dL_law_839 : decode cL_law 839 = .ok (.iconst 3, 1) := by decide +kernel
theorem dL_law_840 : decode cL_law 840 = .ok (.iadd, 1) := by decide +kernel
theorem dL_law_841 : decode cL_law 841 = .ok (.iaload, 1) := by decide +kernel
theorem dL_law_842 : decode cL_law 842 = .ok (.aload_n 0, 1) := by decide +kernel
theorem dL_law_843 : decode cL_law 843 = .ok (.iload_n 3, 1) := by decide +kernel
theorem dL_law_844 : decode cL_law 844 = .ok (.iconst 4, 1) := by decide +kernel
theorem dL_law_845 : decode cL_law 845 = .ok (.iadd, 1) := by decide +kernel
theorem dL_law_846 : decode cL_law 846 = .ok (.iaload, 1) := by decide +kernel
theorem dL_law_847 : decode cL_law 847 = .ok (.invokevirtual 101, 3) := by decide +kernel
theorem dL_law_850 : decode cL_law 850 = .ok (.aload_n 2, 1) := by decide +kernel
theorem dL_law_851 : decode cL_law 851 = .ok (.aload_n 0, 1) := by decide +kernel
theorem dL_law_852 : decode cL_law 852 = .ok (.iload_n 3, 1) := by decide +kernel
theorem dL_law_853 : decode cL_law 853 = .ok (.iconst 1, 1) := by decide +kernel
theorem dL_law_854 : decode cL_law 854 = .ok (.iadd, 1) := by decide +kernel
theorem dL_law_855 : decode cL_law 855 = .ok (.iaload, 1) := by decide +kernel
theorem dL_law_856 : decode cL_law 856 = .ok (.aload_n 0, 1) := by decide +kernel
theorem dL_law_857 : decode cL_law 857 = .ok (.iload_n 3, 1) := by decide +kernel
theorem dL_law_858 : decode cL_law 858 = .ok (.iconst 2, 1) := by decide +kernel
theorem dL_law_859 : decode cL_law 859 = .ok (.iadd, 1) := by decide +kernel
theorem dL_law_860 : decode cL_law 860 = .ok (.iaload, 1) := by decide +kernel
theorem dL_law_861 : decode cL_law 861 = .ok (.aload_n 0, 1) := by decide +kernel
theorem dL_law_862 : decode cL_law 862 = .ok (.iload_n 3, 1) := by decide +kernel
theorem dL_law_863 : decode cL_law 863 = .ok (.iconst 3, 1) := by decide +kernel
theorem dL_law_864 : decode cL_law 864 = .ok (.iadd, 1) := by decide +kernel
theorem dL_law_865 : decode cL_law 865 = .ok (.iaload, 1) := by decide +kernel
theorem dL_law_866 : decode cL_law 866 = .ok (.aload_n 0, 1) := by decide +kernel
theorem dL_law_867 : decode cL_law 867 = .ok (.iload_n 3, 1) := by decide +kernel
theorem dL_law_868 : decode cL_law 868 = .ok (.iconst 4, 1) := by decide +kernel
theorem dL_law_869 : decode cL_law 869 = .ok (.iadd, 1) := by decide +kernel
theorem dL_law_870 : decode cL_law 870 = .ok (.iaload, 1) := by decide +kernel
theorem dL_law_871 : decode cL_law 871 = .ok (.invokevirtual 105, 3) := by decide +kernel
theorem dL_law_874 : decode cL_law 874 = .ok (.lcmp, 1) := by decide +kernel
theorem dL_law_875 : decode cL_law 875 = .ok (.ifCond .eq 764, 3) := by decide +kernel
theorem dL_law_878 : decode cL_law 878 = .ok (.iconst 0, 1) := by decide +kernel
theorem dL_law_879 : decode cL_law 879 = .ok (.ireturn, 1) := by decide +kernel
theorem dL_law_880 : decode cL_law 880 = .ok (.aload_n 1, 1) := by decide +kernel
theorem dL_law_881 : decode cL_law 881 = .ok (.aload_n 0, 1) := by decide +kernel
theorem dL_law_882 : decode cL_law 882 = .ok (.iload_n 3, 1) := by decide +kernel
theorem dL_law_883 : decode cL_law 883 = .ok (.iconst 1, 1) := by decide +kernel
theorem dL_law_884 : decode cL_law 884 = .ok (.iadd, 1) := by decide +kernel
theorem dL_law_885 : decode cL_law 885 = .ok (.iaload, 1) := by decide +kernel
theorem dL_law_886 : decode cL_law 886 = .ok (.aload_n 0, 1) := by decide +kernel
theorem dL_law_887 : decode cL_law 887 = .ok (.iload_n 3, 1) := by decide +kernel
theorem dL_law_888 : decode cL_law 888 = .ok (.iconst 2, 1) := by decide +kernel
theorem dL_law_889 : decode cL_law 889 = .ok (.iadd, 1) := by decide +kernel
theorem dL_law_890 : decode cL_law 890 = .ok (.iaload, 1) := by decide +kernel
theorem dL_law_891 : decode cL_law 891 = .ok (.aload_n 0, 1) := by decide +kernel
theorem dL_law_892 : decode cL_law 892 = .ok (.iload_n 3, 1) := by decide +kernel
theorem dL_law_893 : decode cL_law 893 = .ok (.iconst 3, 1) := by decide +kernel
theorem dL_law_894 : decode cL_law 894 = .ok (.iadd, 1) := by decide +kernel
theorem dL_law_895 : decode cL_law 895 = .ok (.iaload, 1) := by decide +kernel
theorem dL_law_896 : decode cL_law 896 = .ok (.aload_n 0, 1) := by decide +kernel
theorem dL_law_897 : decode cL_law 897 = .ok (.iload_n 3, 1) := by decide +kernel
theorem dL_law_898 : decode cL_law 898 = .ok (.iconst 4, 1) := by decide +kernel
theorem dL_law_899 : decode cL_law 899 = .ok (.iadd, 1) := by decide +kernel
theorem dL_law_900 : decode cL_law 900 = .ok (.iaload, 1) := by decide +kernel
theorem dL_law_901 : decode cL_law 901 = .ok (.invokevirtual 106, 3) := by decide +kernel
theorem dL_law_904 : decode cL_law 904 = .ok (.aload_n 2, 1) := by decide +kernel
theorem dL_law_905 : decode cL_law 905 = .ok (.aload_n 0, 1) := by decide +kernel
theorem dL_law_906 : decode cL_law 906 = .ok (.iload_n 3, 1) := by decide +kernel
theorem dL_law_907 : decode cL_law 907 = .ok (.iconst 1, 1) := by decide +kernel
theorem dL_law_908 : decode cL_law 908 = .ok (.iadd, 1) := by decide +kernel
theorem dL_law_909 : decode cL_law 909 = .ok (.iaload, 1) := by decide +kernel
theorem dL_law_910 : decode cL_law 910 = .ok (.aload_n 0, 1) := by decide +kernel
theorem dL_law_911 : decode cL_law 911 = .ok (.iload_n 3, 1) := by decide +kernel
theorem dL_law_912 : decode cL_law 912 = .ok (.iconst 2, 1) := by decide +kernel
theorem dL_law_913 : decode cL_law 913 = .ok (.iadd, 1) := by decide +kernel
theorem dL_law_914 : decode cL_law 914 = .ok (.iaload, 1) := by decide +kernel
theorem dL_law_915 : decode cL_law 915 = .ok (.aload_n 0, 1) := by decide +kernel
theorem dL_law_916 : decode cL_law 916 = .ok (.iload_n 3, 1) := by decide +kernel
theorem dL_law_917 : decode cL_law 917 = .ok (.iconst 3, 1) := by decide +kernel
theorem dL_law_918 : decode cL_law 918 = .ok (.iadd, 1) := by decide +kernel
theorem dL_law_919 : decode cL_law 919 = .ok (.iaload, 1) := by decide +kernel
theorem dL_law_920 : decode cL_law 920 = .ok (.aload_n 0, 1) := by decide +kernel
theorem dL_law_921 : decode cL_law 921 = .ok (.iload_n 3, 1) := by decide +kernel
theorem dL_law_922 : decode cL_law 922 = .ok (.iconst 4, 1) := by decide +kernel
theorem dL_law_923 : decode cL_law 923 = .ok (.iadd, 1) := by decide +kernel
theorem dL_law_924 : decode cL_law 924 = .ok (.iaload, 1) := by decide +kernel
theorem dL_law_925 : decode cL_law 925 = .ok (.invokevirtual 109, 3) := by decide +kernel
theorem dL_law_928 : decode cL_law 928 = .ok (.if_icmp .eq 711, 3) := by decide +kernel
theorem dL_law_931 : decode cL_law 931 = .ok (.iconst 0, 1) := by decide +kernel
theorem dL_law_932 : decode cL_law 932 = .ok (.ireturn, 1) := by decide +kernel
theorem dL_law_933 : decode cL_law 933 = .ok (.aload_n 1, 1) := by decide +kernel
theorem dL_law_934 : decode cL_law 934 = .ok (.aload_n 0, 1) := by decide +kernel
theorem dL_law_935 : decode cL_law 935 = .ok (.iload_n 3, 1) := by decide +kernel
theorem dL_law_936 : decode cL_law 936 = .ok (.iconst 1, 1) := by decide +kernel
theorem dL_law_937 : decode cL_law 937 = .ok (.iadd, 1) := by decide +kernel
theorem dL_law_938 : decode cL_law 938 = .ok (.iaload, 1) := by decide +kernel
theorem dL_law_939 : decode cL_law 939 = .ok (.aload_n 0, 1) := by decide +kernel
theorem dL_law_940 : decode cL_law 940 = .ok (.iload_n 3, 1) := by decide +kernel
theorem dL_law_941 : decode cL_law 941 = .ok (.iconst 2, 1) := by decide +kernel
theorem dL_law_942 : decode cL_law 942 = .ok (.iadd, 1) := by decide +kernel
theorem dL_law_943 : decode cL_law 943 = .ok (.iaload, 1) := by decide +kernel
theorem dL_law_944 : decode cL_law 944 = .ok (.aload_n 0, 1) := by decide +kernel
theorem dL_law_945 : decode cL_law 945 = .ok (.iload_n 3, 1) := by decide +kernel
theorem dL_law_946 : decode cL_law 946 = .ok (.iconst 3, 1) := by decide +kernel
theorem dL_law_947 : decode cL_law 947 = .ok (.iadd, 1) := by decide +kernel
theorem dL_law_948 : decode cL_law 948 = .ok (.iaload, 1) := by decide +kernel
theorem dL_law_949 : decode cL_law 949 = .ok (.aload_n 0, 1) := by decide +kernel
theorem dL_law_950 : decode cL_law 950 = .ok (.iload_n 3, 1) := by decide +kernel
theorem dL_law_951 : decode cL_law 951 = .ok (.iconst 4, 1) := by decide +kernel
theorem dL_law_952 : decode cL_law 952 = .ok (.iadd, 1) := by decide +kernel
theorem dL_law_953 : decode cL_law 953 = .ok (.iaload, 1) := by decide +kernel
theorem dL_law_954 : decode cL_law 954 = .ok (.aload_n 0, 1) := by decide +kernel
theorem dL_law_955 : decode cL_law 955 = .ok (.iload_n 3, 1) := by decide +kernel
theorem dL_law_956 : decode cL_law 956 = .ok (.iconst 5, 1) := by decide +kernel
theorem dL_law_957 : decode cL_law 957 = .ok (.iadd, 1) := by decide +kernel
theorem dL_law_958 : decode cL_law 958 = .ok (.iaload, 1) := by decide +kernel
theorem dL_law_959 : decode cL_law 959 = .ok (.invokevirtual 110, 3) := by decide +kernel
theorem dL_law_962 : decode cL_law 962 = .ok (.aload_n 2, 1) := by decide +kernel
theorem dL_law_963 : decode cL_law 963 = .ok (.aload_n 0, 1) := by decide +kernel
theorem dL_law_964 : decode cL_law 964 = .ok (.iload_n 3, 1) := by decide +kernel
theorem dL_law_965 : decode cL_law 965 = .ok (.iconst 1, 1) := by decide +kernel
theorem dL_law_966 : decode cL_law 966 = .ok (.iadd, 1) := by decide +kernel
theorem dL_law_967 : decode cL_law 967 = .ok (.iaload, 1) := by decide +kernel
theorem dL_law_968 : decode cL_law 968 = .ok (.aload_n 0, 1) := by decide +kernel
theorem dL_law_969 : decode cL_law 969 = .ok (.iload_n 3, 1) := by decide +kernel
theorem dL_law_970 : decode cL_law 970 = .ok (.iconst 2, 1) := by decide +kernel
theorem dL_law_971 : decode cL_law 971 = .ok (.iadd, 1) := by decide +kernel
theorem dL_law_972 : decode cL_law 972 = .ok (.iaload, 1) := by decide +kernel
theorem dL_law_973 : decode cL_law 973 = .ok (.aload_n 0, 1) := by decide +kernel
theorem dL_law_974 : decode cL_law 974 = .ok (.iload_n 3, 1) := by decide +kernel
theorem dL_law_975 : decode cL_law 975 = .ok (.iconst 3, 1) := by decide +kernel
theorem dL_law_976 : decode cL_law 976 = .ok (.iadd, 1) := by decide +kernel
theorem dL_law_977 : decode cL_law 977 = .ok (.iaload, 1) := by decide +kernel
theorem dL_law_978 : decode cL_law 978 = .ok (.aload_n 0, 1) := by decide +kernel
theorem dL_law_979 : decode cL_law 979 = .ok (.iload_n 3, 1) := by decide +kernel
theorem dL_law_980 : decode cL_law 980 = .ok (.iconst 4, 1) := by decide +kernel
theorem dL_law_981 : decode cL_law 981 = .ok (.iadd, 1) := by decide +kernel
theorem dL_law_982 : decode cL_law 982 = .ok (.iaload, 1) := by decide +kernel
theorem dL_law_983 : decode cL_law 983 = .ok (.aload_n 0, 1) := by decide +kernel
theorem dL_law_984 : decode cL_law 984 = .ok (.iload_n 3, 1) := by decide +kernel
theorem dL_law_985 : decode cL_law 985 = .ok (.iconst 5, 1) := by decide +kernel
theorem dL_law_986 : decode cL_law 986 = .ok (.iadd, 1) := by decide +kernel
theorem dL_law_987 : decode cL_law 987 = .ok (.iaload, 1) := by decide +kernel
theorem dL_law_988 : decode cL_law 988 = .ok (.invokevirtual 114, 3) := by decide +kernel
theorem dL_law_991 : decode cL_law 991 = .ok (.if_icmp .eq 648, 3) := by decide +kernel
theorem dL_law_994 : decode cL_law 994 = .ok (.iconst 0, 1) := by decide +kernel
theorem dL_law_995 : decode cL_law 995 = .ok (.ireturn, 1) := by decide +kernel
theorem dL_law_996 : decode cL_law 996 = .ok (.aload_n 1, 1) := by decide +kernel
theorem dL_law_997 : decode cL_law 997 = .ok (.aload_n 0, 1) := by decide +kernel
theorem dL_law_998 : decode cL_law 998 = .ok (.iload_n 3, 1) := by decide +kernel
theorem dL_law_999 : decode cL_law 999 = .ok (.iconst 1, 1) := by decide +kernel
theorem dL_law_1000 : decode cL_law 1000 = .ok (.iadd, 1) := by decide +kernel
theorem dL_law_1001 : decode cL_law 1001 = .ok (.iaload, 1) := by decide +kernel
theorem dL_law_1002 : decode cL_law 1002 = .ok (.aload_n 0, 1) := by decide +kernel
theorem dL_law_1003 : decode cL_law 1003 = .ok (.iload_n 3, 1) := by decide +kernel
theorem dL_law_1004 : decode cL_law 1004 = .ok (.iconst 2, 1) := by decide +kernel
theorem dL_law_1005 : decode cL_law 1005 = .ok (.iadd, 1) := by decide +kernel
theorem dL_law_1006 : decode cL_law 1006 = .ok (.iaload, 1) := by decide +kernel
theorem dL_law_1007 : decode cL_law 1007 = .ok (.aload_n 0, 1) := by decide +kernel
theorem dL_law_1008 : decode cL_law 1008 = .ok (.iload_n 3, 1) := by decide +kernel
theorem dL_law_1009 : decode cL_law 1009 = .ok (.iconst 3, 1) := by decide +kernel
theorem dL_law_1010 : decode cL_law 1010 = .ok (.iadd, 1) := by decide +kernel
theorem dL_law_1011 : decode cL_law 1011 = .ok (.iaload, 1) := by decide +kernel
theorem dL_law_1012 : decode cL_law 1012 = .ok (.aload_n 0, 1) := by decide +kernel
theorem dL_law_1013 : decode cL_law 1013 = .ok (.iload_n 3, 1) := by decide +kernel
theorem dL_law_1014 : decode cL_law 1014 = .ok (.iconst 4, 1) := by decide +kernel
theorem dL_law_1015 : decode cL_law 1015 = .ok (.iadd, 1) := by decide +kernel
theorem dL_law_1016 : decode cL_law 1016 = .ok (.iaload, 1) := by decide +kernel
theorem dL_law_1017 : decode cL_law 1017 = .ok (.aload_n 0, 1) := by decide +kernel
theorem dL_law_1018 : decode cL_law 1018 = .ok (.iload_n 3, 1) := by decide +kernel
theorem dL_law_1019 : decode cL_law 1019 = .ok (.iconst 5, 1) := by decide +kernel
theorem dL_law_1020 : decode cL_law 1020 = .ok (.iadd, 1) := by decide +kernel
theorem dL_law_1021 : decode cL_law 1021 = .ok (.iaload, 1) := by decide +kernel
theorem dL_law_1022 : decode cL_law 1022 = .ok (.invokevirtual 115, 3) := by decide +kernel
theorem dL_law_1025 : decode cL_law 1025 = .ok (.aload_n 2, 1) := by decide +kernel
theorem dL_law_1026 : decode cL_law 1026 = .ok (.aload_n 0, 1) := by decide +kernel
theorem dL_law_1027 : decode cL_law 1027 = .ok (.iload_n 3, 1) := by decide +kernel
theorem dL_law_1028 : decode cL_law 1028 = .ok (.iconst 1, 1) := by decide +kernel
theorem dL_law_1029 : decode cL_law 1029 = .ok (.iadd, 1) := by decide +kernel
theorem dL_law_1030 : decode cL_law 1030 = .ok (.iaload, 1) := by decide +kernel
theorem dL_law_1031 : decode cL_law 1031 = .ok (.aload_n 0, 1) := by decide +kernel
theorem dL_law_1032 : decode cL_law 1032 = .ok (.iload_n 3, 1) := by decide +kernel
theorem dL_law_1033 : decode cL_law 1033 = .ok (.iconst 2, 1) := by decide +kernel
theorem dL_law_1034 : decode cL_law 1034 = .ok (.iadd, 1) := by decide +kernel
theorem dL_law_1035 : decode cL_law 1035 = .ok (.iaload, 1) := by decide +kernel
theorem dL_law_1036 : decode cL_law 1036 = .ok (.aload_n 0, 1) := by decide +kernel
theorem dL_law_1037 : decode cL_law 1037 = .ok (.iload_n 3, 1) := by decide +kernel
theorem dL_law_1038 : decode cL_law 1038 = .ok (.iconst 3, 1) := by decide +kernel
theorem dL_law_1039 : decode cL_law 1039 = .ok (.iadd, 1) := by decide +kernel
theorem dL_law_1040 : decode cL_law 1040 = .ok (.iaload, 1) := by decide +kernel
theorem dL_law_1041 : decode cL_law 1041 = .ok (.aload_n 0, 1) := by decide +kernel
theorem dL_law_1042 : decode cL_law 1042 = .ok (.iload_n 3, 1) := by decide +kernel
theorem dL_law_1043 : decode cL_law 1043 = .ok (.iconst 4, 1) := by decide +kernel
theorem dL_law_1044 : decode cL_law 1044 = .ok (.iadd, 1) := by decide +kernel
theorem dL_law_1045 : decode cL_law 1045 = .ok (.iaload, 1) := by decide +kernel
theorem dL_law_1046 : decode cL_law 1046 = .ok (.aload_n 0, 1) := by decide +kernel
theorem dL_law_1047 : decode cL_law 1047 = .ok (.iload_n 3, 1) := by decide +kernel
theorem dL_law_1048 : decode cL_law 1048 = .ok (.iconst 5, 1) := by decide +kernel
theorem dL_law_1049 : decode cL_law 1049 = .ok (.iadd, 1) := by decide +kernel
theorem dL_law_1050 : decode cL_law 1050 = .ok (.iaload, 1) := by decide +kernel
theorem dL_law_1051 : decode cL_law 1051 = .ok (.invokevirtual 118, 3) := by decide +kernel
theorem dL_law_1054 : decode cL_law 1054 = .ok (.if_icmp .eq 585, 3) := by decide +kernel
theorem dL_law_1057 : decode cL_law 1057 = .ok (.iconst 0, 1) := by decide +kernel
theorem dL_law_1058 : decode cL_law 1058 = .ok (.ireturn, 1) := by decide +kernel
theorem dL_law_1059 : decode cL_law 1059 = .ok (.aload_n 1, 1) := by decide +kernel
theorem dL_law_1060 : decode cL_law 1060 = .ok (.aload_n 0, 1) := by decide +kernel
theorem dL_law_1061 : decode cL_law 1061 = .ok (.iload_n 3, 1) := by decide +kernel
theorem dL_law_1062 : decode cL_law 1062 = .ok (.iconst 1, 1) := by decide +kernel
theorem dL_law_1063 : decode cL_law 1063 = .ok (.iadd, 1) := by decide +kernel
theorem dL_law_1064 : decode cL_law 1064 = .ok (.iaload, 1) := by decide +kernel
theorem dL_law_1065 : decode cL_law 1065 = .ok (.aload_n 0, 1) := by decide +kernel
theorem dL_law_1066 : decode cL_law 1066 = .ok (.iload_n 3, 1) := by decide +kernel
theorem dL_law_1067 : decode cL_law 1067 = .ok (.iconst 2, 1) := by decide +kernel
theorem dL_law_1068 : decode cL_law 1068 = .ok (.iadd, 1) := by decide +kernel
theorem dL_law_1069 : decode cL_law 1069 = .ok (.iaload, 1) := by decide +kernel
theorem dL_law_1070 : decode cL_law 1070 = .ok (.aload_n 0, 1) := by decide +kernel
theorem dL_law_1071 : decode cL_law 1071 = .ok (.iload_n 3, 1) := by decide +kernel
theorem dL_law_1072 : decode cL_law 1072 = .ok (.iconst 3, 1) := by decide +kernel
theorem dL_law_1073 : decode cL_law 1073 = .ok (.iadd, 1) := by decide +kernel
theorem dL_law_1074 : decode cL_law 1074 = .ok (.iaload, 1) := by decide +kernel
theorem dL_law_1075 : decode cL_law 1075 = .ok (.aload_n 0, 1) := by decide +kernel
theorem dL_law_1076 : decode cL_law 1076 = .ok (.iload_n 3, 1) := by decide +kernel
theorem dL_law_1077 : decode cL_law 1077 = .ok (.iconst 4, 1) := by decide +kernel
theorem dL_law_1078 : decode cL_law 1078 = .ok (.iadd, 1) := by decide +kernel
theorem dL_law_1079 : decode cL_law 1079 = .ok (.iaload, 1) := by decide +kernel
theorem dL_law_1080 : decode cL_law 1080 = .ok (.aload_n 0, 1) := by decide +kernel
theorem dL_law_1081 : decode cL_law 1081 = .ok (.iload_n 3, 1) := by decide +kernel
theorem dL_law_1082 : decode cL_law 1082 = .ok (.iconst 5, 1) := by decide +kernel
theorem dL_law_1083 : decode cL_law 1083 = .ok (.iadd, 1) := by decide +kernel
theorem dL_law_1084 : decode cL_law 1084 = .ok (.iaload, 1) := by decide +kernel
theorem dL_law_1085 : decode cL_law 1085 = .ok (.invokevirtual 119, 3) := by decide +kernel
theorem dL_law_1088 : decode cL_law 1088 = .ok (.aload_n 2, 1) := by decide +kernel
theorem dL_law_1089 : decode cL_law 1089 = .ok (.aload_n 0, 1) := by decide +kernel
theorem dL_law_1090 : decode cL_law 1090 = .ok (.iload_n 3, 1) := by decide +kernel
theorem dL_law_1091 : decode cL_law 1091 = .ok (.iconst 1, 1) := by decide +kernel
theorem dL_law_1092 : decode cL_law 1092 = .ok (.iadd, 1) := by decide +kernel
theorem dL_law_1093 : decode cL_law 1093 = .ok (.iaload, 1) := by decide +kernel
theorem dL_law_1094 : decode cL_law 1094 = .ok (.aload_n 0, 1) := by decide +kernel
theorem dL_law_1095 : decode cL_law 1095 = .ok (.iload_n 3, 1) := by decide +kernel
theorem dL_law_1096 : decode cL_law 1096 = .ok (.iconst 2, 1) := by decide +kernel
theorem dL_law_1097 : decode cL_law 1097 = .ok (.iadd, 1) := by decide +kernel
theorem dL_law_1098 : decode cL_law 1098 = .ok (.iaload, 1) := by decide +kernel
theorem dL_law_1099 : decode cL_law 1099 = .ok (.aload_n 0, 1) := by decide +kernel
theorem dL_law_1100 : decode cL_law 1100 = .ok (.iload_n 3, 1) := by decide +kernel
theorem dL_law_1101 : decode cL_law 1101 = .ok (.iconst 3, 1) := by decide +kernel
theorem dL_law_1102 : decode cL_law 1102 = .ok (.iadd, 1) := by decide +kernel
theorem dL_law_1103 : decode cL_law 1103 = .ok (.iaload, 1) := by decide +kernel
theorem dL_law_1104 : decode cL_law 1104 = .ok (.aload_n 0, 1) := by decide +kernel
theorem dL_law_1105 : decode cL_law 1105 = .ok (.iload_n 3, 1) := by decide +kernel
theorem dL_law_1106 : decode cL_law 1106 = .ok (.iconst 4, 1) := by decide +kernel
theorem dL_law_1107 : decode cL_law 1107 = .ok (.iadd, 1) := by decide +kernel
theorem dL_law_1108 : decode cL_law 1108 = .ok (.iaload, 1) := by decide +kernel
theorem dL_law_1109 : decode cL_law 1109 = .ok (.aload_n 0, 1) := by decide +kernel
theorem dL_law_1110 : decode cL_law 1110 = .ok (.iload_n 3, 1) := by decide +kernel
theorem dL_law_1111 : decode cL_law 1111 = .ok (.iconst 5, 1) := by decide +kernel
theorem dL_law_1112 : decode cL_law 1112 = .ok (.iadd, 1) := by decide +kernel
theorem dL_law_1113 : decode cL_law 1113 = .ok (.iaload, 1) := by decide +kernel
theorem dL_law_1114 : decode cL_law 1114 = .ok (.invokevirtual 123, 3) := by decide +kernel
theorem dL_law_1117 : decode cL_law 1117 = .ok (.lcmp, 1) := by decide +kernel
theorem dL_law_1118 : decode cL_law 1118 = .ok (.ifCond .eq 521, 3) := by decide +kernel
theorem dL_law_1121 : decode cL_law 1121 = .ok (.iconst 0, 1) := by decide +kernel
theorem dL_law_1122 : decode cL_law 1122 = .ok (.ireturn, 1) := by decide +kernel
theorem dL_law_1123 : decode cL_law 1123 = .ok (.aload_n 1, 1) := by decide +kernel
theorem dL_law_1124 : decode cL_law 1124 = .ok (.aload_n 0, 1) := by decide +kernel
theorem dL_law_1125 : decode cL_law 1125 = .ok (.iload_n 3, 1) := by decide +kernel
theorem dL_law_1126 : decode cL_law 1126 = .ok (.iconst 1, 1) := by decide +kernel
theorem dL_law_1127 : decode cL_law 1127 = .ok (.iadd, 1) := by decide +kernel
theorem dL_law_1128 : decode cL_law 1128 = .ok (.iaload, 1) := by decide +kernel
theorem dL_law_1129 : decode cL_law 1129 = .ok (.aload_n 0, 1) := by decide +kernel
theorem dL_law_1130 : decode cL_law 1130 = .ok (.iload_n 3, 1) := by decide +kernel
theorem dL_law_1131 : decode cL_law 1131 = .ok (.iconst 2, 1) := by decide +kernel
theorem dL_law_1132 : decode cL_law 1132 = .ok (.iadd, 1) := by decide +kernel
theorem dL_law_1133 : decode cL_law 1133 = .ok (.iaload, 1) := by decide +kernel
theorem dL_law_1134 : decode cL_law 1134 = .ok (.aload_n 0, 1) := by decide +kernel
theorem dL_law_1135 : decode cL_law 1135 = .ok (.iload_n 3, 1) := by decide +kernel
theorem dL_law_1136 : decode cL_law 1136 = .ok (.iconst 3, 1) := by decide +kernel
theorem dL_law_1137 : decode cL_law 1137 = .ok (.iadd, 1) := by decide +kernel
theorem dL_law_1138 : decode cL_law 1138 = .ok (.iaload, 1) := by decide +kernel
theorem dL_law_1139 : decode cL_law 1139 = .ok (.aload_n 0, 1) := by decide +kernel
theorem dL_law_1140 : decode cL_law 1140 = .ok (.iload_n 3, 1) := by decide +kernel
theorem dL_law_1141 : decode cL_law 1141 = .ok (.iconst 4, 1) := by decide +kernel
theorem dL_law_1142 : decode cL_law 1142 = .ok (.iadd, 1) := by decide +kernel
theorem dL_law_1143 : decode cL_law 1143 = .ok (.iaload, 1) := by decide +kernel
theorem dL_law_1144 : decode cL_law 1144 = .ok (.invokevirtual 124, 3) := by decide +kernel
theorem dL_law_1147 : decode cL_law 1147 = .ok (.aload_n 2, 1) := by decide +kernel
theorem dL_law_1148 : decode cL_law 1148 = .ok (.aload_n 0, 1) := by decide +kernel
theorem dL_law_1149 : decode cL_law 1149 = .ok (.iload_n 3, 1) := by decide +kernel
theorem dL_law_1150 : decode cL_law 1150 = .ok (.iconst 1, 1) := by decide +kernel
theorem dL_law_1151 : decode cL_law 1151 = .ok (.iadd, 1) := by decide +kernel
theorem dL_law_1152 : decode cL_law 1152 = .ok (.iaload, 1) := by decide +kernel
theorem dL_law_1153 : decode cL_law 1153 = .ok (.aload_n 0, 1) := by decide +kernel
theorem dL_law_1154 : decode cL_law 1154 = .ok (.iload_n 3, 1) := by decide +kernel
theorem dL_law_1155 : decode cL_law 1155 = .ok (.iconst 2, 1) := by decide +kernel
theorem dL_law_1156 : decode cL_law 1156 = .ok (.iadd, 1) := by decide +kernel
theorem dL_law_1157 : decode cL_law 1157 = .ok (.iaload, 1) := by decide +kernel
theorem dL_law_1158 : decode cL_law 1158 = .ok (.aload_n 0, 1) := by decide +kernel
theorem dL_law_1159 : decode cL_law 1159 = .ok (.iload_n 3, 1) := by decide +kernel
theorem dL_law_1160 : decode cL_law 1160 = .ok (.iconst 3, 1) := by decide +kernel
theorem dL_law_1161 : decode cL_law 1161 = .ok (.iadd, 1) := by decide +kernel
theorem dL_law_1162 : decode cL_law 1162 = .ok (.iaload, 1) := by decide +kernel
theorem dL_law_1163 : decode cL_law 1163 = .ok (.aload_n 0, 1) := by decide +kernel
theorem dL_law_1164 : decode cL_law 1164 = .ok (.iload_n 3, 1) := by decide +kernel
theorem dL_law_1165 : decode cL_law 1165 = .ok (.iconst 4, 1) := by decide +kernel
theorem dL_law_1166 : decode cL_law 1166 = .ok (.iadd, 1) := by decide +kernel
theorem dL_law_1167 : decode cL_law 1167 = .ok (.iaload, 1) := by decide +kernel
theorem dL_law_1168 : decode cL_law 1168 = .ok (.invokevirtual 127, 3) := by decide +kernel
theorem dL_law_1171 : decode cL_law 1171 = .ok (.if_icmp .eq 468, 3) := by decide +kernel
theorem dL_law_1174 : decode cL_law 1174 = .ok (.iconst 0, 1) := by decide +kernel
theorem dL_law_1175 : decode cL_law 1175 = .ok (.ireturn, 1) := by decide +kernel
theorem dL_law_1176 : decode cL_law 1176 = .ok (.aload_n 1, 1) := by decide +kernel
theorem dL_law_1177 : decode cL_law 1177 = .ok (.aload_n 0, 1) := by decide +kernel
theorem dL_law_1178 : decode cL_law 1178 = .ok (.iload_n 3, 1) := by decide +kernel
theorem dL_law_1179 : decode cL_law 1179 = .ok (.iconst 1, 1) := by decide +kernel
theorem dL_law_1180 : decode cL_law 1180 = .ok (.iadd, 1) := by decide +kernel
theorem dL_law_1181 : decode cL_law 1181 = .ok (.iaload, 1) := by decide +kernel
theorem dL_law_1182 : decode cL_law 1182 = .ok (.aload_n 0, 1) := by decide +kernel
theorem dL_law_1183 : decode cL_law 1183 = .ok (.iload_n 3, 1) := by decide +kernel
theorem dL_law_1184 : decode cL_law 1184 = .ok (.iconst 2, 1) := by decide +kernel
theorem dL_law_1185 : decode cL_law 1185 = .ok (.iadd, 1) := by decide +kernel
theorem dL_law_1186 : decode cL_law 1186 = .ok (.iaload, 1) := by decide +kernel
theorem dL_law_1187 : decode cL_law 1187 = .ok (.aload_n 0, 1) := by decide +kernel
theorem dL_law_1188 : decode cL_law 1188 = .ok (.iload_n 3, 1) := by decide +kernel
theorem dL_law_1189 : decode cL_law 1189 = .ok (.iconst 3, 1) := by decide +kernel
theorem dL_law_1190 : decode cL_law 1190 = .ok (.iadd, 1) := by decide +kernel
theorem dL_law_1191 : decode cL_law 1191 = .ok (.iaload, 1) := by decide +kernel
theorem dL_law_1192 : decode cL_law 1192 = .ok (.aload_n 0, 1) := by decide +kernel
theorem dL_law_1193 : decode cL_law 1193 = .ok (.iload_n 3, 1) := by decide +kernel
theorem dL_law_1194 : decode cL_law 1194 = .ok (.iconst 4, 1) := by decide +kernel
theorem dL_law_1195 : decode cL_law 1195 = .ok (.iadd, 1) := by decide +kernel
theorem dL_law_1196 : decode cL_law 1196 = .ok (.iaload, 1) := by decide +kernel
theorem dL_law_1197 : decode cL_law 1197 = .ok (.invokevirtual 128, 3) := by decide +kernel
theorem dL_law_1200 : decode cL_law 1200 = .ok (.aload_n 2, 1) := by decide +kernel
theorem dL_law_1201 : decode cL_law 1201 = .ok (.aload_n 0, 1) := by decide +kernel
theorem dL_law_1202 : decode cL_law 1202 = .ok (.iload_n 3, 1) := by decide +kernel
theorem dL_law_1203 : decode cL_law 1203 = .ok (.iconst 1, 1) := by decide +kernel
theorem dL_law_1204 : decode cL_law 1204 = .ok (.iadd, 1) := by decide +kernel
theorem dL_law_1205 : decode cL_law 1205 = .ok (.iaload, 1) := by decide +kernel
theorem dL_law_1206 : decode cL_law 1206 = .ok (.aload_n 0, 1) := by decide +kernel
theorem dL_law_1207 : decode cL_law 1207 = .ok (.iload_n 3, 1) := by decide +kernel
theorem dL_law_1208 : decode cL_law 1208 = .ok (.iconst 2, 1) := by decide +kernel
theorem dL_law_1209 : decode cL_law 1209 = .ok (.iadd, 1) := by decide +kernel
theorem dL_law_1210 : decode cL_law 1210 = .ok (.iaload, 1) := by decide +kernel
theorem dL_law_1211 : decode cL_law 1211 = .ok (.aload_n 0, 1) := by decide +kernel
theorem dL_law_1212 : decode cL_law 1212 = .ok (.iload_n 3, 1) := by decide +kernel
theorem dL_law_1213 : decode cL_law 1213 = .ok (.iconst 3, 1) := by decide +kernel
theorem dL_law_1214 : decode cL_law 1214 = .ok (.iadd, 1) := by decide +kernel
theorem dL_law_1215 : decode cL_law 1215 = .ok (.iaload, 1) := by decide +kernel
theorem dL_law_1216 : decode cL_law 1216 = .ok (.aload_n 0, 1) := by decide +kernel
theorem dL_law_1217 : decode cL_law 1217 = .ok (.iload_n 3, 1) := by decide +kernel
theorem dL_law_1218 : decode cL_law 1218 = .ok (.iconst 4, 1) := by decide +kernel
theorem dL_law_1219 : decode cL_law 1219 = .ok (.iadd, 1) := by decide +kernel
theorem dL_law_1220 : decode cL_law 1220 = .ok (.iaload, 1) := by decide +kernel
theorem dL_law_1221 : decode cL_law 1221 = .ok (.invokevirtual 131, 3) := by decide +kernel
theorem dL_law_1224 : decode cL_law 1224 = .ok (.if_icmp .eq 415, 3) := by decide +kernel
theorem dL_law_1227 : decode cL_law 1227 = .ok (.iconst 0, 1) := by decide +kernel
theorem dL_law_1228 : decode cL_law 1228 = .ok (.ireturn, 1) := by decide +kernel
theorem dL_law_1229 : decode cL_law 1229 = .ok (.aload_n 1, 1) := by decide +kernel
theorem dL_law_1230 : decode cL_law 1230 = .ok (.aload_n 0, 1) := by decide +kernel
theorem dL_law_1231 : decode cL_law 1231 = .ok (.iload_n 3, 1) := by decide +kernel
theorem dL_law_1232 : decode cL_law 1232 = .ok (.iconst 1, 1) := by decide +kernel
theorem dL_law_1233 : decode cL_law 1233 = .ok (.iadd, 1) := by decide +kernel
theorem dL_law_1234 : decode cL_law 1234 = .ok (.iaload, 1) := by decide +kernel
theorem dL_law_1235 : decode cL_law 1235 = .ok (.aload_n 0, 1) := by decide +kernel
theorem dL_law_1236 : decode cL_law 1236 = .ok (.iload_n 3, 1) := by decide +kernel
theorem dL_law_1237 : decode cL_law 1237 = .ok (.iconst 2, 1) := by decide +kernel
theorem dL_law_1238 : decode cL_law 1238 = .ok (.iadd, 1) := by decide +kernel
theorem dL_law_1239 : decode cL_law 1239 = .ok (.iaload, 1) := by decide +kernel
theorem dL_law_1240 : decode cL_law 1240 = .ok (.aload_n 0, 1) := by decide +kernel
theorem dL_law_1241 : decode cL_law 1241 = .ok (.iload_n 3, 1) := by decide +kernel
theorem dL_law_1242 : decode cL_law 1242 = .ok (.iconst 3, 1) := by decide +kernel
theorem dL_law_1243 : decode cL_law 1243 = .ok (.iadd, 1) := by decide +kernel
theorem dL_law_1244 : decode cL_law 1244 = .ok (.iaload, 1) := by decide +kernel
theorem dL_law_1245 : decode cL_law 1245 = .ok (.aload_n 0, 1) := by decide +kernel
theorem dL_law_1246 : decode cL_law 1246 = .ok (.iload_n 3, 1) := by decide +kernel
theorem dL_law_1247 : decode cL_law 1247 = .ok (.iconst 4, 1) := by decide +kernel
theorem dL_law_1248 : decode cL_law 1248 = .ok (.iadd, 1) := by decide +kernel
theorem dL_law_1249 : decode cL_law 1249 = .ok (.iaload, 1) := by decide +kernel
theorem dL_law_1250 : decode cL_law 1250 = .ok (.invokevirtual 132, 3) := by decide +kernel
theorem dL_law_1253 : decode cL_law 1253 = .ok (.aload_n 2, 1) := by decide +kernel
theorem dL_law_1254 : decode cL_law 1254 = .ok (.aload_n 0, 1) := by decide +kernel
theorem dL_law_1255 : decode cL_law 1255 = .ok (.iload_n 3, 1) := by decide +kernel
theorem dL_law_1256 : decode cL_law 1256 = .ok (.iconst 1, 1) := by decide +kernel
theorem dL_law_1257 : decode cL_law 1257 = .ok (.iadd, 1) := by decide +kernel
theorem dL_law_1258 : decode cL_law 1258 = .ok (.iaload, 1) := by decide +kernel
theorem dL_law_1259 : decode cL_law 1259 = .ok (.aload_n 0, 1) := by decide +kernel
theorem dL_law_1260 : decode cL_law 1260 = .ok (.iload_n 3, 1) := by decide +kernel
theorem dL_law_1261 : decode cL_law 1261 = .ok (.iconst 2, 1) := by decide +kernel
theorem dL_law_1262 : decode cL_law 1262 = .ok (.iadd, 1) := by decide +kernel
theorem dL_law_1263 : decode cL_law 1263 = .ok (.iaload, 1) := by decide +kernel
theorem dL_law_1264 : decode cL_law 1264 = .ok (.aload_n 0, 1) := by decide +kernel
theorem dL_law_1265 : decode cL_law 1265 = .ok (.iload_n 3, 1) := by decide +kernel
theorem dL_law_1266 : decode cL_law 1266 = .ok (.iconst 3, 1) := by decide +kernel
theorem dL_law_1267 : decode cL_law 1267 = .ok (.iadd, 1) := by decide +kernel
theorem dL_law_1268 : decode cL_law 1268 = .ok (.iaload, 1) := by decide +kernel
theorem dL_law_1269 : decode cL_law 1269 = .ok (.aload_n 0, 1) := by decide +kernel
theorem dL_law_1270 : decode cL_law 1270 = .ok (.iload_n 3, 1) := by decide +kernel
theorem dL_law_1271 : decode cL_law 1271 = .ok (.iconst 4, 1) := by decide +kernel
theorem dL_law_1272 : decode cL_law 1272 = .ok (.iadd, 1) := by decide +kernel
theorem dL_law_1273 : decode cL_law 1273 = .ok (.iaload, 1) := by decide +kernel
theorem dL_law_1274 : decode cL_law 1274 = .ok (.invokevirtual 135, 3) := by decide +kernel
theorem dL_law_1277 : decode cL_law 1277 = .ok (.if_icmp .eq 362, 3) := by decide +kernel
theorem dL_law_1280 : decode cL_law 1280 = .ok (.iconst 0, 1) := by decide +kernel
theorem dL_law_1281 : decode cL_law 1281 = .ok (.ireturn, 1) := by decide +kernel
theorem dL_law_1282 : decode cL_law 1282 = .ok (.aload_n 1, 1) := by decide +kernel
theorem dL_law_1283 : decode cL_law 1283 = .ok (.aload_n 0, 1) := by decide +kernel
theorem dL_law_1284 : decode cL_law 1284 = .ok (.iload_n 3, 1) := by decide +kernel
theorem dL_law_1285 : decode cL_law 1285 = .ok (.iconst 1, 1) := by decide +kernel
theorem dL_law_1286 : decode cL_law 1286 = .ok (.iadd, 1) := by decide +kernel
theorem dL_law_1287 : decode cL_law 1287 = .ok (.iaload, 1) := by decide +kernel
theorem dL_law_1288 : decode cL_law 1288 = .ok (.aload_n 0, 1) := by decide +kernel
theorem dL_law_1289 : decode cL_law 1289 = .ok (.iload_n 3, 1) := by decide +kernel
theorem dL_law_1290 : decode cL_law 1290 = .ok (.iconst 2, 1) := by decide +kernel
theorem dL_law_1291 : decode cL_law 1291 = .ok (.iadd, 1) := by decide +kernel
theorem dL_law_1292 : decode cL_law 1292 = .ok (.iaload, 1) := by decide +kernel
theorem dL_law_1293 : decode cL_law 1293 = .ok (.aload_n 0, 1) := by decide +kernel
theorem dL_law_1294 : decode cL_law 1294 = .ok (.iload_n 3, 1) := by decide +kernel
theorem dL_law_1295 : decode cL_law 1295 = .ok (.iconst 3, 1) := by decide +kernel
theorem dL_law_1296 : decode cL_law 1296 = .ok (.iadd, 1) := by decide +kernel
theorem dL_law_1297 : decode cL_law 1297 = .ok (.iaload, 1) := by decide +kernel
theorem dL_law_1298 : decode cL_law 1298 = .ok (.aload_n 0, 1) := by decide +kernel
theorem dL_law_1299 : decode cL_law 1299 = .ok (.iload_n 3, 1) := by decide +kernel
theorem dL_law_1300 : decode cL_law 1300 = .ok (.iconst 4, 1) := by decide +kernel
theorem dL_law_1301 : decode cL_law 1301 = .ok (.iadd, 1) := by decide +kernel
theorem dL_law_1302 : decode cL_law 1302 = .ok (.iaload, 1) := by decide +kernel
theorem dL_law_1303 : decode cL_law 1303 = .ok (.invokevirtual 136, 3) := by decide +kernel
theorem dL_law_1306 : decode cL_law 1306 = .ok (.aload_n 2, 1) := by decide +kernel
theorem dL_law_1307 : decode cL_law 1307 = .ok (.aload_n 0, 1) := by decide +kernel
theorem dL_law_1308 : decode cL_law 1308 = .ok (.iload_n 3, 1) := by decide +kernel
theorem dL_law_1309 : decode cL_law 1309 = .ok (.iconst 1, 1) := by decide +kernel
theorem dL_law_1310 : decode cL_law 1310 = .ok (.iadd, 1) := by decide +kernel
theorem dL_law_1311 : decode cL_law 1311 = .ok (.iaload, 1) := by decide +kernel
theorem dL_law_1312 : decode cL_law 1312 = .ok (.aload_n 0, 1) := by decide +kernel
theorem dL_law_1313 : decode cL_law 1313 = .ok (.iload_n 3, 1) := by decide +kernel
theorem dL_law_1314 : decode cL_law 1314 = .ok (.iconst 2, 1) := by decide +kernel
theorem dL_law_1315 : decode cL_law 1315 = .ok (.iadd, 1) := by decide +kernel
theorem dL_law_1316 : decode cL_law 1316 = .ok (.iaload, 1) := by decide +kernel
theorem dL_law_1317 : decode cL_law 1317 = .ok (.aload_n 0, 1) := by decide +kernel
theorem dL_law_1318 : decode cL_law 1318 = .ok (.iload_n 3, 1) := by decide +kernel
theorem dL_law_1319 : decode cL_law 1319 = .ok (.iconst 3, 1) := by decide +kernel
theorem dL_law_1320 : decode cL_law 1320 = .ok (.iadd, 1) := by decide +kernel
theorem dL_law_1321 : decode cL_law 1321 = .ok (.iaload, 1) := by decide +kernel
theorem dL_law_1322 : decode cL_law 1322 = .ok (.aload_n 0, 1) := by decide +kernel
theorem dL_law_1323 : decode cL_law 1323 = .ok (.iload_n 3, 1) := by decide +kernel
theorem dL_law_1324 : decode cL_law 1324 = .ok (.iconst 4, 1) := by decide +kernel
theorem dL_law_1325 : decode cL_law 1325 = .ok (.iadd, 1) := by decide +kernel
theorem dL_law_1326 : decode cL_law 1326 = .ok (.iaload, 1) := by decide +kernel
theorem dL_law_1327 : decode cL_law 1327 = .ok (.invokevirtual 139, 3) := by decide +kernel
theorem dL_law_1330 : decode cL_law 1330 = .ok (.if_icmp .eq 309, 3) := by decide +kernel
theorem dL_law_1333 : decode cL_law 1333 = .ok (.iconst 0, 1) := by decide +kernel
theorem dL_law_1334 : decode cL_law 1334 = .ok (.ireturn, 1) := by decide +kernel
theorem dL_law_1335 : decode cL_law 1335 = .ok (.aload_n 1, 1) := by decide +kernel
theorem dL_law_1336 : decode cL_law 1336 = .ok (.aload_n 0, 1) := by decide +kernel
theorem dL_law_1337 : decode cL_law 1337 = .ok (.iload_n 3, 1) := by decide +kernel
theorem dL_law_1338 : decode cL_law 1338 = .ok (.iconst 1, 1) := by decide +kernel
theorem dL_law_1339 : decode cL_law 1339 = .ok (.iadd, 1) := by decide +kernel
theorem dL_law_1340 : decode cL_law 1340 = .ok (.iaload, 1) := by decide +kernel
theorem dL_law_1341 : decode cL_law 1341 = .ok (.aload_n 0, 1) := by decide +kernel
theorem dL_law_1342 : decode cL_law 1342 = .ok (.iload_n 3, 1) := by decide +kernel
theorem dL_law_1343 : decode cL_law 1343 = .ok (.iconst 2, 1) := by decide +kernel
theorem dL_law_1344 : decode cL_law 1344 = .ok (.iadd, 1) := by decide +kernel
theorem dL_law_1345 : decode cL_law 1345 = .ok (.iaload, 1) := by decide +kernel
theorem dL_law_1346 : decode cL_law 1346 = .ok (.invokevirtual 140, 3) := by decide +kernel
theorem dL_law_1349 : decode cL_law 1349 = .ok (.aload_n 2, 1) := by decide +kernel
theorem dL_law_1350 : decode cL_law 1350 = .ok (.aload_n 0, 1) := by decide +kernel
theorem dL_law_1351 : decode cL_law 1351 = .ok (.iload_n 3, 1) := by decide +kernel
theorem dL_law_1352 : decode cL_law 1352 = .ok (.iconst 1, 1) := by decide +kernel
theorem dL_law_1353 : decode cL_law 1353 = .ok (.iadd, 1) := by decide +kernel
theorem dL_law_1354 : decode cL_law 1354 = .ok (.iaload, 1) := by decide +kernel
theorem dL_law_1355 : decode cL_law 1355 = .ok (.aload_n 0, 1) := by decide +kernel
theorem dL_law_1356 : decode cL_law 1356 = .ok (.iload_n 3, 1) := by decide +kernel
theorem dL_law_1357 : decode cL_law 1357 = .ok (.iconst 2, 1) := by decide +kernel
theorem dL_law_1358 : decode cL_law 1358 = .ok (.iadd, 1) := by decide +kernel
theorem dL_law_1359 : decode cL_law 1359 = .ok (.iaload, 1) := by decide +kernel
theorem dL_law_1360 : decode cL_law 1360 = .ok (.invokevirtual 143, 3) := by decide +kernel
theorem dL_law_1363 : decode cL_law 1363 = .ok (.if_icmp .eq 276, 3) := by decide +kernel
theorem dL_law_1366 : decode cL_law 1366 = .ok (.iconst 0, 1) := by decide +kernel
theorem dL_law_1367 : decode cL_law 1367 = .ok (.ireturn, 1) := by decide +kernel
theorem dL_law_1368 : decode cL_law 1368 = .ok (.aload_n 1, 1) := by decide +kernel
theorem dL_law_1369 : decode cL_law 1369 = .ok (.aload_n 0, 1) := by decide +kernel
theorem dL_law_1370 : decode cL_law 1370 = .ok (.iload_n 3, 1) := by decide +kernel
theorem dL_law_1371 : decode cL_law 1371 = .ok (.iconst 1, 1) := by decide +kernel
theorem dL_law_1372 : decode cL_law 1372 = .ok (.iadd, 1) := by decide +kernel
theorem dL_law_1373 : decode cL_law 1373 = .ok (.iaload, 1) := by decide +kernel
theorem dL_law_1374 : decode cL_law 1374 = .ok (.aload_n 0, 1) := by decide +kernel
theorem dL_law_1375 : decode cL_law 1375 = .ok (.iload_n 3, 1) := by decide +kernel
theorem dL_law_1376 : decode cL_law 1376 = .ok (.iconst 2, 1) := by decide +kernel
theorem dL_law_1377 : decode cL_law 1377 = .ok (.iadd, 1) := by decide +kernel
theorem dL_law_1378 : decode cL_law 1378 = .ok (.iaload, 1) := by decide +kernel
theorem dL_law_1379 : decode cL_law 1379 = .ok (.aload_n 0, 1) := by decide +kernel
theorem dL_law_1380 : decode cL_law 1380 = .ok (.iload_n 3, 1) := by decide +kernel
theorem dL_law_1381 : decode cL_law 1381 = .ok (.iconst 3, 1) := by decide +kernel
theorem dL_law_1382 : decode cL_law 1382 = .ok (.iadd, 1) := by decide +kernel
theorem dL_law_1383 : decode cL_law 1383 = .ok (.iaload, 1) := by decide +kernel
theorem dL_law_1384 : decode cL_law 1384 = .ok (.invokevirtual 144, 3) := by decide +kernel
theorem dL_law_1387 : decode cL_law 1387 = .ok (.aload_n 2, 1) := by decide +kernel
theorem dL_law_1388 : decode cL_law 1388 = .ok (.aload_n 0, 1) := by decide +kernel
theorem dL_law_1389 : decode cL_law 1389 = .ok (.iload_n 3, 1) := by decide +kernel
theorem dL_law_1390 : decode cL_law 1390 = .ok (.iconst 1, 1) := by decide +kernel
theorem dL_law_1391 : decode cL_law 1391 = .ok (.iadd, 1) := by decide +kernel
theorem dL_law_1392 : decode cL_law 1392 = .ok (.iaload, 1) := by decide +kernel
theorem dL_law_1393 : decode cL_law 1393 = .ok (.aload_n 0, 1) := by decide +kernel
theorem dL_law_1394 : decode cL_law 1394 = .ok (.iload_n 3, 1) := by decide +kernel
theorem dL_law_1395 : decode cL_law 1395 = .ok (.iconst 2, 1) := by decide +kernel
theorem dL_law_1396 : decode cL_law 1396 = .ok (.iadd, 1) := by decide +kernel
theorem dL_law_1397 : decode cL_law 1397 = .ok (.iaload, 1) := by decide +kernel
theorem dL_law_1398 : decode cL_law 1398 = .ok (.aload_n 0, 1) := by decide +kernel
theorem dL_law_1399 : decode cL_law 1399 = .ok (.iload_n 3, 1) := by decide +kernel
theorem dL_law_1400 : decode cL_law 1400 = .ok (.iconst 3, 1) := by decide +kernel
theorem dL_law_1401 : decode cL_law 1401 = .ok (.iadd, 1) := by decide +kernel
theorem dL_law_1402 : decode cL_law 1402 = .ok (.iaload, 1) := by decide +kernel
theorem dL_law_1403 : decode cL_law 1403 = .ok (.invokevirtual 147, 3) := by decide +kernel
theorem dL_law_1406 : decode cL_law 1406 = .ok (.if_icmp .eq 233, 3) := by decide +kernel
theorem dL_law_1409 : decode cL_law 1409 = .ok (.iconst 0, 1) := by decide +kernel
theorem dL_law_1410 : decode cL_law 1410 = .ok (.ireturn, 1) := by decide +kernel
theorem dL_law_1411 : decode cL_law 1411 = .ok (.aload_n 1, 1) := by decide +kernel
theorem dL_law_1412 : decode cL_law 1412 = .ok (.invokevirtual 148, 3) := by decide +kernel
theorem dL_law_1415 : decode cL_law 1415 = .ok (.aload_n 2, 1) := by decide +kernel
theorem dL_law_1416 : decode cL_law 1416 = .ok (.invokevirtual 151, 3) := by decide +kernel
theorem dL_law_1419 : decode cL_law 1419 = .ok (.if_icmp .eq 220, 3) := by decide +kernel
theorem dL_law_1422 : decode cL_law 1422 = .ok (.iconst 0, 1) := by decide +kernel
theorem dL_law_1423 : decode cL_law 1423 = .ok (.ireturn, 1) := by decide +kernel
theorem dL_law_1424 : decode cL_law 1424 = .ok (.aload_n 1, 1) := by decide +kernel
theorem dL_law_1425 : decode cL_law 1425 = .ok (.aload_n 0, 1) := by decide +kernel
theorem dL_law_1426 : decode cL_law 1426 = .ok (.iload_n 3, 1) := by decide +kernel
theorem dL_law_1427 : decode cL_law 1427 = .ok (.iconst 1, 1) := by decide +kernel
theorem dL_law_1428 : decode cL_law 1428 = .ok (.iadd, 1) := by decide +kernel
theorem dL_law_1429 : decode cL_law 1429 = .ok (.iaload, 1) := by decide +kernel
theorem dL_law_1430 : decode cL_law 1430 = .ok (.aload_n 0, 1) := by decide +kernel
theorem dL_law_1431 : decode cL_law 1431 = .ok (.iload_n 3, 1) := by decide +kernel
theorem dL_law_1432 : decode cL_law 1432 = .ok (.iconst 2, 1) := by decide +kernel
theorem dL_law_1433 : decode cL_law 1433 = .ok (.iadd, 1) := by decide +kernel
theorem dL_law_1434 : decode cL_law 1434 = .ok (.iaload, 1) := by decide +kernel
theorem dL_law_1435 : decode cL_law 1435 = .ok (.aload_n 0, 1) := by decide +kernel
theorem dL_law_1436 : decode cL_law 1436 = .ok (.iload_n 3, 1) := by decide +kernel
theorem dL_law_1437 : decode cL_law 1437 = .ok (.iconst 3, 1) := by decide +kernel
theorem dL_law_1438 : decode cL_law 1438 = .ok (.iadd, 1) := by decide +kernel
theorem dL_law_1439 : decode cL_law 1439 = .ok (.iaload, 1) := by decide +kernel
theorem dL_law_1440 : decode cL_law 1440 = .ok (.invokevirtual 152, 3) := by decide +kernel
theorem dL_law_1443 : decode cL_law 1443 = .ok (.aload_n 2, 1) := by decide +kernel
theorem dL_law_1444 : decode cL_law 1444 = .ok (.aload_n 0, 1) := by decide +kernel
theorem dL_law_1445 : decode cL_law 1445 = .ok (.iload_n 3, 1) := by decide +kernel
theorem dL_law_1446 : decode cL_law 1446 = .ok (.iconst 1, 1) := by decide +kernel
theorem dL_law_1447 : decode cL_law 1447 = .ok (.iadd, 1) := by decide +kernel
theorem dL_law_1448 : decode cL_law 1448 = .ok (.iaload, 1) := by decide +kernel
theorem dL_law_1449 : decode cL_law 1449 = .ok (.aload_n 0, 1) := by decide +kernel
theorem dL_law_1450 : decode cL_law 1450 = .ok (.iload_n 3, 1) := by decide +kernel
theorem dL_law_1451 : decode cL_law 1451 = .ok (.iconst 2, 1) := by decide +kernel
theorem dL_law_1452 : decode cL_law 1452 = .ok (.iadd, 1) := by decide +kernel
theorem dL_law_1453 : decode cL_law 1453 = .ok (.iaload, 1) := by decide +kernel
theorem dL_law_1454 : decode cL_law 1454 = .ok (.aload_n 0, 1) := by decide +kernel
theorem dL_law_1455 : decode cL_law 1455 = .ok (.iload_n 3, 1) := by decide +kernel
theorem dL_law_1456 : decode cL_law 1456 = .ok (.iconst 3, 1) := by decide +kernel
theorem dL_law_1457 : decode cL_law 1457 = .ok (.iadd, 1) := by decide +kernel
theorem dL_law_1458 : decode cL_law 1458 = .ok (.iaload, 1) := by decide +kernel
theorem dL_law_1459 : decode cL_law 1459 = .ok (.invokevirtual 155, 3) := by decide +kernel
theorem dL_law_1462 : decode cL_law 1462 = .ok (.if_icmp .eq 177, 3) := by decide +kernel
theorem dL_law_1465 : decode cL_law 1465 = .ok (.iconst 0, 1) := by decide +kernel
theorem dL_law_1466 : decode cL_law 1466 = .ok (.ireturn, 1) := by decide +kernel
theorem dL_law_1467 : decode cL_law 1467 = .ok (.aload_n 1, 1) := by decide +kernel
theorem dL_law_1468 : decode cL_law 1468 = .ok (.aload_n 0, 1) := by decide +kernel
theorem dL_law_1469 : decode cL_law 1469 = .ok (.iload_n 3, 1) := by decide +kernel
theorem dL_law_1470 : decode cL_law 1470 = .ok (.iconst 1, 1) := by decide +kernel
theorem dL_law_1471 : decode cL_law 1471 = .ok (.iadd, 1) := by decide +kernel
theorem dL_law_1472 : decode cL_law 1472 = .ok (.iaload, 1) := by decide +kernel
theorem dL_law_1473 : decode cL_law 1473 = .ok (.aload_n 0, 1) := by decide +kernel
theorem dL_law_1474 : decode cL_law 1474 = .ok (.iload_n 3, 1) := by decide +kernel
theorem dL_law_1475 : decode cL_law 1475 = .ok (.iconst 2, 1) := by decide +kernel
theorem dL_law_1476 : decode cL_law 1476 = .ok (.iadd, 1) := by decide +kernel
theorem dL_law_1477 : decode cL_law 1477 = .ok (.iaload, 1) := by decide +kernel
theorem dL_law_1478 : decode cL_law 1478 = .ok (.aload_n 0, 1) := by decide +kernel
theorem dL_law_1479 : decode cL_law 1479 = .ok (.iload_n 3, 1) := by decide +kernel
theorem dL_law_1480 : decode cL_law 1480 = .ok (.iconst 3, 1) := by decide +kernel
theorem dL_law_1481 : decode cL_law 1481 = .ok (.iadd, 1) := by decide +kernel
theorem dL_law_1482 : decode cL_law 1482 = .ok (.iaload, 1) := by decide +kernel
theorem dL_law_1483 : decode cL_law 1483 = .ok (.invokevirtual 156, 3) := by decide +kernel
theorem dL_law_1486 : decode cL_law 1486 = .ok (.aload_n 2, 1) := by decide +kernel
theorem dL_law_1487 : decode cL_law 1487 = .ok (.aload_n 0, 1) := by decide +kernel
theorem dL_law_1488 : decode cL_law 1488 = .ok (.iload_n 3, 1) := by decide +kernel
theorem dL_law_1489 : decode cL_law 1489 = .ok (.iconst 1, 1) := by decide +kernel
theorem dL_law_1490 : decode cL_law 1490 = .ok (.iadd, 1) := by decide +kernel
theorem dL_law_1491 : decode cL_law 1491 = .ok (.iaload, 1) := by decide +kernel
theorem dL_law_1492 : decode cL_law 1492 = .ok (.aload_n 0, 1) := by decide +kernel
theorem dL_law_1493 : decode cL_law 1493 = .ok (.iload_n 3, 1) := by decide +kernel
theorem dL_law_1494 : decode cL_law 1494 = .ok (.iconst 2, 1) := by decide +kernel
theorem dL_law_1495 : decode cL_law 1495 = .ok (.iadd, 1) := by decide +kernel
theorem dL_law_1496 : decode cL_law 1496 = .ok (.iaload, 1) := by decide +kernel
theorem dL_law_1497 : decode cL_law 1497 = .ok (.aload_n 0, 1) := by decide +kernel
theorem dL_law_1498 : decode cL_law 1498 = .ok (.iload_n 3, 1) := by decide +kernel
theorem dL_law_1499 : decode cL_law 1499 = .ok (.iconst 3, 1) := by decide +kernel
theorem dL_law_1500 : decode cL_law 1500 = .ok (.iadd, 1) := by decide +kernel
theorem dL_law_1501 : decode cL_law 1501 = .ok (.iaload, 1) := by decide +kernel
theorem dL_law_1502 : decode cL_law 1502 = .ok (.invokevirtual 159, 3) := by decide +kernel
theorem dL_law_1505 : decode cL_law 1505 = .ok (.if_icmp .eq 134, 3) := by decide +kernel
theorem dL_law_1508 : decode cL_law 1508 = .ok (.iconst 0, 1) := by decide +kernel
theorem dL_law_1509 : decode cL_law 1509 = .ok (.ireturn, 1) := by decide +kernel
theorem dL_law_1510 : decode cL_law 1510 = .ok (.aload_n 1, 1) := by decide +kernel
theorem dL_law_1511 : decode cL_law 1511 = .ok (.aload_n 0, 1) := by decide +kernel
theorem dL_law_1512 : decode cL_law 1512 = .ok (.iload_n 3, 1) := by decide +kernel
theorem dL_law_1513 : decode cL_law 1513 = .ok (.iconst 1, 1) := by decide +kernel
theorem dL_law_1514 : decode cL_law 1514 = .ok (.iadd, 1) := by decide +kernel
theorem dL_law_1515 : decode cL_law 1515 = .ok (.iaload, 1) := by decide +kernel
theorem dL_law_1516 : decode cL_law 1516 = .ok (.aload_n 0, 1) := by decide +kernel
theorem dL_law_1517 : decode cL_law 1517 = .ok (.iload_n 3, 1) := by decide +kernel
theorem dL_law_1518 : decode cL_law 1518 = .ok (.iconst 2, 1) := by decide +kernel
theorem dL_law_1519 : decode cL_law 1519 = .ok (.iadd, 1) := by decide +kernel
theorem dL_law_1520 : decode cL_law 1520 = .ok (.iaload, 1) := by decide +kernel
theorem dL_law_1521 : decode cL_law 1521 = .ok (.aload_n 0, 1) := by decide +kernel
theorem dL_law_1522 : decode cL_law 1522 = .ok (.iload_n 3, 1) := by decide +kernel
theorem dL_law_1523 : decode cL_law 1523 = .ok (.iconst 3, 1) := by decide +kernel
theorem dL_law_1524 : decode cL_law 1524 = .ok (.iadd, 1) := by decide +kernel
theorem dL_law_1525 : decode cL_law 1525 = .ok (.iaload, 1) := by decide +kernel
theorem dL_law_1526 : decode cL_law 1526 = .ok (.invokevirtual 160, 3) := by decide +kernel
theorem dL_law_1529 : decode cL_law 1529 = .ok (.aload_n 2, 1) := by decide +kernel
theorem dL_law_1530 : decode cL_law 1530 = .ok (.aload_n 0, 1) := by decide +kernel
theorem dL_law_1531 : decode cL_law 1531 = .ok (.iload_n 3, 1) := by decide +kernel
theorem dL_law_1532 : decode cL_law 1532 = .ok (.iconst 1, 1) := by decide +kernel
theorem dL_law_1533 : decode cL_law 1533 = .ok (.iadd, 1) := by decide +kernel
theorem dL_law_1534 : decode cL_law 1534 = .ok (.iaload, 1) := by decide +kernel
theorem dL_law_1535 : decode cL_law 1535 = .ok (.aload_n 0, 1) := by decide +kernel
theorem dL_law_1536 : decode cL_law 1536 = .ok (.iload_n 3, 1) := by decide +kernel
theorem dL_law_1537 : decode cL_law 1537 = .ok (.iconst 2, 1) := by decide +kernel
theorem dL_law_1538 : decode cL_law 1538 = .ok (.iadd, 1) := by decide +kernel
theorem dL_law_1539 : decode cL_law 1539 = .ok (.iaload, 1) := by decide +kernel
theorem dL_law_1540 : decode cL_law 1540 = .ok (.aload_n 0, 1) := by decide +kernel
theorem dL_law_1541 : decode cL_law 1541 = .ok (.iload_n 3, 1) := by decide +kernel
theorem dL_law_1542 : decode cL_law 1542 = .ok (.iconst 3, 1) := by decide +kernel
theorem dL_law_1543 : decode cL_law 1543 = .ok (.iadd, 1) := by decide +kernel
theorem dL_law_1544 : decode cL_law 1544 = .ok (.iaload, 1) := by decide +kernel
theorem dL_law_1545 : decode cL_law 1545 = .ok (.invokevirtual 163, 3) := by decide +kernel
theorem dL_law_1548 : decode cL_law 1548 = .ok (.if_icmp .eq 91, 3) := by decide +kernel
theorem dL_law_1551 : decode cL_law 1551 = .ok (.iconst 0, 1) := by decide +kernel
theorem dL_law_1552 : decode cL_law 1552 = .ok (.ireturn, 1) := by decide +kernel
theorem dL_law_1553 : decode cL_law 1553 = .ok (.aload_n 1, 1) := by decide +kernel
theorem dL_law_1554 : decode cL_law 1554 = .ok (.aload_n 0, 1) := by decide +kernel
theorem dL_law_1555 : decode cL_law 1555 = .ok (.iload_n 3, 1) := by decide +kernel
theorem dL_law_1556 : decode cL_law 1556 = .ok (.iconst 1, 1) := by decide +kernel
theorem dL_law_1557 : decode cL_law 1557 = .ok (.iadd, 1) := by decide +kernel
theorem dL_law_1558 : decode cL_law 1558 = .ok (.iaload, 1) := by decide +kernel
theorem dL_law_1559 : decode cL_law 1559 = .ok (.aload_n 0, 1) := by decide +kernel
theorem dL_law_1560 : decode cL_law 1560 = .ok (.iload_n 3, 1) := by decide +kernel
theorem dL_law_1561 : decode cL_law 1561 = .ok (.iconst 2, 1) := by decide +kernel
theorem dL_law_1562 : decode cL_law 1562 = .ok (.iadd, 1) := by decide +kernel
theorem dL_law_1563 : decode cL_law 1563 = .ok (.iaload, 1) := by decide +kernel
theorem dL_law_1564 : decode cL_law 1564 = .ok (.aload_n 0, 1) := by decide +kernel
theorem dL_law_1565 : decode cL_law 1565 = .ok (.iload_n 3, 1) := by decide +kernel
theorem dL_law_1566 : decode cL_law 1566 = .ok (.iconst 3, 1) := by decide +kernel
theorem dL_law_1567 : decode cL_law 1567 = .ok (.iadd, 1) := by decide +kernel
theorem dL_law_1568 : decode cL_law 1568 = .ok (.iaload, 1) := by decide +kernel
theorem dL_law_1569 : decode cL_law 1569 = .ok (.aload_n 0, 1) := by decide +kernel
theorem dL_law_1570 : decode cL_law 1570 = .ok (.iload_n 3, 1) := by decide +kernel
theorem dL_law_1571 : decode cL_law 1571 = .ok (.iconst 4, 1) := by decide +kernel
theorem dL_law_1572 : decode cL_law 1572 = .ok (.iadd, 1) := by decide +kernel
theorem dL_law_1573 : decode cL_law 1573 = .ok (.iaload, 1) := by decide +kernel
theorem dL_law_1574 : decode cL_law 1574 = .ok (.aload_n 0, 1) := by decide +kernel
theorem dL_law_1575 : decode cL_law 1575 = .ok (.iload_n 3, 1) := by decide +kernel
theorem dL_law_1576 : decode cL_law 1576 = .ok (.iconst 5, 1) := by decide +kernel
theorem dL_law_1577 : decode cL_law 1577 = .ok (.iadd, 1) := by decide +kernel
theorem dL_law_1578 : decode cL_law 1578 = .ok (.iaload, 1) := by decide +kernel
theorem dL_law_1579 : decode cL_law 1579 = .ok (.invokevirtual 164, 3) := by decide +kernel
theorem dL_law_1582 : decode cL_law 1582 = .ok (.aload_n 2, 1) := by decide +kernel
theorem dL_law_1583 : decode cL_law 1583 = .ok (.aload_n 0, 1) := by decide +kernel
theorem dL_law_1584 : decode cL_law 1584 = .ok (.iload_n 3, 1) := by decide +kernel
theorem dL_law_1585 : decode cL_law 1585 = .ok (.iconst 1, 1) := by decide +kernel
theorem dL_law_1586 : decode cL_law 1586 = .ok (.iadd, 1) := by decide +kernel
theorem dL_law_1587 : decode cL_law 1587 = .ok (.iaload, 1) := by decide +kernel
theorem dL_law_1588 : decode cL_law 1588 = .ok (.aload_n 0, 1) := by decide +kernel
theorem dL_law_1589 : decode cL_law 1589 = .ok (.iload_n 3, 1) := by decide +kernel
theorem dL_law_1590 : decode cL_law 1590 = .ok (.iconst 2, 1) := by decide +kernel
theorem dL_law_1591 : decode cL_law 1591 = .ok (.iadd, 1) := by decide +kernel
theorem dL_law_1592 : decode cL_law 1592 = .ok (.iaload, 1) := by decide +kernel
theorem dL_law_1593 : decode cL_law 1593 = .ok (.aload_n 0, 1) := by decide +kernel
theorem dL_law_1594 : decode cL_law 1594 = .ok (.iload_n 3, 1) := by decide +kernel
theorem dL_law_1595 : decode cL_law 1595 = .ok (.iconst 3, 1) := by decide +kernel
theorem dL_law_1596 : decode cL_law 1596 = .ok (.iadd, 1) := by decide +kernel
theorem dL_law_1597 : decode cL_law 1597 = .ok (.iaload, 1) := by decide +kernel
theorem dL_law_1598 : decode cL_law 1598 = .ok (.aload_n 0, 1) := by decide +kernel
theorem dL_law_1599 : decode cL_law 1599 = .ok (.iload_n 3, 1) := by decide +kernel
theorem dL_law_1600 : decode cL_law 1600 = .ok (.iconst 4, 1) := by decide +kernel
theorem dL_law_1601 : decode cL_law 1601 = .ok (.iadd, 1) := by decide +kernel
theorem dL_law_1602 : decode cL_law 1602 = .ok (.iaload, 1) := by decide +kernel
theorem dL_law_1603 : decode cL_law 1603 = .ok (.aload_n 0, 1) := by decide +kernel
theorem dL_law_1604 : decode cL_law 1604 = .ok (.iload_n 3, 1) := by decide +kernel
theorem dL_law_1605 : decode cL_law 1605 = .ok (.iconst 5, 1) := by decide +kernel
theorem dL_law_1606 : decode cL_law 1606 = .ok (.iadd, 1) := by decide +kernel
theorem dL_law_1607 : decode cL_law 1607 = .ok (.iaload, 1) := by decide +kernel
theorem dL_law_1608 : decode cL_law 1608 = .ok (.invokevirtual 167, 3) := by decide +kernel
theorem dL_law_1611 : decode cL_law 1611 = .ok (.if_icmp .eq 28, 3) := by decide +kernel
theorem dL_law_1614 : decode cL_law 1614 = .ok (.iconst 0, 1) := by decide +kernel
theorem dL_law_1615 : decode cL_law 1615 = .ok (.ireturn, 1) := by decide +kernel
theorem dL_law_1616 : decode cL_law 1616 = .ok (.aload_n 1, 1) := by decide +kernel
theorem dL_law_1617 : decode cL_law 1617 = .ok (.aload_n 0, 1) := by decide +kernel
theorem dL_law_1618 : decode cL_law 1618 = .ok (.iload_n 3, 1) := by decide +kernel
theorem dL_law_1619 : decode cL_law 1619 = .ok (.iconst 1, 1) := by decide +kernel
theorem dL_law_1620 : decode cL_law 1620 = .ok (.iadd, 1) := by decide +kernel
theorem dL_law_1621 : decode cL_law 1621 = .ok (.iaload, 1) := by decide +kernel
theorem dL_law_1622 : decode cL_law 1622 = .ok (.invokevirtual 168, 3) := by decide +kernel
theorem dL_law_1625 : decode cL_law 1625 = .ok (.aload_n 2, 1) := by decide +kernel
theorem dL_law_1626 : decode cL_law 1626 = .ok (.aload_n 0, 1) := by decide +kernel
theorem dL_law_1627 : decode cL_law 1627 = .ok (.iload_n 3, 1) := by decide +kernel
theorem dL_law_1628 : decode cL_law 1628 = .ok (.iconst 1, 1) := by decide +kernel
theorem dL_law_1629 : decode cL_law 1629 = .ok (.iadd, 1) := by decide +kernel
theorem dL_law_1630 : decode cL_law 1630 = .ok (.iaload, 1) := by decide +kernel
theorem dL_law_1631 : decode cL_law 1631 = .ok (.invokevirtual 171, 3) := by decide +kernel
theorem dL_law_1634 : decode cL_law 1634 = .ok (.if_icmp .eq 5, 3) := by decide +kernel
theorem dL_law_1637 : decode cL_law 1637 = .ok (.iconst 0, 1) := by decide +kernel
theorem dL_law_1638 : decode cL_law 1638 = .ok (.ireturn, 1) := by decide +kernel
theorem dL_law_1639 : decode cL_law 1639 = .ok (.iinc 3 6, 3) := by decide +kernel
theorem dL_law_1642 : decode cL_law 1642 = .ok (.goto (-1624), 3) := by decide +kernel
theorem dL_law_1645 : decode cL_law 1645 = .ok (.iconst 1, 1) := by decide +kernel
theorem dL_law_1646 : decode cL_law 1646 = .ok (.ireturn, 1) := by decide +kernel
section ZL
variable {G : zG} {p : Program} {l : Launch} {e : Env} {s : State} {m : MethodId} {below : List Frame} {meth : Method} {c : Code} {b Ln : Nat} {xs : Nat → Int32} {cells slots n : Nat} {f : Nat → va_E} {pc : Nat} {lv : List (Nat × Value)} {st : List Value} {Q : State → Prop}
theorem zl_slen (C : zC G code 4 RL p s m #[Value.ref b] meth c) (hX : va_X b Ln xs s s.heap) (hb : b < s.heap.size ∧ ¬ zA G b) (d : decode code pc = .ok (.arraylength, 1)) (kk : zW G 4 p l e room_1 s m #[Value.ref b] below meth c Q cells slots n f (pc + 1) lv (.int (Int32.ofNat Ln) :: st)) : zW G 4 p l e room_1 s m #[Value.ref b] below meth c Q cells slots n f pc lv (.ref b :: st) :=
  fun H locs ls h hl => va_slen C.1.1 C.1.2.1 hX hb.1 hb.2 h.2.2 d (kk H locs ls h hl)
theorem zl_sld (C : zC G code 4 RL p s m #[Value.ref b] meth c) (hX : va_X b Ln xs s s.heap) (hb : b < s.heap.size ∧ ¬ zA G b) {i : Int32} (hi : zi i Ln = true) (d : decode code pc = .ok (.iaload, 1)) (kk : zW G 4 p l e room_1 s m #[Value.ref b] below meth c Q cells slots n f (pc + 1) lv (.int (xs i.toNatClampNeg) :: st)) : zW G 4 p l e room_1 s m #[Value.ref b] below meth c Q cells slots n f pc lv (.int i :: .ref b :: st) :=
  fun H locs ls h hl => va_sld C.1.1 C.1.2.1 hX hb.1 hb.2 h.2.2 (zi_in hi) d (kk H locs ls h hl)
theorem zl_ret (C : zC G code 4 RL p s m #[Value.ref b] meth c) (hret : meth.sig.returnType = ret ∧ G.1 = s.heap.size) (d : decode code pc = .ok (.ireturn, 1)) : zW G 4 p l e room_1 s m #[Value.ref b] below meth c (lw_Z below #[Value.ref b] s) 137 34245 n f pc lv [.int 1] := by
  intro H locs ls h hl
  refine va_forget (fun q hq => ?_) ?_
  · have := h.2.2.2.2 q hq
    show s.heap.size ≤ q.base
    rw [← hret.2]
    exact this
  · refine W.widen (k := 600000) (n := 7302250) (Nat.le_of_ble_eq_true rfl) (Nat.le_of_ble_eq_true rfl) ?_
    exact lw_ret C.1.1 C.1.2.1 hret.1 C.2.2.2.2.1 d
end ZL
set_option maxRecDepth 100000 in
set_option maxHeartbeats 8000000 in
theorem M_law {G : zG} {p : Program} {l : Launch} {e : Env} {s : State} {m : MethodId} {below : List Frame} {meth : Method} {c : Code} {b Ln : Nat} {xs : Nat → Int32} (C : zC G code 4 RL p s m #[Value.ref b] meth c) (hret : meth.sig.returnType = ret ∧ G.1 = s.heap.size) (hX : va_X b Ln xs s s.heap) (hb : b < s.heap.size ∧ ¬ zA G b) {w : Int32} {σ : zS} (hJ : J_law xs Ln w σ = some 1) : zW G 4 p l e room_1 s m #[Value.ref b] below meth c (lw_Z below #[Value.ref b] s) 137 34245 137 (zen G σ) 18 [(3, .int w), (2, .ref (G.1 + 105)), (1, .ref (G.1 + 0)), (0, .ref b)] [] := by
  unfold J_law at hJ
  have hl18 : ∀ (n : Nat) (w3_18 : Int32) (σ_18 : zS), L_L_law_18 xs Ln n w3_18 σ_18 = some 1 → zW G 4 p l e room_1 s m #[Value.ref b] below meth c (lw_Z below #[Value.ref b] s) 137 34245 137 (zen G σ_18) 18 [(0, .ref b), (1, .ref (G.1 + 0)), (2, .ref (G.1 + 105)), (3, .int w3_18)] [] := by
    intro n
    induction n with
    | zero =>
      intro w3_18 σ_18 hJ
      rw [L_L_law_18] at hJ
      cases hJ
    | succ n ih =>
      intro w3_18 σ_18 hJ
      rw [L_L_law_18] at hJ
      obtain ⟨r_18, hr_18, hJ⟩ := zlet_e hJ
      have ih18 : ∀ (w3_18 : Int32) (σ_18 : zS), r_18 w3_18 σ_18 = some 1 → zW G 4 p l e room_1 s m #[Value.ref b] below meth c (lw_Z below #[Value.ref b] s) 137 34245 137 (zen G σ_18) 18 [(0, .ref b), (1, .ref (G.1 + 0)), (2, .ref (G.1 + 105)), (3, .int w3_18)] [] := by
        rw [hr_18]
        exact ih
      refine zr_iload_n C 3 dL_law_18 rfl ?_
      refine zr_aload_n C 0 dL_law_19 rfl ?_
      refine zl_slen C hX hb dL_law_20 ?_
      refine zr_bipush C dL_law_21 (v := (6 : Int32)) (by decide) ?_
      refine zr_isub C dL_law_23 ?_
      refine zr_icmp_gt C 1645 dL_law_24 (by decide) (fun hc1 => ?_) (fun hc1 => ?_)
      · have hJ := zif hc1 hJ
        refine zr_iconst C dL_law_1645 (v := (1 : Int32)) (by decide) ?_
        exact zl_ret C hret dL_law_1646
      · have hJ := zif' hc1 hJ
        refine zr_aload_n C 0 dL_law_27 rfl ?_
        refine zr_iload_n C 3 dL_law_28 rfl ?_
        obtain ⟨hg2, hJ⟩ := zg_e hJ
        refine zl_sld C hX hb hg2 dL_law_29 ?_
        refine zr_bipush C dL_law_30 (v := (63 : Int32)) (by decide) ?_
        refine zr_iand C dL_law_32 ?_
        obtain ⟨v3, hv3, hJ⟩ := zlet_e hJ
        refine zr_topi hv3 ?_
        by_cases hs4 : v3 = (0 : Int32)
        · have hJ := zif hs4 hJ
          refine zr_tin C 196 dL_law_33 (by rw [hs4]; decide) (by rw [hs4]; decide) (by rw [hs4]; rfl) (by decide) ?_
          refine zr_aload_n C 1 dL_law_196 rfl ?_
          refine zr_aload_n C 0 dL_law_197 rfl ?_
          refine zr_iload_n C 3 dL_law_198 rfl ?_
          refine zr_iconst C dL_law_199 (v := (1 : Int32)) (by decide) ?_
          refine zr_iadd C dL_law_200 ?_
          obtain ⟨hg5, hJ⟩ := zg_e hJ
          refine zl_sld C hX hb hg5 dL_law_201 ?_
          refine zr_i2l C dL_law_202 ?_
          refine zr_bipush C dL_law_203 (v := (32 : Int32)) (by decide) ?_
          refine zr_lshl C dL_law_205 ?_
          refine zr_aload_n C 0 dL_law_206 rfl ?_
          refine zr_iload_n C 3 dL_law_207 rfl ?_
          refine zr_iconst C dL_law_208 (v := (2 : Int32)) (by decide) ?_
          refine zr_iadd C dL_law_209 ?_
          obtain ⟨hg6, hJ⟩ := zg_e hJ
          refine zl_sld C hX hb hg6 dL_law_210 ?_
          refine zr_i2l C dL_law_211 ?_
          refine zr_ldc2 C dL_law_212 zm_1_6 ?_
          refine zr_land C dL_law_215 ?_
          refine zr_lor C dL_law_216 ?_
          obtain ⟨r7, σ8, hr7, hJ⟩ := zb2_e hJ
          refine zr_callVI C 0 (zk_lt zk_0 (by decide)) (zen_obj zk_0) (rfl : zcl[10]? = some (RX10, TX10, 12)) (M_X10_feed G l hr7) zin_X10_feed zm_8_23 rfl rfl (Nat.le_of_ble_eq_true rfl) ⟨Nat.le_of_ble_eq_true rfl, Nat.le_of_ble_eq_true rfl⟩ ⟨Nat.le_of_ble_eq_true rfl, Nat.le_of_ble_eq_true rfl⟩ dL_law_217 ?_
          refine zr_aload_n C 2 dL_law_220 rfl ?_
          refine zr_aload_n C 0 dL_law_221 rfl ?_
          refine zr_iload_n C 3 dL_law_222 rfl ?_
          refine zr_iconst C dL_law_223 (v := (1 : Int32)) (by decide) ?_
          refine zr_iadd C dL_law_224 ?_
          obtain ⟨hg9, hJ⟩ := zg_e hJ
          refine zl_sld C hX hb hg9 dL_law_225 ?_
          refine zr_i2l C dL_law_226 ?_
          refine zr_bipush C dL_law_227 (v := (32 : Int32)) (by decide) ?_
          refine zr_lshl C dL_law_229 ?_
          refine zr_aload_n C 0 dL_law_230 rfl ?_
          refine zr_iload_n C 3 dL_law_231 rfl ?_
          refine zr_iconst C dL_law_232 (v := (2 : Int32)) (by decide) ?_
          refine zr_iadd C dL_law_233 ?_
          obtain ⟨hg10, hJ⟩ := zg_e hJ
          refine zl_sld C hX hb hg10 dL_law_234 ?_
          refine zr_i2l C dL_law_235 ?_
          refine zr_ldc2 C dL_law_236 zm_1_6 ?_
          refine zr_land C dL_law_239 ?_
          refine zr_lor C dL_law_240 ?_
          obtain ⟨r11, σ12, hr11, hJ⟩ := zb2_e hJ
          refine zr_callVI C 105 (zk_lt zk_105 (by decide)) (zen_obj zk_105) (rfl : zcl[11]? = some (RX11, TX11, 56)) (M_X11_feed G l hr11) zin_X11_feed zm_9_8 rfl rfl (Nat.le_of_ble_eq_true rfl) ⟨Nat.le_of_ble_eq_true rfl, Nat.le_of_ble_eq_true rfl⟩ ⟨Nat.le_of_ble_eq_true rfl, Nat.le_of_ble_eq_true rfl⟩ dL_law_241 ?_
          refine zr_icmp_eq C 1639 dL_law_244 (by decide) (fun hc13 => ?_) (fun hc13 => ?_)
          · have hJ := zif hc13 hJ
            obtain ⟨v14, hv14, hJ⟩ := zlet_e hJ
            refine zr_iinc C v14 3 [(3, .int v14), (0, .ref b), (1, .ref (G.1 + 0)), (2, .ref (G.1 + 105))] dL_law_1639 rfl (hv14.trans (zinc (by decide))) (by decide) rfl ?_
            refine zr_goto C 18 dL_law_1642 (by decide) ?_
            refine zr_sub [1, 2, 3, 0] [(0, .ref b), (1, .ref (G.1 + 0)), (2, .ref (G.1 + 105)), (3, .int v14)] rfl ?_
            exact ih18 _ _ hJ
          · have hJ := zif' hc13 hJ
            refine zr_iconst C dL_law_247 (v := (0 : Int32)) (by decide) ?_
            exact absurd (zs_e hJ) (by decide)
        have hJ := zif' hs4 hJ
        by_cases hs15 : v3 = (1 : Int32)
        · have hJ := zif hs15 hJ
          refine zr_tin C 249 dL_law_33 (by rw [hs15]; decide) (by rw [hs15]; decide) (by rw [hs15]; rfl) (by decide) ?_
          refine zr_aload_n C 1 dL_law_249 rfl ?_
          refine zr_aload_n C 0 dL_law_250 rfl ?_
          refine zr_iload_n C 3 dL_law_251 rfl ?_
          refine zr_iconst C dL_law_252 (v := (1 : Int32)) (by decide) ?_
          refine zr_iadd C dL_law_253 ?_
          obtain ⟨hg16, hJ⟩ := zg_e hJ
          refine zl_sld C hX hb hg16 dL_law_254 ?_
          obtain ⟨r17, σ18, hr17, hJ⟩ := zb2_e hJ
          refine zr_callVI C 0 (zk_lt zk_0 (by decide)) (zen_obj zk_0) (rfl : zcl[10]? = some (RX10, TX10, 12)) (M_X10_end G l hr17) zin_X10_end zm_9_14 rfl rfl (Nat.le_of_ble_eq_true rfl) ⟨Nat.le_of_ble_eq_true rfl, Nat.le_of_ble_eq_true rfl⟩ ⟨Nat.le_of_ble_eq_true rfl, Nat.le_of_ble_eq_true rfl⟩ dL_law_255 ?_
          refine zr_aload_n C 2 dL_law_258 rfl ?_
          refine zr_aload_n C 0 dL_law_259 rfl ?_
          refine zr_iload_n C 3 dL_law_260 rfl ?_
          refine zr_iconst C dL_law_261 (v := (1 : Int32)) (by decide) ?_
          refine zr_iadd C dL_law_262 ?_
          obtain ⟨hg19, hJ⟩ := zg_e hJ
          refine zl_sld C hX hb hg19 dL_law_263 ?_
          obtain ⟨r20, σ21, hr20, hJ⟩ := zb2_e hJ
          refine zr_callVI C 105 (zk_lt zk_105 (by decide)) (zen_obj zk_105) (rfl : zcl[11]? = some (RX11, TX11, 56)) (M_X11_end G l hr20) zin_X11_end zm_9_18 rfl rfl (Nat.le_of_ble_eq_true rfl) ⟨Nat.le_of_ble_eq_true rfl, Nat.le_of_ble_eq_true rfl⟩ ⟨Nat.le_of_ble_eq_true rfl, Nat.le_of_ble_eq_true rfl⟩ dL_law_264 ?_
          refine zr_icmp_eq C 1639 dL_law_267 (by decide) (fun hc22 => ?_) (fun hc22 => ?_)
          · have hJ := zif hc22 hJ
            obtain ⟨v23, hv23, hJ⟩ := zlet_e hJ
            refine zr_iinc C v23 3 [(3, .int v23), (0, .ref b), (1, .ref (G.1 + 0)), (2, .ref (G.1 + 105))] dL_law_1639 rfl (hv23.trans (zinc (by decide))) (by decide) rfl ?_
            refine zr_goto C 18 dL_law_1642 (by decide) ?_
            refine zr_sub [1, 2, 3, 0] [(0, .ref b), (1, .ref (G.1 + 0)), (2, .ref (G.1 + 105)), (3, .int v23)] rfl ?_
            exact ih18 _ _ hJ
          · have hJ := zif' hc22 hJ
            refine zr_iconst C dL_law_270 (v := (0 : Int32)) (by decide) ?_
            exact absurd (zs_e hJ) (by decide)
        have hJ := zif' hs15 hJ
        by_cases hs24 : v3 = (2 : Int32)
        · have hJ := zif hs24 hJ
          refine zr_tin C 272 dL_law_33 (by rw [hs24]; decide) (by rw [hs24]; decide) (by rw [hs24]; rfl) (by decide) ?_
          refine zr_aload_n C 1 dL_law_272 rfl ?_
          obtain ⟨r25, σ26, hr25, hJ⟩ := zb2_e hJ
          refine zr_callVI C 0 (zk_lt zk_0 (by decide)) (zen_obj zk_0) (rfl : zcl[10]? = some (RX10, TX10, 12)) (M_X10_program G l hr25) zin_X10_program zm_10_1 rfl rfl (Nat.le_of_ble_eq_true rfl) ⟨Nat.le_of_ble_eq_true rfl, Nat.le_of_ble_eq_true rfl⟩ ⟨Nat.le_of_ble_eq_true rfl, Nat.le_of_ble_eq_true rfl⟩ dL_law_273 ?_
          refine zr_aload_n C 2 dL_law_276 rfl ?_
          obtain ⟨r27, σ28, hr27, hJ⟩ := zb2_e hJ
          refine zr_callVI C 105 (zk_lt zk_105 (by decide)) (zen_obj zk_105) (rfl : zcl[11]? = some (RX11, TX11, 56)) (M_X11_program G l hr27) zin_X11_program zm_16_9 rfl rfl (Nat.le_of_ble_eq_true rfl) ⟨Nat.le_of_ble_eq_true rfl, Nat.le_of_ble_eq_true rfl⟩ ⟨Nat.le_of_ble_eq_true rfl, Nat.le_of_ble_eq_true rfl⟩ dL_law_277 ?_
          refine zr_icmp_eq C 1639 dL_law_280 (by decide) (fun hc29 => ?_) (fun hc29 => ?_)
          · have hJ := zif hc29 hJ
            obtain ⟨v30, hv30, hJ⟩ := zlet_e hJ
            refine zr_iinc C v30 3 [(3, .int v30), (0, .ref b), (1, .ref (G.1 + 0)), (2, .ref (G.1 + 105))] dL_law_1639 rfl (hv30.trans (zinc (by decide))) (by decide) rfl ?_
            refine zr_goto C 18 dL_law_1642 (by decide) ?_
            refine zr_sub [1, 2, 3, 0] [(0, .ref b), (1, .ref (G.1 + 0)), (2, .ref (G.1 + 105)), (3, .int v30)] rfl ?_
            exact ih18 _ _ hJ
          · have hJ := zif' hc29 hJ
            refine zr_iconst C dL_law_283 (v := (0 : Int32)) (by decide) ?_
            exact absurd (zs_e hJ) (by decide)
        have hJ := zif' hs24 hJ
        by_cases hs31 : v3 = (3 : Int32)
        · have hJ := zif hs31 hJ
          refine zr_tin C 285 dL_law_33 (by rw [hs31]; decide) (by rw [hs31]; decide) (by rw [hs31]; rfl) (by decide) ?_
          refine zr_aload_n C 1 dL_law_285 rfl ?_
          obtain ⟨r32, hr32, hJ⟩ := zb_e hJ
          refine zr_callVI C 0 (zk_lt zk_0 (by decide)) (zen_obj zk_0) (rfl : zcl[10]? = some (RX10, TX10, 12)) (M_X10_fault G l hr32) zin_X10_fault zm_20_3 rfl rfl (Nat.le_of_ble_eq_true rfl) ⟨Nat.le_of_ble_eq_true rfl, Nat.le_of_ble_eq_true rfl⟩ ⟨Nat.le_of_ble_eq_true rfl, Nat.le_of_ble_eq_true rfl⟩ dL_law_286 ?_
          refine zr_aload_n C 2 dL_law_289 rfl ?_
          obtain ⟨r33, hr33, hJ⟩ := zb_e hJ
          refine zr_callVI C 105 (zk_lt zk_105 (by decide)) (zen_obj zk_105) (rfl : zcl[11]? = some (RX11, TX11, 56)) (M_X11_fault G l hr33) zin_X11_fault zm_20_7 rfl rfl (Nat.le_of_ble_eq_true rfl) ⟨Nat.le_of_ble_eq_true rfl, Nat.le_of_ble_eq_true rfl⟩ ⟨Nat.le_of_ble_eq_true rfl, Nat.le_of_ble_eq_true rfl⟩ dL_law_290 ?_
          refine zr_icmp_eq C 1639 dL_law_293 (by decide) (fun hc34 => ?_) (fun hc34 => ?_)
          · have hJ := zif hc34 hJ
            obtain ⟨v35, hv35, hJ⟩ := zlet_e hJ
            refine zr_iinc C v35 3 [(3, .int v35), (0, .ref b), (1, .ref (G.1 + 0)), (2, .ref (G.1 + 105))] dL_law_1639 rfl (hv35.trans (zinc (by decide))) (by decide) rfl ?_
            refine zr_goto C 18 dL_law_1642 (by decide) ?_
            refine zr_sub [1, 2, 3, 0] [(0, .ref b), (1, .ref (G.1 + 0)), (2, .ref (G.1 + 105)), (3, .int v35)] rfl ?_
            exact ih18 _ _ hJ
          · have hJ := zif' hc34 hJ
            refine zr_iconst C dL_law_296 (v := (0 : Int32)) (by decide) ?_
            exact absurd (zs_e hJ) (by decide)
        have hJ := zif' hs31 hJ
        by_cases hs36 : v3 = (4 : Int32)
        · have hJ := zif hs36 hJ
          refine zr_tin C 298 dL_law_33 (by rw [hs36]; decide) (by rw [hs36]; decide) (by rw [hs36]; rfl) (by decide) ?_
          refine zr_aload_n C 1 dL_law_298 rfl ?_
          refine zr_aload_n C 0 dL_law_299 rfl ?_
          refine zr_iload_n C 3 dL_law_300 rfl ?_
          refine zr_iconst C dL_law_301 (v := (1 : Int32)) (by decide) ?_
          refine zr_iadd C dL_law_302 ?_
          obtain ⟨hg37, hJ⟩ := zg_e hJ
          refine zl_sld C hX hb hg37 dL_law_303 ?_
          refine zr_aload_n C 0 dL_law_304 rfl ?_
          refine zr_iload_n C 3 dL_law_305 rfl ?_
          refine zr_iconst C dL_law_306 (v := (2 : Int32)) (by decide) ?_
          refine zr_iadd C dL_law_307 ?_
          obtain ⟨hg38, hJ⟩ := zg_e hJ
          refine zl_sld C hX hb hg38 dL_law_308 ?_
          obtain ⟨r39, hr39, hJ⟩ := zb_e hJ
          refine zr_callVI C 0 (zk_lt zk_0 (by decide)) (zen_obj zk_0) (rfl : zcl[10]? = some (RX10, TX10, 12)) (M_X10_line G l hr39) zin_X10_line zm_20_11 rfl rfl (Nat.le_of_ble_eq_true rfl) ⟨Nat.le_of_ble_eq_true rfl, Nat.le_of_ble_eq_true rfl⟩ ⟨Nat.le_of_ble_eq_true rfl, Nat.le_of_ble_eq_true rfl⟩ dL_law_309 ?_
          refine zr_aload_n C 2 dL_law_312 rfl ?_
          refine zr_aload_n C 0 dL_law_313 rfl ?_
          refine zr_iload_n C 3 dL_law_314 rfl ?_
          refine zr_iconst C dL_law_315 (v := (1 : Int32)) (by decide) ?_
          refine zr_iadd C dL_law_316 ?_
          obtain ⟨hg40, hJ⟩ := zg_e hJ
          refine zl_sld C hX hb hg40 dL_law_317 ?_
          refine zr_aload_n C 0 dL_law_318 rfl ?_
          refine zr_iload_n C 3 dL_law_319 rfl ?_
          refine zr_iconst C dL_law_320 (v := (2 : Int32)) (by decide) ?_
          refine zr_iadd C dL_law_321 ?_
          obtain ⟨hg41, hJ⟩ := zg_e hJ
          refine zl_sld C hX hb hg41 dL_law_322 ?_
          obtain ⟨r42, hr42, hJ⟩ := zb_e hJ
          refine zr_callVI C 105 (zk_lt zk_105 (by decide)) (zen_obj zk_105) (rfl : zcl[11]? = some (RX11, TX11, 56)) (M_X11_line G l hr42) zin_X11_line zm_20_23 rfl rfl (Nat.le_of_ble_eq_true rfl) ⟨Nat.le_of_ble_eq_true rfl, Nat.le_of_ble_eq_true rfl⟩ ⟨Nat.le_of_ble_eq_true rfl, Nat.le_of_ble_eq_true rfl⟩ dL_law_323 ?_
          refine zr_icmp_eq C 1639 dL_law_326 (by decide) (fun hc43 => ?_) (fun hc43 => ?_)
          · have hJ := zif hc43 hJ
            obtain ⟨v44, hv44, hJ⟩ := zlet_e hJ
            refine zr_iinc C v44 3 [(3, .int v44), (0, .ref b), (1, .ref (G.1 + 0)), (2, .ref (G.1 + 105))] dL_law_1639 rfl (hv44.trans (zinc (by decide))) (by decide) rfl ?_
            refine zr_goto C 18 dL_law_1642 (by decide) ?_
            refine zr_sub [1, 2, 3, 0] [(0, .ref b), (1, .ref (G.1 + 0)), (2, .ref (G.1 + 105)), (3, .int v44)] rfl ?_
            exact ih18 _ _ hJ
          · have hJ := zif' hc43 hJ
            refine zr_iconst C dL_law_329 (v := (0 : Int32)) (by decide) ?_
            exact absurd (zs_e hJ) (by decide)
        have hJ := zif' hs36 hJ
        by_cases hs45 : v3 = (5 : Int32)
        · have hJ := zif hs45 hJ
          refine zr_tin C 331 dL_law_33 (by rw [hs45]; decide) (by rw [hs45]; decide) (by rw [hs45]; rfl) (by decide) ?_
          refine zr_aload_n C 1 dL_law_331 rfl ?_
          refine zr_aload_n C 0 dL_law_332 rfl ?_
          refine zr_iload_n C 3 dL_law_333 rfl ?_
          refine zr_iconst C dL_law_334 (v := (1 : Int32)) (by decide) ?_
          refine zr_iadd C dL_law_335 ?_
          obtain ⟨hg46, hJ⟩ := zg_e hJ
          refine zl_sld C hX hb hg46 dL_law_336 ?_
          obtain ⟨r47, hr47, hJ⟩ := zb_e hJ
          refine zr_callVI C 0 (zk_lt zk_0 (by decide)) (zen_obj zk_0) (rfl : zcl[10]? = some (RX10, TX10, 12)) (M_X10_step G l hr47) zin_X10_step zm_21_17 rfl rfl (Nat.le_of_ble_eq_true rfl) ⟨Nat.le_of_ble_eq_true rfl, Nat.le_of_ble_eq_true rfl⟩ ⟨Nat.le_of_ble_eq_true rfl, Nat.le_of_ble_eq_true rfl⟩ dL_law_337 ?_
          refine zr_aload_n C 2 dL_law_340 rfl ?_
          refine zr_aload_n C 0 dL_law_341 rfl ?_
          refine zr_iload_n C 3 dL_law_342 rfl ?_
          refine zr_iconst C dL_law_343 (v := (1 : Int32)) (by decide) ?_
          refine zr_iadd C dL_law_344 ?_
          obtain ⟨hg48, hJ⟩ := zg_e hJ
          refine zl_sld C hX hb hg48 dL_law_345 ?_
          obtain ⟨r49, hr49, hJ⟩ := zb_e hJ
          refine zr_callVI C 105 (zk_lt zk_105 (by decide)) (zen_obj zk_105) (rfl : zcl[11]? = some (RX11, TX11, 56)) (M_X11_step G l hr49) zin_X11_step zm_21_23 rfl rfl (Nat.le_of_ble_eq_true rfl) ⟨Nat.le_of_ble_eq_true rfl, Nat.le_of_ble_eq_true rfl⟩ ⟨Nat.le_of_ble_eq_true rfl, Nat.le_of_ble_eq_true rfl⟩ dL_law_346 ?_
          refine zr_icmp_eq C 1639 dL_law_349 (by decide) (fun hc50 => ?_) (fun hc50 => ?_)
          · have hJ := zif hc50 hJ
            obtain ⟨v51, hv51, hJ⟩ := zlet_e hJ
            refine zr_iinc C v51 3 [(3, .int v51), (0, .ref b), (1, .ref (G.1 + 0)), (2, .ref (G.1 + 105))] dL_law_1639 rfl (hv51.trans (zinc (by decide))) (by decide) rfl ?_
            refine zr_goto C 18 dL_law_1642 (by decide) ?_
            refine zr_sub [1, 2, 3, 0] [(0, .ref b), (1, .ref (G.1 + 0)), (2, .ref (G.1 + 105)), (3, .int v51)] rfl ?_
            exact ih18 _ _ hJ
          · have hJ := zif' hc50 hJ
            refine zr_iconst C dL_law_352 (v := (0 : Int32)) (by decide) ?_
            exact absurd (zs_e hJ) (by decide)
        have hJ := zif' hs45 hJ
        by_cases hs52 : v3 = (6 : Int32)
        · have hJ := zif hs52 hJ
          refine zr_tin C 354 dL_law_33 (by rw [hs52]; decide) (by rw [hs52]; decide) (by rw [hs52]; rfl) (by decide) ?_
          refine zr_aload_n C 1 dL_law_354 rfl ?_
          refine zr_aload_n C 0 dL_law_355 rfl ?_
          refine zr_iload_n C 3 dL_law_356 rfl ?_
          refine zr_iconst C dL_law_357 (v := (1 : Int32)) (by decide) ?_
          refine zr_iadd C dL_law_358 ?_
          obtain ⟨hg53, hJ⟩ := zg_e hJ
          refine zl_sld C hX hb hg53 dL_law_359 ?_
          obtain ⟨r54, hr54, hJ⟩ := zb_e hJ
          refine zr_callVI C 0 (zk_lt zk_0 (by decide)) (zen_obj zk_0) (rfl : zcl[10]? = some (RX10, TX10, 12)) (M_X10_whole G l hr54) zin_X10_whole zm_22_3 rfl rfl (Nat.le_of_ble_eq_true rfl) ⟨Nat.le_of_ble_eq_true rfl, Nat.le_of_ble_eq_true rfl⟩ ⟨Nat.le_of_ble_eq_true rfl, Nat.le_of_ble_eq_true rfl⟩ dL_law_360 ?_
          refine zr_aload_n C 2 dL_law_363 rfl ?_
          refine zr_aload_n C 0 dL_law_364 rfl ?_
          refine zr_iload_n C 3 dL_law_365 rfl ?_
          refine zr_iconst C dL_law_366 (v := (1 : Int32)) (by decide) ?_
          refine zr_iadd C dL_law_367 ?_
          obtain ⟨hg55, hJ⟩ := zg_e hJ
          refine zl_sld C hX hb hg55 dL_law_368 ?_
          obtain ⟨r56, hr56, hJ⟩ := zb_e hJ
          refine zr_callVI C 105 (zk_lt zk_105 (by decide)) (zen_obj zk_105) (rfl : zcl[11]? = some (RX11, TX11, 56)) (M_X11_whole G l hr56) zin_X11_whole zm_22_19 rfl rfl (Nat.le_of_ble_eq_true rfl) ⟨Nat.le_of_ble_eq_true rfl, Nat.le_of_ble_eq_true rfl⟩ ⟨Nat.le_of_ble_eq_true rfl, Nat.le_of_ble_eq_true rfl⟩ dL_law_369 ?_
          refine zr_icmp_eq C 1639 dL_law_372 (by decide) (fun hc57 => ?_) (fun hc57 => ?_)
          · have hJ := zif hc57 hJ
            obtain ⟨v58, hv58, hJ⟩ := zlet_e hJ
            refine zr_iinc C v58 3 [(3, .int v58), (0, .ref b), (1, .ref (G.1 + 0)), (2, .ref (G.1 + 105))] dL_law_1639 rfl (hv58.trans (zinc (by decide))) (by decide) rfl ?_
            refine zr_goto C 18 dL_law_1642 (by decide) ?_
            refine zr_sub [1, 2, 3, 0] [(0, .ref b), (1, .ref (G.1 + 0)), (2, .ref (G.1 + 105)), (3, .int v58)] rfl ?_
            exact ih18 _ _ hJ
          · have hJ := zif' hc57 hJ
            refine zr_iconst C dL_law_375 (v := (0 : Int32)) (by decide) ?_
            exact absurd (zs_e hJ) (by decide)
        have hJ := zif' hs52 hJ
        by_cases hs59 : v3 = (7 : Int32)
        · have hJ := zif hs59 hJ
          refine zr_tin C 377 dL_law_33 (by rw [hs59]; decide) (by rw [hs59]; decide) (by rw [hs59]; rfl) (by decide) ?_
          refine zr_aload_n C 1 dL_law_377 rfl ?_
          refine zr_aload_n C 0 dL_law_378 rfl ?_
          refine zr_iload_n C 3 dL_law_379 rfl ?_
          refine zr_iconst C dL_law_380 (v := (1 : Int32)) (by decide) ?_
          refine zr_iadd C dL_law_381 ?_
          obtain ⟨hg60, hJ⟩ := zg_e hJ
          refine zl_sld C hX hb hg60 dL_law_382 ?_
          refine zr_aload_n C 0 dL_law_383 rfl ?_
          refine zr_iload_n C 3 dL_law_384 rfl ?_
          refine zr_iconst C dL_law_385 (v := (2 : Int32)) (by decide) ?_
          refine zr_iadd C dL_law_386 ?_
          obtain ⟨hg61, hJ⟩ := zg_e hJ
          refine zl_sld C hX hb hg61 dL_law_387 ?_
          refine zr_aload_n C 0 dL_law_388 rfl ?_
          refine zr_iload_n C 3 dL_law_389 rfl ?_
          refine zr_iconst C dL_law_390 (v := (3 : Int32)) (by decide) ?_
          refine zr_iadd C dL_law_391 ?_
          obtain ⟨hg62, hJ⟩ := zg_e hJ
          refine zl_sld C hX hb hg62 dL_law_392 ?_
          refine zr_aload_n C 0 dL_law_393 rfl ?_
          refine zr_iload_n C 3 dL_law_394 rfl ?_
          refine zr_iconst C dL_law_395 (v := (4 : Int32)) (by decide) ?_
          refine zr_iadd C dL_law_396 ?_
          obtain ⟨hg63, hJ⟩ := zg_e hJ
          refine zl_sld C hX hb hg63 dL_law_397 ?_
          obtain ⟨r64, hr64, hJ⟩ := zb_e hJ
          refine zr_callVI C 0 (zk_lt zk_0 (by decide)) (zen_obj zk_0) (rfl : zcl[10]? = some (RX10, TX10, 12)) (M_X10_ratio G l hr64) zin_X10_ratio zm_23_3 rfl rfl (Nat.le_of_ble_eq_true rfl) ⟨Nat.le_of_ble_eq_true rfl, Nat.le_of_ble_eq_true rfl⟩ ⟨Nat.le_of_ble_eq_true rfl, Nat.le_of_ble_eq_true rfl⟩ dL_law_398 ?_
          refine zr_aload_n C 2 dL_law_401 rfl ?_
          refine zr_aload_n C 0 dL_law_402 rfl ?_
          refine zr_iload_n C 3 dL_law_403 rfl ?_
          refine zr_iconst C dL_law_404 (v := (1 : Int32)) (by decide) ?_
          refine zr_iadd C dL_law_405 ?_
          obtain ⟨hg65, hJ⟩ := zg_e hJ
          refine zl_sld C hX hb hg65 dL_law_406 ?_
          refine zr_aload_n C 0 dL_law_407 rfl ?_
          refine zr_iload_n C 3 dL_law_408 rfl ?_
          refine zr_iconst C dL_law_409 (v := (2 : Int32)) (by decide) ?_
          refine zr_iadd C dL_law_410 ?_
          obtain ⟨hg66, hJ⟩ := zg_e hJ
          refine zl_sld C hX hb hg66 dL_law_411 ?_
          refine zr_aload_n C 0 dL_law_412 rfl ?_
          refine zr_iload_n C 3 dL_law_413 rfl ?_
          refine zr_iconst C dL_law_414 (v := (3 : Int32)) (by decide) ?_
          refine zr_iadd C dL_law_415 ?_
          obtain ⟨hg67, hJ⟩ := zg_e hJ
          refine zl_sld C hX hb hg67 dL_law_416 ?_
          refine zr_aload_n C 0 dL_law_417 rfl ?_
          refine zr_iload_n C 3 dL_law_418 rfl ?_
          refine zr_iconst C dL_law_419 (v := (4 : Int32)) (by decide) ?_
          refine zr_iadd C dL_law_420 ?_
          obtain ⟨hg68, hJ⟩ := zg_e hJ
          refine zl_sld C hX hb hg68 dL_law_421 ?_
          obtain ⟨r69, hr69, hJ⟩ := zb_e hJ
          refine zr_callVI C 105 (zk_lt zk_105 (by decide)) (zen_obj zk_105) (rfl : zcl[11]? = some (RX11, TX11, 56)) (M_X11_ratio G l hr69) zin_X11_ratio zm_23_20 rfl rfl (Nat.le_of_ble_eq_true rfl) ⟨Nat.le_of_ble_eq_true rfl, Nat.le_of_ble_eq_true rfl⟩ ⟨Nat.le_of_ble_eq_true rfl, Nat.le_of_ble_eq_true rfl⟩ dL_law_422 ?_
          refine zr_icmp_eq C 1639 dL_law_425 (by decide) (fun hc70 => ?_) (fun hc70 => ?_)
          · have hJ := zif hc70 hJ
            obtain ⟨v71, hv71, hJ⟩ := zlet_e hJ
            refine zr_iinc C v71 3 [(3, .int v71), (0, .ref b), (1, .ref (G.1 + 0)), (2, .ref (G.1 + 105))] dL_law_1639 rfl (hv71.trans (zinc (by decide))) (by decide) rfl ?_
            refine zr_goto C 18 dL_law_1642 (by decide) ?_
            refine zr_sub [1, 2, 3, 0] [(0, .ref b), (1, .ref (G.1 + 0)), (2, .ref (G.1 + 105)), (3, .int v71)] rfl ?_
            exact ih18 _ _ hJ
          · have hJ := zif' hc70 hJ
            refine zr_iconst C dL_law_428 (v := (0 : Int32)) (by decide) ?_
            exact absurd (zs_e hJ) (by decide)
        have hJ := zif' hs59 hJ
        by_cases hs72 : v3 = (8 : Int32)
        · have hJ := zif hs72 hJ
          refine zr_tin C 430 dL_law_33 (by rw [hs72]; decide) (by rw [hs72]; decide) (by rw [hs72]; rfl) (by decide) ?_
          refine zr_aload_n C 1 dL_law_430 rfl ?_
          refine zr_aload_n C 0 dL_law_431 rfl ?_
          refine zr_iload_n C 3 dL_law_432 rfl ?_
          refine zr_iconst C dL_law_433 (v := (1 : Int32)) (by decide) ?_
          refine zr_iadd C dL_law_434 ?_
          obtain ⟨hg73, hJ⟩ := zg_e hJ
          refine zl_sld C hX hb hg73 dL_law_435 ?_
          refine zr_aload_n C 0 dL_law_436 rfl ?_
          refine zr_iload_n C 3 dL_law_437 rfl ?_
          refine zr_iconst C dL_law_438 (v := (2 : Int32)) (by decide) ?_
          refine zr_iadd C dL_law_439 ?_
          obtain ⟨hg74, hJ⟩ := zg_e hJ
          refine zl_sld C hX hb hg74 dL_law_440 ?_
          obtain ⟨r75, hr75, hJ⟩ := zb_e hJ
          refine zr_callVI C 0 (zk_lt zk_0 (by decide)) (zen_obj zk_0) (rfl : zcl[10]? = some (RX10, TX10, 12)) (M_X10_loop G l hr75) zin_X10_loop zm_24_12 rfl rfl (Nat.le_of_ble_eq_true rfl) ⟨Nat.le_of_ble_eq_true rfl, Nat.le_of_ble_eq_true rfl⟩ ⟨Nat.le_of_ble_eq_true rfl, Nat.le_of_ble_eq_true rfl⟩ dL_law_441 ?_
          refine zr_aload_n C 2 dL_law_444 rfl ?_
          refine zr_aload_n C 0 dL_law_445 rfl ?_
          refine zr_iload_n C 3 dL_law_446 rfl ?_
          refine zr_iconst C dL_law_447 (v := (1 : Int32)) (by decide) ?_
          refine zr_iadd C dL_law_448 ?_
          obtain ⟨hg76, hJ⟩ := zg_e hJ
          refine zl_sld C hX hb hg76 dL_law_449 ?_
          refine zr_aload_n C 0 dL_law_450 rfl ?_
          refine zr_iload_n C 3 dL_law_451 rfl ?_
          refine zr_iconst C dL_law_452 (v := (2 : Int32)) (by decide) ?_
          refine zr_iadd C dL_law_453 ?_
          obtain ⟨hg77, hJ⟩ := zg_e hJ
          refine zl_sld C hX hb hg77 dL_law_454 ?_
          obtain ⟨r78, hr78, hJ⟩ := zb_e hJ
          refine zr_callVI C 105 (zk_lt zk_105 (by decide)) (zen_obj zk_105) (rfl : zcl[11]? = some (RX11, TX11, 56)) (M_X11_loop G l hr78) zin_X11_loop zm_25_7 rfl rfl (Nat.le_of_ble_eq_true rfl) ⟨Nat.le_of_ble_eq_true rfl, Nat.le_of_ble_eq_true rfl⟩ ⟨Nat.le_of_ble_eq_true rfl, Nat.le_of_ble_eq_true rfl⟩ dL_law_455 ?_
          refine zr_icmp_eq C 1639 dL_law_458 (by decide) (fun hc79 => ?_) (fun hc79 => ?_)
          · have hJ := zif hc79 hJ
            obtain ⟨v80, hv80, hJ⟩ := zlet_e hJ
            refine zr_iinc C v80 3 [(3, .int v80), (0, .ref b), (1, .ref (G.1 + 0)), (2, .ref (G.1 + 105))] dL_law_1639 rfl (hv80.trans (zinc (by decide))) (by decide) rfl ?_
            refine zr_goto C 18 dL_law_1642 (by decide) ?_
            refine zr_sub [1, 2, 3, 0] [(0, .ref b), (1, .ref (G.1 + 0)), (2, .ref (G.1 + 105)), (3, .int v80)] rfl ?_
            exact ih18 _ _ hJ
          · have hJ := zif' hc79 hJ
            refine zr_iconst C dL_law_461 (v := (0 : Int32)) (by decide) ?_
            exact absurd (zs_e hJ) (by decide)
        have hJ := zif' hs72 hJ
        by_cases hs81 : v3 = (9 : Int32)
        · have hJ := zif hs81 hJ
          refine zr_tin C 463 dL_law_33 (by rw [hs81]; decide) (by rw [hs81]; decide) (by rw [hs81]; rfl) (by decide) ?_
          refine zr_aload_n C 1 dL_law_463 rfl ?_
          refine zr_aload_n C 0 dL_law_464 rfl ?_
          refine zr_iload_n C 3 dL_law_465 rfl ?_
          refine zr_iconst C dL_law_466 (v := (1 : Int32)) (by decide) ?_
          refine zr_iadd C dL_law_467 ?_
          obtain ⟨hg82, hJ⟩ := zg_e hJ
          refine zl_sld C hX hb hg82 dL_law_468 ?_
          refine zr_aload_n C 0 dL_law_469 rfl ?_
          refine zr_iload_n C 3 dL_law_470 rfl ?_
          refine zr_iconst C dL_law_471 (v := (2 : Int32)) (by decide) ?_
          refine zr_iadd C dL_law_472 ?_
          obtain ⟨hg83, hJ⟩ := zg_e hJ
          refine zl_sld C hX hb hg83 dL_law_473 ?_
          refine zr_aload_n C 0 dL_law_474 rfl ?_
          refine zr_iload_n C 3 dL_law_475 rfl ?_
          refine zr_iconst C dL_law_476 (v := (3 : Int32)) (by decide) ?_
          refine zr_iadd C dL_law_477 ?_
          obtain ⟨hg84, hJ⟩ := zg_e hJ
          refine zl_sld C hX hb hg84 dL_law_478 ?_
          obtain ⟨r85, hr85, hJ⟩ := zb_e hJ
          refine zr_callVI C 0 (zk_lt zk_0 (by decide)) (zen_obj zk_0) (rfl : zcl[10]? = some (RX10, TX10, 12)) (M_X10_went G l hr85) zin_X10_went zm_25_12 rfl rfl (Nat.le_of_ble_eq_true rfl) ⟨Nat.le_of_ble_eq_true rfl, Nat.le_of_ble_eq_true rfl⟩ ⟨Nat.le_of_ble_eq_true rfl, Nat.le_of_ble_eq_true rfl⟩ dL_law_479 ?_
          refine zr_aload_n C 2 dL_law_482 rfl ?_
          refine zr_aload_n C 0 dL_law_483 rfl ?_
          refine zr_iload_n C 3 dL_law_484 rfl ?_
          refine zr_iconst C dL_law_485 (v := (1 : Int32)) (by decide) ?_
          refine zr_iadd C dL_law_486 ?_
          obtain ⟨hg86, hJ⟩ := zg_e hJ
          refine zl_sld C hX hb hg86 dL_law_487 ?_
          refine zr_aload_n C 0 dL_law_488 rfl ?_
          refine zr_iload_n C 3 dL_law_489 rfl ?_
          refine zr_iconst C dL_law_490 (v := (2 : Int32)) (by decide) ?_
          refine zr_iadd C dL_law_491 ?_
          obtain ⟨hg87, hJ⟩ := zg_e hJ
          refine zl_sld C hX hb hg87 dL_law_492 ?_
          refine zr_aload_n C 0 dL_law_493 rfl ?_
          refine zr_iload_n C 3 dL_law_494 rfl ?_
          refine zr_iconst C dL_law_495 (v := (3 : Int32)) (by decide) ?_
          refine zr_iadd C dL_law_496 ?_
          obtain ⟨hg88, hJ⟩ := zg_e hJ
          refine zl_sld C hX hb hg88 dL_law_497 ?_
          obtain ⟨r89, hr89, hJ⟩ := zb_e hJ
          refine zr_callVI C 105 (zk_lt zk_105 (by decide)) (zen_obj zk_105) (rfl : zcl[11]? = some (RX11, TX11, 56)) (M_X11_went G l hr89) zin_X11_went zm_25_21 rfl rfl (Nat.le_of_ble_eq_true rfl) ⟨Nat.le_of_ble_eq_true rfl, Nat.le_of_ble_eq_true rfl⟩ ⟨Nat.le_of_ble_eq_true rfl, Nat.le_of_ble_eq_true rfl⟩ dL_law_498 ?_
          refine zr_icmp_eq C 1639 dL_law_501 (by decide) (fun hc90 => ?_) (fun hc90 => ?_)
          · have hJ := zif hc90 hJ
            obtain ⟨v91, hv91, hJ⟩ := zlet_e hJ
            refine zr_iinc C v91 3 [(3, .int v91), (0, .ref b), (1, .ref (G.1 + 0)), (2, .ref (G.1 + 105))] dL_law_1639 rfl (hv91.trans (zinc (by decide))) (by decide) rfl ?_
            refine zr_goto C 18 dL_law_1642 (by decide) ?_
            refine zr_sub [1, 2, 3, 0] [(0, .ref b), (1, .ref (G.1 + 0)), (2, .ref (G.1 + 105)), (3, .int v91)] rfl ?_
            exact ih18 _ _ hJ
          · have hJ := zif' hc90 hJ
            refine zr_iconst C dL_law_504 (v := (0 : Int32)) (by decide) ?_
            exact absurd (zs_e hJ) (by decide)
        have hJ := zif' hs81 hJ
        by_cases hs92 : v3 = (10 : Int32)
        · have hJ := zif hs92 hJ
          refine zr_tin C 506 dL_law_33 (by rw [hs92]; decide) (by rw [hs92]; decide) (by rw [hs92]; rfl) (by decide) ?_
          refine zr_aload_n C 1 dL_law_506 rfl ?_
          refine zr_aload_n C 0 dL_law_507 rfl ?_
          refine zr_iload_n C 3 dL_law_508 rfl ?_
          refine zr_iconst C dL_law_509 (v := (1 : Int32)) (by decide) ?_
          refine zr_iadd C dL_law_510 ?_
          obtain ⟨hg93, hJ⟩ := zg_e hJ
          refine zl_sld C hX hb hg93 dL_law_511 ?_
          refine zr_aload_n C 0 dL_law_512 rfl ?_
          refine zr_iload_n C 3 dL_law_513 rfl ?_
          refine zr_iconst C dL_law_514 (v := (2 : Int32)) (by decide) ?_
          refine zr_iadd C dL_law_515 ?_
          obtain ⟨hg94, hJ⟩ := zg_e hJ
          refine zl_sld C hX hb hg94 dL_law_516 ?_
          refine zr_aload_n C 0 dL_law_517 rfl ?_
          refine zr_iload_n C 3 dL_law_518 rfl ?_
          refine zr_iconst C dL_law_519 (v := (3 : Int32)) (by decide) ?_
          refine zr_iadd C dL_law_520 ?_
          obtain ⟨hg95, hJ⟩ := zg_e hJ
          refine zl_sld C hX hb hg95 dL_law_521 ?_
          obtain ⟨r96, hr96, hJ⟩ := zb_e hJ
          refine zr_callVI C 0 (zk_lt zk_0 (by decide)) (zen_obj zk_0) (rfl : zcl[10]? = some (RX10, TX10, 12)) (M_X10_hot G l hr96) zin_X10_hot zm_26_2 rfl rfl (Nat.le_of_ble_eq_true rfl) ⟨Nat.le_of_ble_eq_true rfl, Nat.le_of_ble_eq_true rfl⟩ ⟨Nat.le_of_ble_eq_true rfl, Nat.le_of_ble_eq_true rfl⟩ dL_law_522 ?_
          refine zr_aload_n C 2 dL_law_525 rfl ?_
          refine zr_aload_n C 0 dL_law_526 rfl ?_
          refine zr_iload_n C 3 dL_law_527 rfl ?_
          refine zr_iconst C dL_law_528 (v := (1 : Int32)) (by decide) ?_
          refine zr_iadd C dL_law_529 ?_
          obtain ⟨hg97, hJ⟩ := zg_e hJ
          refine zl_sld C hX hb hg97 dL_law_530 ?_
          refine zr_aload_n C 0 dL_law_531 rfl ?_
          refine zr_iload_n C 3 dL_law_532 rfl ?_
          refine zr_iconst C dL_law_533 (v := (2 : Int32)) (by decide) ?_
          refine zr_iadd C dL_law_534 ?_
          obtain ⟨hg98, hJ⟩ := zg_e hJ
          refine zl_sld C hX hb hg98 dL_law_535 ?_
          refine zr_aload_n C 0 dL_law_536 rfl ?_
          refine zr_iload_n C 3 dL_law_537 rfl ?_
          refine zr_iconst C dL_law_538 (v := (3 : Int32)) (by decide) ?_
          refine zr_iadd C dL_law_539 ?_
          obtain ⟨hg99, hJ⟩ := zg_e hJ
          refine zl_sld C hX hb hg99 dL_law_540 ?_
          obtain ⟨r100, hr100, hJ⟩ := zb_e hJ
          refine zr_callVI C 105 (zk_lt zk_105 (by decide)) (zen_obj zk_105) (rfl : zcl[11]? = some (RX11, TX11, 56)) (M_X11_hot G l hr100) zin_X11_hot zm_27_3 rfl rfl (Nat.le_of_ble_eq_true rfl) ⟨Nat.le_of_ble_eq_true rfl, Nat.le_of_ble_eq_true rfl⟩ ⟨Nat.le_of_ble_eq_true rfl, Nat.le_of_ble_eq_true rfl⟩ dL_law_541 ?_
          refine zr_icmp_eq C 1639 dL_law_544 (by decide) (fun hc101 => ?_) (fun hc101 => ?_)
          · have hJ := zif hc101 hJ
            obtain ⟨v102, hv102, hJ⟩ := zlet_e hJ
            refine zr_iinc C v102 3 [(3, .int v102), (0, .ref b), (1, .ref (G.1 + 0)), (2, .ref (G.1 + 105))] dL_law_1639 rfl (hv102.trans (zinc (by decide))) (by decide) rfl ?_
            refine zr_goto C 18 dL_law_1642 (by decide) ?_
            refine zr_sub [1, 2, 3, 0] [(0, .ref b), (1, .ref (G.1 + 0)), (2, .ref (G.1 + 105)), (3, .int v102)] rfl ?_
            exact ih18 _ _ hJ
          · have hJ := zif' hc101 hJ
            refine zr_iconst C dL_law_547 (v := (0 : Int32)) (by decide) ?_
            exact absurd (zs_e hJ) (by decide)
        have hJ := zif' hs92 hJ
        by_cases hs103 : v3 = (11 : Int32)
        · have hJ := zif hs103 hJ
          refine zr_tin C 549 dL_law_33 (by rw [hs103]; decide) (by rw [hs103]; decide) (by rw [hs103]; rfl) (by decide) ?_
          refine zr_aload_n C 1 dL_law_549 rfl ?_
          obtain ⟨r104, σ105, hr104, hJ⟩ := zb2_e hJ
          refine zr_callVI C 0 (zk_lt zk_0 (by decide)) (zen_obj zk_0) (rfl : zcl[10]? = some (RX10, TX10, 12)) (M_X10_keep G l hr104) zin_X10_keep zm_27_11 rfl rfl (Nat.le_of_ble_eq_true rfl) ⟨Nat.le_of_ble_eq_true rfl, Nat.le_of_ble_eq_true rfl⟩ ⟨Nat.le_of_ble_eq_true rfl, Nat.le_of_ble_eq_true rfl⟩ dL_law_550 ?_
          refine zr_aload_n C 2 dL_law_553 rfl ?_
          obtain ⟨r106, σ107, hr106, hJ⟩ := zb2_e hJ
          refine zr_callVI C 105 (zk_lt zk_105 (by decide)) (zen_obj zk_105) (rfl : zcl[11]? = some (RX11, TX11, 56)) (M_X11_keep G l hr106) zin_X11_keep zm_27_20 rfl rfl (Nat.le_of_ble_eq_true rfl) ⟨Nat.le_of_ble_eq_true rfl, Nat.le_of_ble_eq_true rfl⟩ ⟨Nat.le_of_ble_eq_true rfl, Nat.le_of_ble_eq_true rfl⟩ dL_law_554 ?_
          refine zr_icmp_eq C 1639 dL_law_557 (by decide) (fun hc108 => ?_) (fun hc108 => ?_)
          · have hJ := zif hc108 hJ
            obtain ⟨v109, hv109, hJ⟩ := zlet_e hJ
            refine zr_iinc C v109 3 [(3, .int v109), (0, .ref b), (1, .ref (G.1 + 0)), (2, .ref (G.1 + 105))] dL_law_1639 rfl (hv109.trans (zinc (by decide))) (by decide) rfl ?_
            refine zr_goto C 18 dL_law_1642 (by decide) ?_
            refine zr_sub [1, 2, 3, 0] [(0, .ref b), (1, .ref (G.1 + 0)), (2, .ref (G.1 + 105)), (3, .int v109)] rfl ?_
            exact ih18 _ _ hJ
          · have hJ := zif' hc108 hJ
            refine zr_iconst C dL_law_560 (v := (0 : Int32)) (by decide) ?_
            exact absurd (zs_e hJ) (by decide)
        have hJ := zif' hs103 hJ
        by_cases hs110 : v3 = (12 : Int32)
        · have hJ := zif hs110 hJ
          refine zr_tin C 562 dL_law_33 (by rw [hs110]; decide) (by rw [hs110]; decide) (by rw [hs110]; rfl) (by decide) ?_
          refine zr_aload_n C 1 dL_law_562 rfl ?_
          refine zr_aload_n C 0 dL_law_563 rfl ?_
          refine zr_iload_n C 3 dL_law_564 rfl ?_
          refine zr_iconst C dL_law_565 (v := (1 : Int32)) (by decide) ?_
          refine zr_iadd C dL_law_566 ?_
          obtain ⟨hg111, hJ⟩ := zg_e hJ
          refine zl_sld C hX hb hg111 dL_law_567 ?_
          refine zr_aload_n C 0 dL_law_568 rfl ?_
          refine zr_iload_n C 3 dL_law_569 rfl ?_
          refine zr_iconst C dL_law_570 (v := (2 : Int32)) (by decide) ?_
          refine zr_iadd C dL_law_571 ?_
          obtain ⟨hg112, hJ⟩ := zg_e hJ
          refine zl_sld C hX hb hg112 dL_law_572 ?_
          obtain ⟨r113, hr113, hJ⟩ := zb_e hJ
          refine zr_callVI C 0 (zk_lt zk_0 (by decide)) (zen_obj zk_0) (rfl : zcl[10]? = some (RX10, TX10, 12)) (M_X10_beside G l hr113) zin_X10_beside zm_28_1 rfl rfl (Nat.le_of_ble_eq_true rfl) ⟨Nat.le_of_ble_eq_true rfl, Nat.le_of_ble_eq_true rfl⟩ ⟨Nat.le_of_ble_eq_true rfl, Nat.le_of_ble_eq_true rfl⟩ dL_law_573 ?_
          refine zr_aload_n C 2 dL_law_576 rfl ?_
          refine zr_aload_n C 0 dL_law_577 rfl ?_
          refine zr_iload_n C 3 dL_law_578 rfl ?_
          refine zr_iconst C dL_law_579 (v := (1 : Int32)) (by decide) ?_
          refine zr_iadd C dL_law_580 ?_
          obtain ⟨hg114, hJ⟩ := zg_e hJ
          refine zl_sld C hX hb hg114 dL_law_581 ?_
          refine zr_aload_n C 0 dL_law_582 rfl ?_
          refine zr_iload_n C 3 dL_law_583 rfl ?_
          refine zr_iconst C dL_law_584 (v := (2 : Int32)) (by decide) ?_
          refine zr_iadd C dL_law_585 ?_
          obtain ⟨hg115, hJ⟩ := zg_e hJ
          refine zl_sld C hX hb hg115 dL_law_586 ?_
          obtain ⟨r116, hr116, hJ⟩ := zb_e hJ
          refine zr_callVI C 105 (zk_lt zk_105 (by decide)) (zen_obj zk_105) (rfl : zcl[11]? = some (RX11, TX11, 56)) (M_X11_beside G l hr116) zin_X11_beside zm_29_0 rfl rfl (Nat.le_of_ble_eq_true rfl) ⟨Nat.le_of_ble_eq_true rfl, Nat.le_of_ble_eq_true rfl⟩ ⟨Nat.le_of_ble_eq_true rfl, Nat.le_of_ble_eq_true rfl⟩ dL_law_587 ?_
          refine zr_icmp_eq C 1639 dL_law_590 (by decide) (fun hc117 => ?_) (fun hc117 => ?_)
          · have hJ := zif hc117 hJ
            obtain ⟨v118, hv118, hJ⟩ := zlet_e hJ
            refine zr_iinc C v118 3 [(3, .int v118), (0, .ref b), (1, .ref (G.1 + 0)), (2, .ref (G.1 + 105))] dL_law_1639 rfl (hv118.trans (zinc (by decide))) (by decide) rfl ?_
            refine zr_goto C 18 dL_law_1642 (by decide) ?_
            refine zr_sub [1, 2, 3, 0] [(0, .ref b), (1, .ref (G.1 + 0)), (2, .ref (G.1 + 105)), (3, .int v118)] rfl ?_
            exact ih18 _ _ hJ
          · have hJ := zif' hc117 hJ
            refine zr_iconst C dL_law_593 (v := (0 : Int32)) (by decide) ?_
            exact absurd (zs_e hJ) (by decide)
        have hJ := zif' hs110 hJ
        by_cases hs119 : v3 = (13 : Int32)
        · have hJ := zif hs119 hJ
          refine zr_tin C 595 dL_law_33 (by rw [hs119]; decide) (by rw [hs119]; decide) (by rw [hs119]; rfl) (by decide) ?_
          refine zr_aload_n C 1 dL_law_595 rfl ?_
          refine zr_aload_n C 0 dL_law_596 rfl ?_
          refine zr_iload_n C 3 dL_law_597 rfl ?_
          refine zr_iconst C dL_law_598 (v := (1 : Int32)) (by decide) ?_
          refine zr_iadd C dL_law_599 ?_
          obtain ⟨hg120, hJ⟩ := zg_e hJ
          refine zl_sld C hX hb hg120 dL_law_600 ?_
          obtain ⟨r121, σ122, hr121, hJ⟩ := zb2_e hJ
          refine zr_callVI C 0 (zk_lt zk_0 (by decide)) (zen_obj zk_0) (rfl : zcl[10]? = some (RX10, TX10, 12)) (M_X10_counters G l hr121) zin_X10_counters zm_29_4 rfl rfl (Nat.le_of_ble_eq_true rfl) ⟨Nat.le_of_ble_eq_true rfl, Nat.le_of_ble_eq_true rfl⟩ ⟨Nat.le_of_ble_eq_true rfl, Nat.le_of_ble_eq_true rfl⟩ dL_law_601 ?_
          refine zr_aload_n C 2 dL_law_604 rfl ?_
          refine zr_aload_n C 0 dL_law_605 rfl ?_
          refine zr_iload_n C 3 dL_law_606 rfl ?_
          refine zr_iconst C dL_law_607 (v := (1 : Int32)) (by decide) ?_
          refine zr_iadd C dL_law_608 ?_
          obtain ⟨hg123, hJ⟩ := zg_e hJ
          refine zl_sld C hX hb hg123 dL_law_609 ?_
          obtain ⟨r124, σ125, hr124, hJ⟩ := zb2_e hJ
          refine zr_callVI C 105 (zk_lt zk_105 (by decide)) (zen_obj zk_105) (rfl : zcl[11]? = some (RX11, TX11, 56)) (M_X11_counters G l hr124) zin_X11_counters zm_29_9 rfl rfl (Nat.le_of_ble_eq_true rfl) ⟨Nat.le_of_ble_eq_true rfl, Nat.le_of_ble_eq_true rfl⟩ ⟨Nat.le_of_ble_eq_true rfl, Nat.le_of_ble_eq_true rfl⟩ dL_law_610 ?_
          refine zr_icmp_eq C 1639 dL_law_613 (by decide) (fun hc126 => ?_) (fun hc126 => ?_)
          · have hJ := zif hc126 hJ
            obtain ⟨v127, hv127, hJ⟩ := zlet_e hJ
            refine zr_iinc C v127 3 [(3, .int v127), (0, .ref b), (1, .ref (G.1 + 0)), (2, .ref (G.1 + 105))] dL_law_1639 rfl (hv127.trans (zinc (by decide))) (by decide) rfl ?_
            refine zr_goto C 18 dL_law_1642 (by decide) ?_
            refine zr_sub [1, 2, 3, 0] [(0, .ref b), (1, .ref (G.1 + 0)), (2, .ref (G.1 + 105)), (3, .int v127)] rfl ?_
            exact ih18 _ _ hJ
          · have hJ := zif' hc126 hJ
            refine zr_iconst C dL_law_616 (v := (0 : Int32)) (by decide) ?_
            exact absurd (zs_e hJ) (by decide)
        have hJ := zif' hs119 hJ
        by_cases hs128 : v3 = (14 : Int32)
        · have hJ := zif hs128 hJ
          refine zr_tin C 618 dL_law_33 (by rw [hs128]; decide) (by rw [hs128]; decide) (by rw [hs128]; rfl) (by decide) ?_
          refine zr_aload_n C 1 dL_law_618 rfl ?_
          refine zr_aload_n C 0 dL_law_619 rfl ?_
          refine zr_iload_n C 3 dL_law_620 rfl ?_
          refine zr_iconst C dL_law_621 (v := (1 : Int32)) (by decide) ?_
          refine zr_iadd C dL_law_622 ?_
          obtain ⟨hg129, hJ⟩ := zg_e hJ
          refine zl_sld C hX hb hg129 dL_law_623 ?_
          refine zr_aload_n C 0 dL_law_624 rfl ?_
          refine zr_iload_n C 3 dL_law_625 rfl ?_
          refine zr_iconst C dL_law_626 (v := (2 : Int32)) (by decide) ?_
          refine zr_iadd C dL_law_627 ?_
          obtain ⟨hg130, hJ⟩ := zg_e hJ
          refine zl_sld C hX hb hg130 dL_law_628 ?_
          obtain ⟨r131, σ132, hr131, hJ⟩ := zb2_e hJ
          refine zr_callVI C 0 (zk_lt zk_0 (by decide)) (zen_obj zk_0) (rfl : zcl[10]? = some (RX10, TX10, 12)) (M_X10_mask G l hr131) zin_X10_mask zm_29_13 rfl rfl (Nat.le_of_ble_eq_true rfl) ⟨Nat.le_of_ble_eq_true rfl, Nat.le_of_ble_eq_true rfl⟩ ⟨Nat.le_of_ble_eq_true rfl, Nat.le_of_ble_eq_true rfl⟩ dL_law_629 ?_
          refine zr_aload_n C 2 dL_law_632 rfl ?_
          refine zr_aload_n C 0 dL_law_633 rfl ?_
          refine zr_iload_n C 3 dL_law_634 rfl ?_
          refine zr_iconst C dL_law_635 (v := (1 : Int32)) (by decide) ?_
          refine zr_iadd C dL_law_636 ?_
          obtain ⟨hg133, hJ⟩ := zg_e hJ
          refine zl_sld C hX hb hg133 dL_law_637 ?_
          refine zr_aload_n C 0 dL_law_638 rfl ?_
          refine zr_iload_n C 3 dL_law_639 rfl ?_
          refine zr_iconst C dL_law_640 (v := (2 : Int32)) (by decide) ?_
          refine zr_iadd C dL_law_641 ?_
          obtain ⟨hg134, hJ⟩ := zg_e hJ
          refine zl_sld C hX hb hg134 dL_law_642 ?_
          obtain ⟨r135, σ136, hr135, hJ⟩ := zb2_e hJ
          refine zr_callVI C 105 (zk_lt zk_105 (by decide)) (zen_obj zk_105) (rfl : zcl[11]? = some (RX11, TX11, 56)) (M_X11_mask G l hr135) zin_X11_mask zm_29_23 rfl rfl (Nat.le_of_ble_eq_true rfl) ⟨Nat.le_of_ble_eq_true rfl, Nat.le_of_ble_eq_true rfl⟩ ⟨Nat.le_of_ble_eq_true rfl, Nat.le_of_ble_eq_true rfl⟩ dL_law_643 ?_
          refine zr_icmp_eq C 1639 dL_law_646 (by decide) (fun hc137 => ?_) (fun hc137 => ?_)
          · have hJ := zif hc137 hJ
            obtain ⟨v138, hv138, hJ⟩ := zlet_e hJ
            refine zr_iinc C v138 3 [(3, .int v138), (0, .ref b), (1, .ref (G.1 + 0)), (2, .ref (G.1 + 105))] dL_law_1639 rfl (hv138.trans (zinc (by decide))) (by decide) rfl ?_
            refine zr_goto C 18 dL_law_1642 (by decide) ?_
            refine zr_sub [1, 2, 3, 0] [(0, .ref b), (1, .ref (G.1 + 0)), (2, .ref (G.1 + 105)), (3, .int v138)] rfl ?_
            exact ih18 _ _ hJ
          · have hJ := zif' hc137 hJ
            refine zr_iconst C dL_law_649 (v := (0 : Int32)) (by decide) ?_
            exact absurd (zs_e hJ) (by decide)
        have hJ := zif' hs128 hJ
        by_cases hs139 : v3 = (15 : Int32)
        · have hJ := zif hs139 hJ
          refine zr_tin C 651 dL_law_33 (by rw [hs139]; decide) (by rw [hs139]; decide) (by rw [hs139]; rfl) (by decide) ?_
          refine zr_aload_n C 1 dL_law_651 rfl ?_
          refine zr_aload_n C 0 dL_law_652 rfl ?_
          refine zr_iload_n C 3 dL_law_653 rfl ?_
          refine zr_iconst C dL_law_654 (v := (1 : Int32)) (by decide) ?_
          refine zr_iadd C dL_law_655 ?_
          obtain ⟨hg140, hJ⟩ := zg_e hJ
          refine zl_sld C hX hb hg140 dL_law_656 ?_
          refine zr_aload_n C 0 dL_law_657 rfl ?_
          refine zr_iload_n C 3 dL_law_658 rfl ?_
          refine zr_iconst C dL_law_659 (v := (2 : Int32)) (by decide) ?_
          refine zr_iadd C dL_law_660 ?_
          obtain ⟨hg141, hJ⟩ := zg_e hJ
          refine zl_sld C hX hb hg141 dL_law_661 ?_
          obtain ⟨r142, σ143, hr142, hJ⟩ := zb2_e hJ
          refine zr_callVI C 0 (zk_lt zk_0 (by decide)) (zen_obj zk_0) (rfl : zcl[10]? = some (RX10, TX10, 12)) (M_X10_width G l hr142) zin_X10_width zm_30_7 rfl rfl (Nat.le_of_ble_eq_true rfl) ⟨Nat.le_of_ble_eq_true rfl, Nat.le_of_ble_eq_true rfl⟩ ⟨Nat.le_of_ble_eq_true rfl, Nat.le_of_ble_eq_true rfl⟩ dL_law_662 ?_
          refine zr_aload_n C 2 dL_law_665 rfl ?_
          refine zr_aload_n C 0 dL_law_666 rfl ?_
          refine zr_iload_n C 3 dL_law_667 rfl ?_
          refine zr_iconst C dL_law_668 (v := (1 : Int32)) (by decide) ?_
          refine zr_iadd C dL_law_669 ?_
          obtain ⟨hg144, hJ⟩ := zg_e hJ
          refine zl_sld C hX hb hg144 dL_law_670 ?_
          refine zr_aload_n C 0 dL_law_671 rfl ?_
          refine zr_iload_n C 3 dL_law_672 rfl ?_
          refine zr_iconst C dL_law_673 (v := (2 : Int32)) (by decide) ?_
          refine zr_iadd C dL_law_674 ?_
          obtain ⟨hg145, hJ⟩ := zg_e hJ
          refine zl_sld C hX hb hg145 dL_law_675 ?_
          obtain ⟨r146, σ147, hr146, hJ⟩ := zb2_e hJ
          refine zr_callVI C 105 (zk_lt zk_105 (by decide)) (zen_obj zk_105) (rfl : zcl[11]? = some (RX11, TX11, 56)) (M_X11_width G l hr146) zin_X11_width zm_30_12 rfl rfl (Nat.le_of_ble_eq_true rfl) ⟨Nat.le_of_ble_eq_true rfl, Nat.le_of_ble_eq_true rfl⟩ ⟨Nat.le_of_ble_eq_true rfl, Nat.le_of_ble_eq_true rfl⟩ dL_law_676 ?_
          refine zr_icmp_eq C 1639 dL_law_679 (by decide) (fun hc148 => ?_) (fun hc148 => ?_)
          · have hJ := zif hc148 hJ
            obtain ⟨v149, hv149, hJ⟩ := zlet_e hJ
            refine zr_iinc C v149 3 [(3, .int v149), (0, .ref b), (1, .ref (G.1 + 0)), (2, .ref (G.1 + 105))] dL_law_1639 rfl (hv149.trans (zinc (by decide))) (by decide) rfl ?_
            refine zr_goto C 18 dL_law_1642 (by decide) ?_
            refine zr_sub [1, 2, 3, 0] [(0, .ref b), (1, .ref (G.1 + 0)), (2, .ref (G.1 + 105)), (3, .int v149)] rfl ?_
            exact ih18 _ _ hJ
          · have hJ := zif' hc148 hJ
            refine zr_iconst C dL_law_682 (v := (0 : Int32)) (by decide) ?_
            exact absurd (zs_e hJ) (by decide)
        have hJ := zif' hs139 hJ
        by_cases hs150 : v3 = (16 : Int32)
        · have hJ := zif hs150 hJ
          refine zr_tin C 684 dL_law_33 (by rw [hs150]; decide) (by rw [hs150]; decide) (by rw [hs150]; rfl) (by decide) ?_
          refine zr_aload_n C 1 dL_law_684 rfl ?_
          refine zr_aload_n C 0 dL_law_685 rfl ?_
          refine zr_iload_n C 3 dL_law_686 rfl ?_
          refine zr_iconst C dL_law_687 (v := (1 : Int32)) (by decide) ?_
          refine zr_iadd C dL_law_688 ?_
          obtain ⟨hg151, hJ⟩ := zg_e hJ
          refine zl_sld C hX hb hg151 dL_law_689 ?_
          obtain ⟨r152, hr152, hJ⟩ := zb_e hJ
          refine zr_callVI C 0 (zk_lt zk_0 (by decide)) (zen_obj zk_0) (rfl : zcl[10]? = some (RX10, TX10, 12)) (M_X10_together G l hr152) zin_X10_together zm_30_18 rfl rfl (Nat.le_of_ble_eq_true rfl) ⟨Nat.le_of_ble_eq_true rfl, Nat.le_of_ble_eq_true rfl⟩ ⟨Nat.le_of_ble_eq_true rfl, Nat.le_of_ble_eq_true rfl⟩ dL_law_690 ?_
          refine zr_aload_n C 2 dL_law_693 rfl ?_
          refine zr_aload_n C 0 dL_law_694 rfl ?_
          refine zr_iload_n C 3 dL_law_695 rfl ?_
          refine zr_iconst C dL_law_696 (v := (1 : Int32)) (by decide) ?_
          refine zr_iadd C dL_law_697 ?_
          obtain ⟨hg153, hJ⟩ := zg_e hJ
          refine zl_sld C hX hb hg153 dL_law_698 ?_
          obtain ⟨r154, hr154, hJ⟩ := zb_e hJ
          refine zr_callVI C 105 (zk_lt zk_105 (by decide)) (zen_obj zk_105) (rfl : zcl[11]? = some (RX11, TX11, 56)) (M_X11_together G l hr154) zin_X11_together zm_31_13 rfl rfl (Nat.le_of_ble_eq_true rfl) ⟨Nat.le_of_ble_eq_true rfl, Nat.le_of_ble_eq_true rfl⟩ ⟨Nat.le_of_ble_eq_true rfl, Nat.le_of_ble_eq_true rfl⟩ dL_law_699 ?_
          refine zr_icmp_eq C 1639 dL_law_702 (by decide) (fun hc155 => ?_) (fun hc155 => ?_)
          · have hJ := zif hc155 hJ
            obtain ⟨v156, hv156, hJ⟩ := zlet_e hJ
            refine zr_iinc C v156 3 [(3, .int v156), (0, .ref b), (1, .ref (G.1 + 0)), (2, .ref (G.1 + 105))] dL_law_1639 rfl (hv156.trans (zinc (by decide))) (by decide) rfl ?_
            refine zr_goto C 18 dL_law_1642 (by decide) ?_
            refine zr_sub [1, 2, 3, 0] [(0, .ref b), (1, .ref (G.1 + 0)), (2, .ref (G.1 + 105)), (3, .int v156)] rfl ?_
            exact ih18 _ _ hJ
          · have hJ := zif' hc155 hJ
            refine zr_iconst C dL_law_705 (v := (0 : Int32)) (by decide) ?_
            exact absurd (zs_e hJ) (by decide)
        have hJ := zif' hs150 hJ
        by_cases hs157 : v3 = (17 : Int32)
        · have hJ := zif hs157 hJ
          refine zr_tin C 707 dL_law_33 (by rw [hs157]; decide) (by rw [hs157]; decide) (by rw [hs157]; rfl) (by decide) ?_
          refine zr_aload_n C 1 dL_law_707 rfl ?_
          refine zr_aload_n C 0 dL_law_708 rfl ?_
          refine zr_iload_n C 3 dL_law_709 rfl ?_
          refine zr_iconst C dL_law_710 (v := (1 : Int32)) (by decide) ?_
          refine zr_iadd C dL_law_711 ?_
          obtain ⟨hg158, hJ⟩ := zg_e hJ
          refine zl_sld C hX hb hg158 dL_law_712 ?_
          refine zr_aload_n C 0 dL_law_713 rfl ?_
          refine zr_iload_n C 3 dL_law_714 rfl ?_
          refine zr_iconst C dL_law_715 (v := (2 : Int32)) (by decide) ?_
          refine zr_iadd C dL_law_716 ?_
          obtain ⟨hg159, hJ⟩ := zg_e hJ
          refine zl_sld C hX hb hg159 dL_law_717 ?_
          obtain ⟨r160, hr160, hJ⟩ := zb_e hJ
          refine zr_callVI C 0 (zk_lt zk_0 (by decide)) (zen_obj zk_0) (rfl : zcl[10]? = some (RX10, TX10, 12)) (M_X10_goes G l hr160) zin_X10_goes zm_32_0 rfl rfl (Nat.le_of_ble_eq_true rfl) ⟨Nat.le_of_ble_eq_true rfl, Nat.le_of_ble_eq_true rfl⟩ ⟨Nat.le_of_ble_eq_true rfl, Nat.le_of_ble_eq_true rfl⟩ dL_law_718 ?_
          refine zr_aload_n C 2 dL_law_721 rfl ?_
          refine zr_aload_n C 0 dL_law_722 rfl ?_
          refine zr_iload_n C 3 dL_law_723 rfl ?_
          refine zr_iconst C dL_law_724 (v := (1 : Int32)) (by decide) ?_
          refine zr_iadd C dL_law_725 ?_
          obtain ⟨hg161, hJ⟩ := zg_e hJ
          refine zl_sld C hX hb hg161 dL_law_726 ?_
          refine zr_aload_n C 0 dL_law_727 rfl ?_
          refine zr_iload_n C 3 dL_law_728 rfl ?_
          refine zr_iconst C dL_law_729 (v := (2 : Int32)) (by decide) ?_
          refine zr_iadd C dL_law_730 ?_
          obtain ⟨hg162, hJ⟩ := zg_e hJ
          refine zl_sld C hX hb hg162 dL_law_731 ?_
          obtain ⟨r163, hr163, hJ⟩ := zb_e hJ
          refine zr_callVI C 105 (zk_lt zk_105 (by decide)) (zen_obj zk_105) (rfl : zcl[11]? = some (RX11, TX11, 56)) (M_X11_goes G l hr163) zin_X11_goes zm_32_9 rfl rfl (Nat.le_of_ble_eq_true rfl) ⟨Nat.le_of_ble_eq_true rfl, Nat.le_of_ble_eq_true rfl⟩ ⟨Nat.le_of_ble_eq_true rfl, Nat.le_of_ble_eq_true rfl⟩ dL_law_732 ?_
          refine zr_icmp_eq C 1639 dL_law_735 (by decide) (fun hc164 => ?_) (fun hc164 => ?_)
          · have hJ := zif hc164 hJ
            obtain ⟨v165, hv165, hJ⟩ := zlet_e hJ
            refine zr_iinc C v165 3 [(3, .int v165), (0, .ref b), (1, .ref (G.1 + 0)), (2, .ref (G.1 + 105))] dL_law_1639 rfl (hv165.trans (zinc (by decide))) (by decide) rfl ?_
            refine zr_goto C 18 dL_law_1642 (by decide) ?_
            refine zr_sub [1, 2, 3, 0] [(0, .ref b), (1, .ref (G.1 + 0)), (2, .ref (G.1 + 105)), (3, .int v165)] rfl ?_
            exact ih18 _ _ hJ
          · have hJ := zif' hc164 hJ
            refine zr_iconst C dL_law_738 (v := (0 : Int32)) (by decide) ?_
            exact absurd (zs_e hJ) (by decide)
        have hJ := zif' hs157 hJ
        by_cases hs166 : v3 = (18 : Int32)
        · have hJ := zif hs166 hJ
          refine zr_tin C 740 dL_law_33 (by rw [hs166]; decide) (by rw [hs166]; decide) (by rw [hs166]; rfl) (by decide) ?_
          refine zr_aload_n C 1 dL_law_740 rfl ?_
          refine zr_aload_n C 0 dL_law_741 rfl ?_
          refine zr_iload_n C 3 dL_law_742 rfl ?_
          refine zr_iconst C dL_law_743 (v := (1 : Int32)) (by decide) ?_
          refine zr_iadd C dL_law_744 ?_
          obtain ⟨hg167, hJ⟩ := zg_e hJ
          refine zl_sld C hX hb hg167 dL_law_745 ?_
          refine zr_aload_n C 0 dL_law_746 rfl ?_
          refine zr_iload_n C 3 dL_law_747 rfl ?_
          refine zr_iconst C dL_law_748 (v := (2 : Int32)) (by decide) ?_
          refine zr_iadd C dL_law_749 ?_
          obtain ⟨hg168, hJ⟩ := zg_e hJ
          refine zl_sld C hX hb hg168 dL_law_750 ?_
          obtain ⟨r169, σ170, hr169, hJ⟩ := zb2_e hJ
          refine zr_callVI C 0 (zk_lt zk_0 (by decide)) (zen_obj zk_0) (rfl : zcl[10]? = some (RX10, TX10, 12)) (M_X10_rounds G l hr169) zin_X10_rounds zm_32_13 rfl rfl (Nat.le_of_ble_eq_true rfl) ⟨Nat.le_of_ble_eq_true rfl, Nat.le_of_ble_eq_true rfl⟩ ⟨Nat.le_of_ble_eq_true rfl, Nat.le_of_ble_eq_true rfl⟩ dL_law_751 ?_
          refine zr_aload_n C 2 dL_law_754 rfl ?_
          refine zr_aload_n C 0 dL_law_755 rfl ?_
          refine zr_iload_n C 3 dL_law_756 rfl ?_
          refine zr_iconst C dL_law_757 (v := (1 : Int32)) (by decide) ?_
          refine zr_iadd C dL_law_758 ?_
          obtain ⟨hg171, hJ⟩ := zg_e hJ
          refine zl_sld C hX hb hg171 dL_law_759 ?_
          refine zr_aload_n C 0 dL_law_760 rfl ?_
          refine zr_iload_n C 3 dL_law_761 rfl ?_
          refine zr_iconst C dL_law_762 (v := (2 : Int32)) (by decide) ?_
          refine zr_iadd C dL_law_763 ?_
          obtain ⟨hg172, hJ⟩ := zg_e hJ
          refine zl_sld C hX hb hg172 dL_law_764 ?_
          obtain ⟨r173, σ174, hr173, hJ⟩ := zb2_e hJ
          refine zr_callVI C 105 (zk_lt zk_105 (by decide)) (zen_obj zk_105) (rfl : zcl[11]? = some (RX11, TX11, 56)) (M_X11_rounds G l hr173) zin_X11_rounds zm_33_13 rfl rfl (Nat.le_of_ble_eq_true rfl) ⟨Nat.le_of_ble_eq_true rfl, Nat.le_of_ble_eq_true rfl⟩ ⟨Nat.le_of_ble_eq_true rfl, Nat.le_of_ble_eq_true rfl⟩ dL_law_765 ?_
          refine zr_icmp_eq C 1639 dL_law_768 (by decide) (fun hc175 => ?_) (fun hc175 => ?_)
          · have hJ := zif hc175 hJ
            obtain ⟨v176, hv176, hJ⟩ := zlet_e hJ
            refine zr_iinc C v176 3 [(3, .int v176), (0, .ref b), (1, .ref (G.1 + 0)), (2, .ref (G.1 + 105))] dL_law_1639 rfl (hv176.trans (zinc (by decide))) (by decide) rfl ?_
            refine zr_goto C 18 dL_law_1642 (by decide) ?_
            refine zr_sub [1, 2, 3, 0] [(0, .ref b), (1, .ref (G.1 + 0)), (2, .ref (G.1 + 105)), (3, .int v176)] rfl ?_
            exact ih18 _ _ hJ
          · have hJ := zif' hc175 hJ
            refine zr_iconst C dL_law_771 (v := (0 : Int32)) (by decide) ?_
            exact absurd (zs_e hJ) (by decide)
        have hJ := zif' hs166 hJ
        by_cases hs177 : v3 = (19 : Int32)
        · have hJ := zif hs177 hJ
          refine zr_tin C 773 dL_law_33 (by rw [hs177]; decide) (by rw [hs177]; decide) (by rw [hs177]; rfl) (by decide) ?_
          refine zr_aload_n C 1 dL_law_773 rfl ?_
          refine zr_aload_n C 0 dL_law_774 rfl ?_
          refine zr_iload_n C 3 dL_law_775 rfl ?_
          refine zr_iconst C dL_law_776 (v := (1 : Int32)) (by decide) ?_
          refine zr_iadd C dL_law_777 ?_
          obtain ⟨hg178, hJ⟩ := zg_e hJ
          refine zl_sld C hX hb hg178 dL_law_778 ?_
          refine zr_aload_n C 0 dL_law_779 rfl ?_
          refine zr_iload_n C 3 dL_law_780 rfl ?_
          refine zr_iconst C dL_law_781 (v := (2 : Int32)) (by decide) ?_
          refine zr_iadd C dL_law_782 ?_
          obtain ⟨hg179, hJ⟩ := zg_e hJ
          refine zl_sld C hX hb hg179 dL_law_783 ?_
          refine zr_aload_n C 0 dL_law_784 rfl ?_
          refine zr_iload_n C 3 dL_law_785 rfl ?_
          refine zr_iconst C dL_law_786 (v := (3 : Int32)) (by decide) ?_
          refine zr_iadd C dL_law_787 ?_
          obtain ⟨hg180, hJ⟩ := zg_e hJ
          refine zl_sld C hX hb hg180 dL_law_788 ?_
          refine zr_aload_n C 0 dL_law_789 rfl ?_
          refine zr_iload_n C 3 dL_law_790 rfl ?_
          refine zr_iconst C dL_law_791 (v := (4 : Int32)) (by decide) ?_
          refine zr_iadd C dL_law_792 ?_
          obtain ⟨hg181, hJ⟩ := zg_e hJ
          refine zl_sld C hX hb hg181 dL_law_793 ?_
          obtain ⟨r182, σ183, hr182, hJ⟩ := zb2_e hJ
          refine zr_callVI C 0 (zk_lt zk_0 (by decide)) (zen_obj zk_0) (rfl : zcl[10]? = some (RX10, TX10, 12)) (M_X10_sliced G l hr182) zin_X10_sliced zm_33_22 rfl rfl (Nat.le_of_ble_eq_true rfl) ⟨Nat.le_of_ble_eq_true rfl, Nat.le_of_ble_eq_true rfl⟩ ⟨Nat.le_of_ble_eq_true rfl, Nat.le_of_ble_eq_true rfl⟩ dL_law_794 ?_
          refine zr_aload_n C 2 dL_law_797 rfl ?_
          refine zr_aload_n C 0 dL_law_798 rfl ?_
          refine zr_iload_n C 3 dL_law_799 rfl ?_
          refine zr_iconst C dL_law_800 (v := (1 : Int32)) (by decide) ?_
          refine zr_iadd C dL_law_801 ?_
          obtain ⟨hg184, hJ⟩ := zg_e hJ
          refine zl_sld C hX hb hg184 dL_law_802 ?_
          refine zr_aload_n C 0 dL_law_803 rfl ?_
          refine zr_iload_n C 3 dL_law_804 rfl ?_
          refine zr_iconst C dL_law_805 (v := (2 : Int32)) (by decide) ?_
          refine zr_iadd C dL_law_806 ?_
          obtain ⟨hg185, hJ⟩ := zg_e hJ
          refine zl_sld C hX hb hg185 dL_law_807 ?_
          refine zr_aload_n C 0 dL_law_808 rfl ?_
          refine zr_iload_n C 3 dL_law_809 rfl ?_
          refine zr_iconst C dL_law_810 (v := (3 : Int32)) (by decide) ?_
          refine zr_iadd C dL_law_811 ?_
          obtain ⟨hg186, hJ⟩ := zg_e hJ
          refine zl_sld C hX hb hg186 dL_law_812 ?_
          refine zr_aload_n C 0 dL_law_813 rfl ?_
          refine zr_iload_n C 3 dL_law_814 rfl ?_
          refine zr_iconst C dL_law_815 (v := (4 : Int32)) (by decide) ?_
          refine zr_iadd C dL_law_816 ?_
          obtain ⟨hg187, hJ⟩ := zg_e hJ
          refine zl_sld C hX hb hg187 dL_law_817 ?_
          obtain ⟨r188, σ189, hr188, hJ⟩ := zb2_e hJ
          refine zr_callVI C 105 (zk_lt zk_105 (by decide)) (zen_obj zk_105) (rfl : zcl[11]? = some (RX11, TX11, 56)) (M_X11_sliced G l hr188) zin_X11_sliced zm_34_23 rfl rfl (Nat.le_of_ble_eq_true rfl) ⟨Nat.le_of_ble_eq_true rfl, Nat.le_of_ble_eq_true rfl⟩ ⟨Nat.le_of_ble_eq_true rfl, Nat.le_of_ble_eq_true rfl⟩ dL_law_818 ?_
          refine zr_icmp_eq C 1639 dL_law_821 (by decide) (fun hc190 => ?_) (fun hc190 => ?_)
          · have hJ := zif hc190 hJ
            obtain ⟨v191, hv191, hJ⟩ := zlet_e hJ
            refine zr_iinc C v191 3 [(3, .int v191), (0, .ref b), (1, .ref (G.1 + 0)), (2, .ref (G.1 + 105))] dL_law_1639 rfl (hv191.trans (zinc (by decide))) (by decide) rfl ?_
            refine zr_goto C 18 dL_law_1642 (by decide) ?_
            refine zr_sub [1, 2, 3, 0] [(0, .ref b), (1, .ref (G.1 + 0)), (2, .ref (G.1 + 105)), (3, .int v191)] rfl ?_
            exact ih18 _ _ hJ
          · have hJ := zif' hc190 hJ
            refine zr_iconst C dL_law_824 (v := (0 : Int32)) (by decide) ?_
            exact absurd (zs_e hJ) (by decide)
        have hJ := zif' hs177 hJ
        by_cases hs192 : v3 = (20 : Int32)
        · have hJ := zif hs192 hJ
          refine zr_tin C 826 dL_law_33 (by rw [hs192]; decide) (by rw [hs192]; decide) (by rw [hs192]; rfl) (by decide) ?_
          refine zr_aload_n C 1 dL_law_826 rfl ?_
          refine zr_aload_n C 0 dL_law_827 rfl ?_
          refine zr_iload_n C 3 dL_law_828 rfl ?_
          refine zr_iconst C dL_law_829 (v := (1 : Int32)) (by decide) ?_
          refine zr_iadd C dL_law_830 ?_
          obtain ⟨hg193, hJ⟩ := zg_e hJ
          refine zl_sld C hX hb hg193 dL_law_831 ?_
          refine zr_aload_n C 0 dL_law_832 rfl ?_
          refine zr_iload_n C 3 dL_law_833 rfl ?_
          refine zr_iconst C dL_law_834 (v := (2 : Int32)) (by decide) ?_
          refine zr_iadd C dL_law_835 ?_
          obtain ⟨hg194, hJ⟩ := zg_e hJ
          refine zl_sld C hX hb hg194 dL_law_836 ?_
          refine zr_aload_n C 0 dL_law_837 rfl ?_
          refine zr_iload_n C 3 dL_law_838 rfl ?_
          refine zr_iconst C dL_law_839 (v := (3 : Int32)) (by decide) ?_
          refine zr_iadd C dL_law_840 ?_
          obtain ⟨hg195, hJ⟩ := zg_e hJ
          refine zl_sld C hX hb hg195 dL_law_841 ?_
          refine zr_aload_n C 0 dL_law_842 rfl ?_
          refine zr_iload_n C 3 dL_law_843 rfl ?_
          refine zr_iconst C dL_law_844 (v := (4 : Int32)) (by decide) ?_
          refine zr_iadd C dL_law_845 ?_
          obtain ⟨hg196, hJ⟩ := zg_e hJ
          refine zl_sld C hX hb hg196 dL_law_846 ?_
          obtain ⟨r197, σ198, hr197, hJ⟩ := zb2_e hJ
          refine zr_callVL C 0 (zk_lt zk_0 (by decide)) (zen_obj zk_0) (rfl : zcl[10]? = some (RX10, TX10, 12)) (M_X10_scaled G l hr197) zin_X10_scaled zm_35_17 rfl rfl (Nat.le_of_ble_eq_true rfl) ⟨Nat.le_of_ble_eq_true rfl, Nat.le_of_ble_eq_true rfl⟩ ⟨Nat.le_of_ble_eq_true rfl, Nat.le_of_ble_eq_true rfl⟩ dL_law_847 ?_
          refine zr_aload_n C 2 dL_law_850 rfl ?_
          refine zr_aload_n C 0 dL_law_851 rfl ?_
          refine zr_iload_n C 3 dL_law_852 rfl ?_
          refine zr_iconst C dL_law_853 (v := (1 : Int32)) (by decide) ?_
          refine zr_iadd C dL_law_854 ?_
          obtain ⟨hg199, hJ⟩ := zg_e hJ
          refine zl_sld C hX hb hg199 dL_law_855 ?_
          refine zr_aload_n C 0 dL_law_856 rfl ?_
          refine zr_iload_n C 3 dL_law_857 rfl ?_
          refine zr_iconst C dL_law_858 (v := (2 : Int32)) (by decide) ?_
          refine zr_iadd C dL_law_859 ?_
          obtain ⟨hg200, hJ⟩ := zg_e hJ
          refine zl_sld C hX hb hg200 dL_law_860 ?_
          refine zr_aload_n C 0 dL_law_861 rfl ?_
          refine zr_iload_n C 3 dL_law_862 rfl ?_
          refine zr_iconst C dL_law_863 (v := (3 : Int32)) (by decide) ?_
          refine zr_iadd C dL_law_864 ?_
          obtain ⟨hg201, hJ⟩ := zg_e hJ
          refine zl_sld C hX hb hg201 dL_law_865 ?_
          refine zr_aload_n C 0 dL_law_866 rfl ?_
          refine zr_iload_n C 3 dL_law_867 rfl ?_
          refine zr_iconst C dL_law_868 (v := (4 : Int32)) (by decide) ?_
          refine zr_iadd C dL_law_869 ?_
          obtain ⟨hg202, hJ⟩ := zg_e hJ
          refine zl_sld C hX hb hg202 dL_law_870 ?_
          obtain ⟨r203, σ204, hr203, hJ⟩ := zb2_e hJ
          refine zr_callVL C 105 (zk_lt zk_105 (by decide)) (zen_obj zk_105) (rfl : zcl[11]? = some (RX11, TX11, 56)) (M_X11_scaled G l hr203) zin_X11_scaled zm_36_10 rfl rfl (Nat.le_of_ble_eq_true rfl) ⟨Nat.le_of_ble_eq_true rfl, Nat.le_of_ble_eq_true rfl⟩ ⟨Nat.le_of_ble_eq_true rfl, Nat.le_of_ble_eq_true rfl⟩ dL_law_871 ?_
          refine zr_lcmp C dL_law_874 ?_
          refine zr_if_eq C 1639 dL_law_875 (by decide) (fun hc205 => ?_) (fun hc205 => ?_)
          · have hJ := zif hc205 hJ
            obtain ⟨v206, hv206, hJ⟩ := zlet_e hJ
            refine zr_iinc C v206 3 [(3, .int v206), (0, .ref b), (1, .ref (G.1 + 0)), (2, .ref (G.1 + 105))] dL_law_1639 rfl (hv206.trans (zinc (by decide))) (by decide) rfl ?_
            refine zr_goto C 18 dL_law_1642 (by decide) ?_
            refine zr_sub [1, 2, 3, 0] [(0, .ref b), (1, .ref (G.1 + 0)), (2, .ref (G.1 + 105)), (3, .int v206)] rfl ?_
            exact ih18 _ _ hJ
          · have hJ := zif' hc205 hJ
            refine zr_iconst C dL_law_878 (v := (0 : Int32)) (by decide) ?_
            exact absurd (zs_e hJ) (by decide)
        have hJ := zif' hs192 hJ
        by_cases hs207 : v3 = (21 : Int32)
        · have hJ := zif hs207 hJ
          refine zr_tin C 880 dL_law_33 (by rw [hs207]; decide) (by rw [hs207]; decide) (by rw [hs207]; rfl) (by decide) ?_
          refine zr_aload_n C 1 dL_law_880 rfl ?_
          refine zr_aload_n C 0 dL_law_881 rfl ?_
          refine zr_iload_n C 3 dL_law_882 rfl ?_
          refine zr_iconst C dL_law_883 (v := (1 : Int32)) (by decide) ?_
          refine zr_iadd C dL_law_884 ?_
          obtain ⟨hg208, hJ⟩ := zg_e hJ
          refine zl_sld C hX hb hg208 dL_law_885 ?_
          refine zr_aload_n C 0 dL_law_886 rfl ?_
          refine zr_iload_n C 3 dL_law_887 rfl ?_
          refine zr_iconst C dL_law_888 (v := (2 : Int32)) (by decide) ?_
          refine zr_iadd C dL_law_889 ?_
          obtain ⟨hg209, hJ⟩ := zg_e hJ
          refine zl_sld C hX hb hg209 dL_law_890 ?_
          refine zr_aload_n C 0 dL_law_891 rfl ?_
          refine zr_iload_n C 3 dL_law_892 rfl ?_
          refine zr_iconst C dL_law_893 (v := (3 : Int32)) (by decide) ?_
          refine zr_iadd C dL_law_894 ?_
          obtain ⟨hg210, hJ⟩ := zg_e hJ
          refine zl_sld C hX hb hg210 dL_law_895 ?_
          refine zr_aload_n C 0 dL_law_896 rfl ?_
          refine zr_iload_n C 3 dL_law_897 rfl ?_
          refine zr_iconst C dL_law_898 (v := (4 : Int32)) (by decide) ?_
          refine zr_iadd C dL_law_899 ?_
          obtain ⟨hg211, hJ⟩ := zg_e hJ
          refine zl_sld C hX hb hg211 dL_law_900 ?_
          obtain ⟨r212, σ213, hr212, hJ⟩ := zb2_e hJ
          refine zr_callVI C 0 (zk_lt zk_0 (by decide)) (zen_obj zk_0) (rfl : zcl[10]? = some (RX10, TX10, 12)) (M_X10_finest G l hr212) zin_X10_finest zm_36_17 rfl rfl (Nat.le_of_ble_eq_true rfl) ⟨Nat.le_of_ble_eq_true rfl, Nat.le_of_ble_eq_true rfl⟩ ⟨Nat.le_of_ble_eq_true rfl, Nat.le_of_ble_eq_true rfl⟩ dL_law_901 ?_
          refine zr_aload_n C 2 dL_law_904 rfl ?_
          refine zr_aload_n C 0 dL_law_905 rfl ?_
          refine zr_iload_n C 3 dL_law_906 rfl ?_
          refine zr_iconst C dL_law_907 (v := (1 : Int32)) (by decide) ?_
          refine zr_iadd C dL_law_908 ?_
          obtain ⟨hg214, hJ⟩ := zg_e hJ
          refine zl_sld C hX hb hg214 dL_law_909 ?_
          refine zr_aload_n C 0 dL_law_910 rfl ?_
          refine zr_iload_n C 3 dL_law_911 rfl ?_
          refine zr_iconst C dL_law_912 (v := (2 : Int32)) (by decide) ?_
          refine zr_iadd C dL_law_913 ?_
          obtain ⟨hg215, hJ⟩ := zg_e hJ
          refine zl_sld C hX hb hg215 dL_law_914 ?_
          refine zr_aload_n C 0 dL_law_915 rfl ?_
          refine zr_iload_n C 3 dL_law_916 rfl ?_
          refine zr_iconst C dL_law_917 (v := (3 : Int32)) (by decide) ?_
          refine zr_iadd C dL_law_918 ?_
          obtain ⟨hg216, hJ⟩ := zg_e hJ
          refine zl_sld C hX hb hg216 dL_law_919 ?_
          refine zr_aload_n C 0 dL_law_920 rfl ?_
          refine zr_iload_n C 3 dL_law_921 rfl ?_
          refine zr_iconst C dL_law_922 (v := (4 : Int32)) (by decide) ?_
          refine zr_iadd C dL_law_923 ?_
          obtain ⟨hg217, hJ⟩ := zg_e hJ
          refine zl_sld C hX hb hg217 dL_law_924 ?_
          obtain ⟨r218, σ219, hr218, hJ⟩ := zb2_e hJ
          refine zr_callVI C 105 (zk_lt zk_105 (by decide)) (zen_obj zk_105) (rfl : zcl[11]? = some (RX11, TX11, 56)) (M_X11_finest G l hr218) zin_X11_finest zm_37_4 rfl rfl (Nat.le_of_ble_eq_true rfl) ⟨Nat.le_of_ble_eq_true rfl, Nat.le_of_ble_eq_true rfl⟩ ⟨Nat.le_of_ble_eq_true rfl, Nat.le_of_ble_eq_true rfl⟩ dL_law_925 ?_
          refine zr_icmp_eq C 1639 dL_law_928 (by decide) (fun hc220 => ?_) (fun hc220 => ?_)
          · have hJ := zif hc220 hJ
            obtain ⟨v221, hv221, hJ⟩ := zlet_e hJ
            refine zr_iinc C v221 3 [(3, .int v221), (0, .ref b), (1, .ref (G.1 + 0)), (2, .ref (G.1 + 105))] dL_law_1639 rfl (hv221.trans (zinc (by decide))) (by decide) rfl ?_
            refine zr_goto C 18 dL_law_1642 (by decide) ?_
            refine zr_sub [1, 2, 3, 0] [(0, .ref b), (1, .ref (G.1 + 0)), (2, .ref (G.1 + 105)), (3, .int v221)] rfl ?_
            exact ih18 _ _ hJ
          · have hJ := zif' hc220 hJ
            refine zr_iconst C dL_law_931 (v := (0 : Int32)) (by decide) ?_
            exact absurd (zs_e hJ) (by decide)
        have hJ := zif' hs207 hJ
        by_cases hs222 : v3 = (22 : Int32)
        · have hJ := zif hs222 hJ
          refine zr_tin C 933 dL_law_33 (by rw [hs222]; decide) (by rw [hs222]; decide) (by rw [hs222]; rfl) (by decide) ?_
          refine zr_aload_n C 1 dL_law_933 rfl ?_
          refine zr_aload_n C 0 dL_law_934 rfl ?_
          refine zr_iload_n C 3 dL_law_935 rfl ?_
          refine zr_iconst C dL_law_936 (v := (1 : Int32)) (by decide) ?_
          refine zr_iadd C dL_law_937 ?_
          obtain ⟨hg223, hJ⟩ := zg_e hJ
          refine zl_sld C hX hb hg223 dL_law_938 ?_
          refine zr_aload_n C 0 dL_law_939 rfl ?_
          refine zr_iload_n C 3 dL_law_940 rfl ?_
          refine zr_iconst C dL_law_941 (v := (2 : Int32)) (by decide) ?_
          refine zr_iadd C dL_law_942 ?_
          obtain ⟨hg224, hJ⟩ := zg_e hJ
          refine zl_sld C hX hb hg224 dL_law_943 ?_
          refine zr_aload_n C 0 dL_law_944 rfl ?_
          refine zr_iload_n C 3 dL_law_945 rfl ?_
          refine zr_iconst C dL_law_946 (v := (3 : Int32)) (by decide) ?_
          refine zr_iadd C dL_law_947 ?_
          obtain ⟨hg225, hJ⟩ := zg_e hJ
          refine zl_sld C hX hb hg225 dL_law_948 ?_
          refine zr_aload_n C 0 dL_law_949 rfl ?_
          refine zr_iload_n C 3 dL_law_950 rfl ?_
          refine zr_iconst C dL_law_951 (v := (4 : Int32)) (by decide) ?_
          refine zr_iadd C dL_law_952 ?_
          obtain ⟨hg226, hJ⟩ := zg_e hJ
          refine zl_sld C hX hb hg226 dL_law_953 ?_
          refine zr_aload_n C 0 dL_law_954 rfl ?_
          refine zr_iload_n C 3 dL_law_955 rfl ?_
          refine zr_iconst C dL_law_956 (v := (5 : Int32)) (by decide) ?_
          refine zr_iadd C dL_law_957 ?_
          obtain ⟨hg227, hJ⟩ := zg_e hJ
          refine zl_sld C hX hb hg227 dL_law_958 ?_
          obtain ⟨r228, σ229, hr228, hJ⟩ := zb2_e hJ
          refine zr_callVI C 0 (zk_lt zk_0 (by decide)) (zen_obj zk_0) (rfl : zcl[10]? = some (RX10, TX10, 12)) (M_X10_shows G l hr228) zin_X10_shows zm_37_8 rfl rfl (Nat.le_of_ble_eq_true rfl) ⟨Nat.le_of_ble_eq_true rfl, Nat.le_of_ble_eq_true rfl⟩ ⟨Nat.le_of_ble_eq_true rfl, Nat.le_of_ble_eq_true rfl⟩ dL_law_959 ?_
          refine zr_aload_n C 2 dL_law_962 rfl ?_
          refine zr_aload_n C 0 dL_law_963 rfl ?_
          refine zr_iload_n C 3 dL_law_964 rfl ?_
          refine zr_iconst C dL_law_965 (v := (1 : Int32)) (by decide) ?_
          refine zr_iadd C dL_law_966 ?_
          obtain ⟨hg230, hJ⟩ := zg_e hJ
          refine zl_sld C hX hb hg230 dL_law_967 ?_
          refine zr_aload_n C 0 dL_law_968 rfl ?_
          refine zr_iload_n C 3 dL_law_969 rfl ?_
          refine zr_iconst C dL_law_970 (v := (2 : Int32)) (by decide) ?_
          refine zr_iadd C dL_law_971 ?_
          obtain ⟨hg231, hJ⟩ := zg_e hJ
          refine zl_sld C hX hb hg231 dL_law_972 ?_
          refine zr_aload_n C 0 dL_law_973 rfl ?_
          refine zr_iload_n C 3 dL_law_974 rfl ?_
          refine zr_iconst C dL_law_975 (v := (3 : Int32)) (by decide) ?_
          refine zr_iadd C dL_law_976 ?_
          obtain ⟨hg232, hJ⟩ := zg_e hJ
          refine zl_sld C hX hb hg232 dL_law_977 ?_
          refine zr_aload_n C 0 dL_law_978 rfl ?_
          refine zr_iload_n C 3 dL_law_979 rfl ?_
          refine zr_iconst C dL_law_980 (v := (4 : Int32)) (by decide) ?_
          refine zr_iadd C dL_law_981 ?_
          obtain ⟨hg233, hJ⟩ := zg_e hJ
          refine zl_sld C hX hb hg233 dL_law_982 ?_
          refine zr_aload_n C 0 dL_law_983 rfl ?_
          refine zr_iload_n C 3 dL_law_984 rfl ?_
          refine zr_iconst C dL_law_985 (v := (5 : Int32)) (by decide) ?_
          refine zr_iadd C dL_law_986 ?_
          obtain ⟨hg234, hJ⟩ := zg_e hJ
          refine zl_sld C hX hb hg234 dL_law_987 ?_
          obtain ⟨r235, σ236, hr235, hJ⟩ := zb2_e hJ
          refine zr_callVI C 105 (zk_lt zk_105 (by decide)) (zen_obj zk_105) (rfl : zcl[11]? = some (RX11, TX11, 56)) (M_X11_shows G l hr235) zin_X11_shows zm_38_3 rfl rfl (Nat.le_of_ble_eq_true rfl) ⟨Nat.le_of_ble_eq_true rfl, Nat.le_of_ble_eq_true rfl⟩ ⟨Nat.le_of_ble_eq_true rfl, Nat.le_of_ble_eq_true rfl⟩ dL_law_988 ?_
          refine zr_icmp_eq C 1639 dL_law_991 (by decide) (fun hc237 => ?_) (fun hc237 => ?_)
          · have hJ := zif hc237 hJ
            obtain ⟨v238, hv238, hJ⟩ := zlet_e hJ
            refine zr_iinc C v238 3 [(3, .int v238), (0, .ref b), (1, .ref (G.1 + 0)), (2, .ref (G.1 + 105))] dL_law_1639 rfl (hv238.trans (zinc (by decide))) (by decide) rfl ?_
            refine zr_goto C 18 dL_law_1642 (by decide) ?_
            refine zr_sub [1, 2, 3, 0] [(0, .ref b), (1, .ref (G.1 + 0)), (2, .ref (G.1 + 105)), (3, .int v238)] rfl ?_
            exact ih18 _ _ hJ
          · have hJ := zif' hc237 hJ
            refine zr_iconst C dL_law_994 (v := (0 : Int32)) (by decide) ?_
            exact absurd (zs_e hJ) (by decide)
        have hJ := zif' hs222 hJ
        by_cases hs239 : v3 = (23 : Int32)
        · have hJ := zif hs239 hJ
          refine zr_tin C 996 dL_law_33 (by rw [hs239]; decide) (by rw [hs239]; decide) (by rw [hs239]; rfl) (by decide) ?_
          refine zr_aload_n C 1 dL_law_996 rfl ?_
          refine zr_aload_n C 0 dL_law_997 rfl ?_
          refine zr_iload_n C 3 dL_law_998 rfl ?_
          refine zr_iconst C dL_law_999 (v := (1 : Int32)) (by decide) ?_
          refine zr_iadd C dL_law_1000 ?_
          obtain ⟨hg240, hJ⟩ := zg_e hJ
          refine zl_sld C hX hb hg240 dL_law_1001 ?_
          refine zr_aload_n C 0 dL_law_1002 rfl ?_
          refine zr_iload_n C 3 dL_law_1003 rfl ?_
          refine zr_iconst C dL_law_1004 (v := (2 : Int32)) (by decide) ?_
          refine zr_iadd C dL_law_1005 ?_
          obtain ⟨hg241, hJ⟩ := zg_e hJ
          refine zl_sld C hX hb hg241 dL_law_1006 ?_
          refine zr_aload_n C 0 dL_law_1007 rfl ?_
          refine zr_iload_n C 3 dL_law_1008 rfl ?_
          refine zr_iconst C dL_law_1009 (v := (3 : Int32)) (by decide) ?_
          refine zr_iadd C dL_law_1010 ?_
          obtain ⟨hg242, hJ⟩ := zg_e hJ
          refine zl_sld C hX hb hg242 dL_law_1011 ?_
          refine zr_aload_n C 0 dL_law_1012 rfl ?_
          refine zr_iload_n C 3 dL_law_1013 rfl ?_
          refine zr_iconst C dL_law_1014 (v := (4 : Int32)) (by decide) ?_
          refine zr_iadd C dL_law_1015 ?_
          obtain ⟨hg243, hJ⟩ := zg_e hJ
          refine zl_sld C hX hb hg243 dL_law_1016 ?_
          refine zr_aload_n C 0 dL_law_1017 rfl ?_
          refine zr_iload_n C 3 dL_law_1018 rfl ?_
          refine zr_iconst C dL_law_1019 (v := (5 : Int32)) (by decide) ?_
          refine zr_iadd C dL_law_1020 ?_
          obtain ⟨hg244, hJ⟩ := zg_e hJ
          refine zl_sld C hX hb hg244 dL_law_1021 ?_
          obtain ⟨r245, σ246, hr245, hJ⟩ := zb2_e hJ
          refine zr_callVI C 0 (zk_lt zk_0 (by decide)) (zen_obj zk_0) (rfl : zcl[10]? = some (RX10, TX10, 12)) (M_X10_samples G l hr245) zin_X10_samples zm_38_18 rfl rfl (Nat.le_of_ble_eq_true rfl) ⟨Nat.le_of_ble_eq_true rfl, Nat.le_of_ble_eq_true rfl⟩ ⟨Nat.le_of_ble_eq_true rfl, Nat.le_of_ble_eq_true rfl⟩ dL_law_1022 ?_
          refine zr_aload_n C 2 dL_law_1025 rfl ?_
          refine zr_aload_n C 0 dL_law_1026 rfl ?_
          refine zr_iload_n C 3 dL_law_1027 rfl ?_
          refine zr_iconst C dL_law_1028 (v := (1 : Int32)) (by decide) ?_
          refine zr_iadd C dL_law_1029 ?_
          obtain ⟨hg247, hJ⟩ := zg_e hJ
          refine zl_sld C hX hb hg247 dL_law_1030 ?_
          refine zr_aload_n C 0 dL_law_1031 rfl ?_
          refine zr_iload_n C 3 dL_law_1032 rfl ?_
          refine zr_iconst C dL_law_1033 (v := (2 : Int32)) (by decide) ?_
          refine zr_iadd C dL_law_1034 ?_
          obtain ⟨hg248, hJ⟩ := zg_e hJ
          refine zl_sld C hX hb hg248 dL_law_1035 ?_
          refine zr_aload_n C 0 dL_law_1036 rfl ?_
          refine zr_iload_n C 3 dL_law_1037 rfl ?_
          refine zr_iconst C dL_law_1038 (v := (3 : Int32)) (by decide) ?_
          refine zr_iadd C dL_law_1039 ?_
          obtain ⟨hg249, hJ⟩ := zg_e hJ
          refine zl_sld C hX hb hg249 dL_law_1040 ?_
          refine zr_aload_n C 0 dL_law_1041 rfl ?_
          refine zr_iload_n C 3 dL_law_1042 rfl ?_
          refine zr_iconst C dL_law_1043 (v := (4 : Int32)) (by decide) ?_
          refine zr_iadd C dL_law_1044 ?_
          obtain ⟨hg250, hJ⟩ := zg_e hJ
          refine zl_sld C hX hb hg250 dL_law_1045 ?_
          refine zr_aload_n C 0 dL_law_1046 rfl ?_
          refine zr_iload_n C 3 dL_law_1047 rfl ?_
          refine zr_iconst C dL_law_1048 (v := (5 : Int32)) (by decide) ?_
          refine zr_iadd C dL_law_1049 ?_
          obtain ⟨hg251, hJ⟩ := zg_e hJ
          refine zl_sld C hX hb hg251 dL_law_1050 ?_
          obtain ⟨r252, σ253, hr252, hJ⟩ := zb2_e hJ
          refine zr_callVI C 105 (zk_lt zk_105 (by decide)) (zen_obj zk_105) (rfl : zcl[11]? = some (RX11, TX11, 56)) (M_X11_samples G l hr252) zin_X11_samples zm_39_12 rfl rfl (Nat.le_of_ble_eq_true rfl) ⟨Nat.le_of_ble_eq_true rfl, Nat.le_of_ble_eq_true rfl⟩ ⟨Nat.le_of_ble_eq_true rfl, Nat.le_of_ble_eq_true rfl⟩ dL_law_1051 ?_
          refine zr_icmp_eq C 1639 dL_law_1054 (by decide) (fun hc254 => ?_) (fun hc254 => ?_)
          · have hJ := zif hc254 hJ
            obtain ⟨v255, hv255, hJ⟩ := zlet_e hJ
            refine zr_iinc C v255 3 [(3, .int v255), (0, .ref b), (1, .ref (G.1 + 0)), (2, .ref (G.1 + 105))] dL_law_1639 rfl (hv255.trans (zinc (by decide))) (by decide) rfl ?_
            refine zr_goto C 18 dL_law_1642 (by decide) ?_
            refine zr_sub [1, 2, 3, 0] [(0, .ref b), (1, .ref (G.1 + 0)), (2, .ref (G.1 + 105)), (3, .int v255)] rfl ?_
            exact ih18 _ _ hJ
          · have hJ := zif' hc254 hJ
            refine zr_iconst C dL_law_1057 (v := (0 : Int32)) (by decide) ?_
            exact absurd (zs_e hJ) (by decide)
        have hJ := zif' hs239 hJ
        by_cases hs256 : v3 = (24 : Int32)
        · have hJ := zif hs256 hJ
          refine zr_tin C 1059 dL_law_33 (by rw [hs256]; decide) (by rw [hs256]; decide) (by rw [hs256]; rfl) (by decide) ?_
          refine zr_aload_n C 1 dL_law_1059 rfl ?_
          refine zr_aload_n C 0 dL_law_1060 rfl ?_
          refine zr_iload_n C 3 dL_law_1061 rfl ?_
          refine zr_iconst C dL_law_1062 (v := (1 : Int32)) (by decide) ?_
          refine zr_iadd C dL_law_1063 ?_
          obtain ⟨hg257, hJ⟩ := zg_e hJ
          refine zl_sld C hX hb hg257 dL_law_1064 ?_
          refine zr_aload_n C 0 dL_law_1065 rfl ?_
          refine zr_iload_n C 3 dL_law_1066 rfl ?_
          refine zr_iconst C dL_law_1067 (v := (2 : Int32)) (by decide) ?_
          refine zr_iadd C dL_law_1068 ?_
          obtain ⟨hg258, hJ⟩ := zg_e hJ
          refine zl_sld C hX hb hg258 dL_law_1069 ?_
          refine zr_aload_n C 0 dL_law_1070 rfl ?_
          refine zr_iload_n C 3 dL_law_1071 rfl ?_
          refine zr_iconst C dL_law_1072 (v := (3 : Int32)) (by decide) ?_
          refine zr_iadd C dL_law_1073 ?_
          obtain ⟨hg259, hJ⟩ := zg_e hJ
          refine zl_sld C hX hb hg259 dL_law_1074 ?_
          refine zr_aload_n C 0 dL_law_1075 rfl ?_
          refine zr_iload_n C 3 dL_law_1076 rfl ?_
          refine zr_iconst C dL_law_1077 (v := (4 : Int32)) (by decide) ?_
          refine zr_iadd C dL_law_1078 ?_
          obtain ⟨hg260, hJ⟩ := zg_e hJ
          refine zl_sld C hX hb hg260 dL_law_1079 ?_
          refine zr_aload_n C 0 dL_law_1080 rfl ?_
          refine zr_iload_n C 3 dL_law_1081 rfl ?_
          refine zr_iconst C dL_law_1082 (v := (5 : Int32)) (by decide) ?_
          refine zr_iadd C dL_law_1083 ?_
          obtain ⟨hg261, hJ⟩ := zg_e hJ
          refine zl_sld C hX hb hg261 dL_law_1084 ?_
          obtain ⟨r262, σ263, hr262, hJ⟩ := zb2_e hJ
          refine zr_callVL C 0 (zk_lt zk_0 (by decide)) (zen_obj zk_0) (rfl : zcl[10]? = some (RX10, TX10, 12)) (M_X10_far G l hr262) zin_X10_far zm_39_17 rfl rfl (Nat.le_of_ble_eq_true rfl) ⟨Nat.le_of_ble_eq_true rfl, Nat.le_of_ble_eq_true rfl⟩ ⟨Nat.le_of_ble_eq_true rfl, Nat.le_of_ble_eq_true rfl⟩ dL_law_1085 ?_
          refine zr_aload_n C 2 dL_law_1088 rfl ?_
          refine zr_aload_n C 0 dL_law_1089 rfl ?_
          refine zr_iload_n C 3 dL_law_1090 rfl ?_
          refine zr_iconst C dL_law_1091 (v := (1 : Int32)) (by decide) ?_
          refine zr_iadd C dL_law_1092 ?_
          obtain ⟨hg264, hJ⟩ := zg_e hJ
          refine zl_sld C hX hb hg264 dL_law_1093 ?_
          refine zr_aload_n C 0 dL_law_1094 rfl ?_
          refine zr_iload_n C 3 dL_law_1095 rfl ?_
          refine zr_iconst C dL_law_1096 (v := (2 : Int32)) (by decide) ?_
          refine zr_iadd C dL_law_1097 ?_
          obtain ⟨hg265, hJ⟩ := zg_e hJ
          refine zl_sld C hX hb hg265 dL_law_1098 ?_
          refine zr_aload_n C 0 dL_law_1099 rfl ?_
          refine zr_iload_n C 3 dL_law_1100 rfl ?_
          refine zr_iconst C dL_law_1101 (v := (3 : Int32)) (by decide) ?_
          refine zr_iadd C dL_law_1102 ?_
          obtain ⟨hg266, hJ⟩ := zg_e hJ
          refine zl_sld C hX hb hg266 dL_law_1103 ?_
          refine zr_aload_n C 0 dL_law_1104 rfl ?_
          refine zr_iload_n C 3 dL_law_1105 rfl ?_
          refine zr_iconst C dL_law_1106 (v := (4 : Int32)) (by decide) ?_
          refine zr_iadd C dL_law_1107 ?_
          obtain ⟨hg267, hJ⟩ := zg_e hJ
          refine zl_sld C hX hb hg267 dL_law_1108 ?_
          refine zr_aload_n C 0 dL_law_1109 rfl ?_
          refine zr_iload_n C 3 dL_law_1110 rfl ?_
          refine zr_iconst C dL_law_1111 (v := (5 : Int32)) (by decide) ?_
          refine zr_iadd C dL_law_1112 ?_
          obtain ⟨hg268, hJ⟩ := zg_e hJ
          refine zl_sld C hX hb hg268 dL_law_1113 ?_
          obtain ⟨r269, σ270, hr269, hJ⟩ := zb2_e hJ
          refine zr_callVL C 105 (zk_lt zk_105 (by decide)) (zen_obj zk_105) (rfl : zcl[11]? = some (RX11, TX11, 56)) (M_X11_far G l hr269) zin_X11_far zm_40_6 rfl rfl (Nat.le_of_ble_eq_true rfl) ⟨Nat.le_of_ble_eq_true rfl, Nat.le_of_ble_eq_true rfl⟩ ⟨Nat.le_of_ble_eq_true rfl, Nat.le_of_ble_eq_true rfl⟩ dL_law_1114 ?_
          refine zr_lcmp C dL_law_1117 ?_
          refine zr_if_eq C 1639 dL_law_1118 (by decide) (fun hc271 => ?_) (fun hc271 => ?_)
          · have hJ := zif hc271 hJ
            obtain ⟨v272, hv272, hJ⟩ := zlet_e hJ
            refine zr_iinc C v272 3 [(3, .int v272), (0, .ref b), (1, .ref (G.1 + 0)), (2, .ref (G.1 + 105))] dL_law_1639 rfl (hv272.trans (zinc (by decide))) (by decide) rfl ?_
            refine zr_goto C 18 dL_law_1642 (by decide) ?_
            refine zr_sub [1, 2, 3, 0] [(0, .ref b), (1, .ref (G.1 + 0)), (2, .ref (G.1 + 105)), (3, .int v272)] rfl ?_
            exact ih18 _ _ hJ
          · have hJ := zif' hc271 hJ
            refine zr_iconst C dL_law_1121 (v := (0 : Int32)) (by decide) ?_
            exact absurd (zs_e hJ) (by decide)
        have hJ := zif' hs256 hJ
        by_cases hs273 : v3 = (25 : Int32)
        · have hJ := zif hs273 hJ
          refine zr_tin C 1123 dL_law_33 (by rw [hs273]; decide) (by rw [hs273]; decide) (by rw [hs273]; rfl) (by decide) ?_
          refine zr_aload_n C 1 dL_law_1123 rfl ?_
          refine zr_aload_n C 0 dL_law_1124 rfl ?_
          refine zr_iload_n C 3 dL_law_1125 rfl ?_
          refine zr_iconst C dL_law_1126 (v := (1 : Int32)) (by decide) ?_
          refine zr_iadd C dL_law_1127 ?_
          obtain ⟨hg274, hJ⟩ := zg_e hJ
          refine zl_sld C hX hb hg274 dL_law_1128 ?_
          refine zr_aload_n C 0 dL_law_1129 rfl ?_
          refine zr_iload_n C 3 dL_law_1130 rfl ?_
          refine zr_iconst C dL_law_1131 (v := (2 : Int32)) (by decide) ?_
          refine zr_iadd C dL_law_1132 ?_
          obtain ⟨hg275, hJ⟩ := zg_e hJ
          refine zl_sld C hX hb hg275 dL_law_1133 ?_
          refine zr_aload_n C 0 dL_law_1134 rfl ?_
          refine zr_iload_n C 3 dL_law_1135 rfl ?_
          refine zr_iconst C dL_law_1136 (v := (3 : Int32)) (by decide) ?_
          refine zr_iadd C dL_law_1137 ?_
          obtain ⟨hg276, hJ⟩ := zg_e hJ
          refine zl_sld C hX hb hg276 dL_law_1138 ?_
          refine zr_aload_n C 0 dL_law_1139 rfl ?_
          refine zr_iload_n C 3 dL_law_1140 rfl ?_
          refine zr_iconst C dL_law_1141 (v := (4 : Int32)) (by decide) ?_
          refine zr_iadd C dL_law_1142 ?_
          obtain ⟨hg277, hJ⟩ := zg_e hJ
          refine zl_sld C hX hb hg277 dL_law_1143 ?_
          obtain ⟨r278, σ279, hr278, hJ⟩ := zb2_e hJ
          refine zr_callVI C 0 (zk_lt zk_0 (by decide)) (zen_obj zk_0) (rfl : zcl[10]? = some (RX10, TX10, 12)) (M_X10_truest G l hr278) zin_X10_truest zm_40_16 rfl rfl (Nat.le_of_ble_eq_true rfl) ⟨Nat.le_of_ble_eq_true rfl, Nat.le_of_ble_eq_true rfl⟩ ⟨Nat.le_of_ble_eq_true rfl, Nat.le_of_ble_eq_true rfl⟩ dL_law_1144 ?_
          refine zr_aload_n C 2 dL_law_1147 rfl ?_
          refine zr_aload_n C 0 dL_law_1148 rfl ?_
          refine zr_iload_n C 3 dL_law_1149 rfl ?_
          refine zr_iconst C dL_law_1150 (v := (1 : Int32)) (by decide) ?_
          refine zr_iadd C dL_law_1151 ?_
          obtain ⟨hg280, hJ⟩ := zg_e hJ
          refine zl_sld C hX hb hg280 dL_law_1152 ?_
          refine zr_aload_n C 0 dL_law_1153 rfl ?_
          refine zr_iload_n C 3 dL_law_1154 rfl ?_
          refine zr_iconst C dL_law_1155 (v := (2 : Int32)) (by decide) ?_
          refine zr_iadd C dL_law_1156 ?_
          obtain ⟨hg281, hJ⟩ := zg_e hJ
          refine zl_sld C hX hb hg281 dL_law_1157 ?_
          refine zr_aload_n C 0 dL_law_1158 rfl ?_
          refine zr_iload_n C 3 dL_law_1159 rfl ?_
          refine zr_iconst C dL_law_1160 (v := (3 : Int32)) (by decide) ?_
          refine zr_iadd C dL_law_1161 ?_
          obtain ⟨hg282, hJ⟩ := zg_e hJ
          refine zl_sld C hX hb hg282 dL_law_1162 ?_
          refine zr_aload_n C 0 dL_law_1163 rfl ?_
          refine zr_iload_n C 3 dL_law_1164 rfl ?_
          refine zr_iconst C dL_law_1165 (v := (4 : Int32)) (by decide) ?_
          refine zr_iadd C dL_law_1166 ?_
          obtain ⟨hg283, hJ⟩ := zg_e hJ
          refine zl_sld C hX hb hg283 dL_law_1167 ?_
          obtain ⟨r284, σ285, hr284, hJ⟩ := zb2_e hJ
          refine zr_callVI C 105 (zk_lt zk_105 (by decide)) (zen_obj zk_105) (rfl : zcl[11]? = some (RX11, TX11, 56)) (M_X11_truest G l hr284) zin_X11_truest zm_40_20 rfl rfl (Nat.le_of_ble_eq_true rfl) ⟨Nat.le_of_ble_eq_true rfl, Nat.le_of_ble_eq_true rfl⟩ ⟨Nat.le_of_ble_eq_true rfl, Nat.le_of_ble_eq_true rfl⟩ dL_law_1168 ?_
          refine zr_icmp_eq C 1639 dL_law_1171 (by decide) (fun hc286 => ?_) (fun hc286 => ?_)
          · have hJ := zif hc286 hJ
            obtain ⟨v287, hv287, hJ⟩ := zlet_e hJ
            refine zr_iinc C v287 3 [(3, .int v287), (0, .ref b), (1, .ref (G.1 + 0)), (2, .ref (G.1 + 105))] dL_law_1639 rfl (hv287.trans (zinc (by decide))) (by decide) rfl ?_
            refine zr_goto C 18 dL_law_1642 (by decide) ?_
            refine zr_sub [1, 2, 3, 0] [(0, .ref b), (1, .ref (G.1 + 0)), (2, .ref (G.1 + 105)), (3, .int v287)] rfl ?_
            exact ih18 _ _ hJ
          · have hJ := zif' hc286 hJ
            refine zr_iconst C dL_law_1174 (v := (0 : Int32)) (by decide) ?_
            exact absurd (zs_e hJ) (by decide)
        have hJ := zif' hs273 hJ
        by_cases hs288 : v3 = (26 : Int32)
        · have hJ := zif hs288 hJ
          refine zr_tin C 1176 dL_law_33 (by rw [hs288]; decide) (by rw [hs288]; decide) (by rw [hs288]; rfl) (by decide) ?_
          refine zr_aload_n C 1 dL_law_1176 rfl ?_
          refine zr_aload_n C 0 dL_law_1177 rfl ?_
          refine zr_iload_n C 3 dL_law_1178 rfl ?_
          refine zr_iconst C dL_law_1179 (v := (1 : Int32)) (by decide) ?_
          refine zr_iadd C dL_law_1180 ?_
          obtain ⟨hg289, hJ⟩ := zg_e hJ
          refine zl_sld C hX hb hg289 dL_law_1181 ?_
          refine zr_aload_n C 0 dL_law_1182 rfl ?_
          refine zr_iload_n C 3 dL_law_1183 rfl ?_
          refine zr_iconst C dL_law_1184 (v := (2 : Int32)) (by decide) ?_
          refine zr_iadd C dL_law_1185 ?_
          obtain ⟨hg290, hJ⟩ := zg_e hJ
          refine zl_sld C hX hb hg290 dL_law_1186 ?_
          refine zr_aload_n C 0 dL_law_1187 rfl ?_
          refine zr_iload_n C 3 dL_law_1188 rfl ?_
          refine zr_iconst C dL_law_1189 (v := (3 : Int32)) (by decide) ?_
          refine zr_iadd C dL_law_1190 ?_
          obtain ⟨hg291, hJ⟩ := zg_e hJ
          refine zl_sld C hX hb hg291 dL_law_1191 ?_
          refine zr_aload_n C 0 dL_law_1192 rfl ?_
          refine zr_iload_n C 3 dL_law_1193 rfl ?_
          refine zr_iconst C dL_law_1194 (v := (4 : Int32)) (by decide) ?_
          refine zr_iadd C dL_law_1195 ?_
          obtain ⟨hg292, hJ⟩ := zg_e hJ
          refine zl_sld C hX hb hg292 dL_law_1196 ?_
          obtain ⟨r293, σ294, hr293, hJ⟩ := zb2_e hJ
          refine zr_callVI C 0 (zk_lt zk_0 (by decide)) (zen_obj zk_0) (rfl : zcl[10]? = some (RX10, TX10, 12)) (M_X10_beats G l hr293) zin_X10_beats zm_41_0 rfl rfl (Nat.le_of_ble_eq_true rfl) ⟨Nat.le_of_ble_eq_true rfl, Nat.le_of_ble_eq_true rfl⟩ ⟨Nat.le_of_ble_eq_true rfl, Nat.le_of_ble_eq_true rfl⟩ dL_law_1197 ?_
          refine zr_aload_n C 2 dL_law_1200 rfl ?_
          refine zr_aload_n C 0 dL_law_1201 rfl ?_
          refine zr_iload_n C 3 dL_law_1202 rfl ?_
          refine zr_iconst C dL_law_1203 (v := (1 : Int32)) (by decide) ?_
          refine zr_iadd C dL_law_1204 ?_
          obtain ⟨hg295, hJ⟩ := zg_e hJ
          refine zl_sld C hX hb hg295 dL_law_1205 ?_
          refine zr_aload_n C 0 dL_law_1206 rfl ?_
          refine zr_iload_n C 3 dL_law_1207 rfl ?_
          refine zr_iconst C dL_law_1208 (v := (2 : Int32)) (by decide) ?_
          refine zr_iadd C dL_law_1209 ?_
          obtain ⟨hg296, hJ⟩ := zg_e hJ
          refine zl_sld C hX hb hg296 dL_law_1210 ?_
          refine zr_aload_n C 0 dL_law_1211 rfl ?_
          refine zr_iload_n C 3 dL_law_1212 rfl ?_
          refine zr_iconst C dL_law_1213 (v := (3 : Int32)) (by decide) ?_
          refine zr_iadd C dL_law_1214 ?_
          obtain ⟨hg297, hJ⟩ := zg_e hJ
          refine zl_sld C hX hb hg297 dL_law_1215 ?_
          refine zr_aload_n C 0 dL_law_1216 rfl ?_
          refine zr_iload_n C 3 dL_law_1217 rfl ?_
          refine zr_iconst C dL_law_1218 (v := (4 : Int32)) (by decide) ?_
          refine zr_iadd C dL_law_1219 ?_
          obtain ⟨hg298, hJ⟩ := zg_e hJ
          refine zl_sld C hX hb hg298 dL_law_1220 ?_
          obtain ⟨r299, hr299, hJ⟩ := zb_e hJ
          refine zr_callVI C 105 (zk_lt zk_105 (by decide)) (zen_obj zk_105) (rfl : zcl[11]? = some (RX11, TX11, 56)) (M_X11_beats G l hr299) zin_X11_beats zm_41_4 rfl rfl (Nat.le_of_ble_eq_true rfl) ⟨Nat.le_of_ble_eq_true rfl, Nat.le_of_ble_eq_true rfl⟩ ⟨Nat.le_of_ble_eq_true rfl, Nat.le_of_ble_eq_true rfl⟩ dL_law_1221 ?_
          refine zr_icmp_eq C 1639 dL_law_1224 (by decide) (fun hc300 => ?_) (fun hc300 => ?_)
          · have hJ := zif hc300 hJ
            obtain ⟨v301, hv301, hJ⟩ := zlet_e hJ
            refine zr_iinc C v301 3 [(3, .int v301), (0, .ref b), (1, .ref (G.1 + 0)), (2, .ref (G.1 + 105))] dL_law_1639 rfl (hv301.trans (zinc (by decide))) (by decide) rfl ?_
            refine zr_goto C 18 dL_law_1642 (by decide) ?_
            refine zr_sub [1, 2, 3, 0] [(0, .ref b), (1, .ref (G.1 + 0)), (2, .ref (G.1 + 105)), (3, .int v301)] rfl ?_
            exact ih18 _ _ hJ
          · have hJ := zif' hc300 hJ
            refine zr_iconst C dL_law_1227 (v := (0 : Int32)) (by decide) ?_
            exact absurd (zs_e hJ) (by decide)
        have hJ := zif' hs288 hJ
        by_cases hs302 : v3 = (27 : Int32)
        · have hJ := zif hs302 hJ
          refine zr_tin C 1229 dL_law_33 (by rw [hs302]; decide) (by rw [hs302]; decide) (by rw [hs302]; rfl) (by decide) ?_
          refine zr_aload_n C 1 dL_law_1229 rfl ?_
          refine zr_aload_n C 0 dL_law_1230 rfl ?_
          refine zr_iload_n C 3 dL_law_1231 rfl ?_
          refine zr_iconst C dL_law_1232 (v := (1 : Int32)) (by decide) ?_
          refine zr_iadd C dL_law_1233 ?_
          obtain ⟨hg303, hJ⟩ := zg_e hJ
          refine zl_sld C hX hb hg303 dL_law_1234 ?_
          refine zr_aload_n C 0 dL_law_1235 rfl ?_
          refine zr_iload_n C 3 dL_law_1236 rfl ?_
          refine zr_iconst C dL_law_1237 (v := (2 : Int32)) (by decide) ?_
          refine zr_iadd C dL_law_1238 ?_
          obtain ⟨hg304, hJ⟩ := zg_e hJ
          refine zl_sld C hX hb hg304 dL_law_1239 ?_
          refine zr_aload_n C 0 dL_law_1240 rfl ?_
          refine zr_iload_n C 3 dL_law_1241 rfl ?_
          refine zr_iconst C dL_law_1242 (v := (3 : Int32)) (by decide) ?_
          refine zr_iadd C dL_law_1243 ?_
          obtain ⟨hg305, hJ⟩ := zg_e hJ
          refine zl_sld C hX hb hg305 dL_law_1244 ?_
          refine zr_aload_n C 0 dL_law_1245 rfl ?_
          refine zr_iload_n C 3 dL_law_1246 rfl ?_
          refine zr_iconst C dL_law_1247 (v := (4 : Int32)) (by decide) ?_
          refine zr_iadd C dL_law_1248 ?_
          obtain ⟨hg306, hJ⟩ := zg_e hJ
          refine zl_sld C hX hb hg306 dL_law_1249 ?_
          obtain ⟨r307, hr307, hJ⟩ := zb_e hJ
          refine zr_callVI C 0 (zk_lt zk_0 (by decide)) (zen_obj zk_0) (rfl : zcl[10]? = some (RX10, TX10, 12)) (M_X10_over G l hr307) zin_X10_over zm_41_8 rfl rfl (Nat.le_of_ble_eq_true rfl) ⟨Nat.le_of_ble_eq_true rfl, Nat.le_of_ble_eq_true rfl⟩ ⟨Nat.le_of_ble_eq_true rfl, Nat.le_of_ble_eq_true rfl⟩ dL_law_1250 ?_
          refine zr_aload_n C 2 dL_law_1253 rfl ?_
          refine zr_aload_n C 0 dL_law_1254 rfl ?_
          refine zr_iload_n C 3 dL_law_1255 rfl ?_
          refine zr_iconst C dL_law_1256 (v := (1 : Int32)) (by decide) ?_
          refine zr_iadd C dL_law_1257 ?_
          obtain ⟨hg308, hJ⟩ := zg_e hJ
          refine zl_sld C hX hb hg308 dL_law_1258 ?_
          refine zr_aload_n C 0 dL_law_1259 rfl ?_
          refine zr_iload_n C 3 dL_law_1260 rfl ?_
          refine zr_iconst C dL_law_1261 (v := (2 : Int32)) (by decide) ?_
          refine zr_iadd C dL_law_1262 ?_
          obtain ⟨hg309, hJ⟩ := zg_e hJ
          refine zl_sld C hX hb hg309 dL_law_1263 ?_
          refine zr_aload_n C 0 dL_law_1264 rfl ?_
          refine zr_iload_n C 3 dL_law_1265 rfl ?_
          refine zr_iconst C dL_law_1266 (v := (3 : Int32)) (by decide) ?_
          refine zr_iadd C dL_law_1267 ?_
          obtain ⟨hg310, hJ⟩ := zg_e hJ
          refine zl_sld C hX hb hg310 dL_law_1268 ?_
          refine zr_aload_n C 0 dL_law_1269 rfl ?_
          refine zr_iload_n C 3 dL_law_1270 rfl ?_
          refine zr_iconst C dL_law_1271 (v := (4 : Int32)) (by decide) ?_
          refine zr_iadd C dL_law_1272 ?_
          obtain ⟨hg311, hJ⟩ := zg_e hJ
          refine zl_sld C hX hb hg311 dL_law_1273 ?_
          obtain ⟨r312, hr312, hJ⟩ := zb_e hJ
          refine zr_callVI C 105 (zk_lt zk_105 (by decide)) (zen_obj zk_105) (rfl : zcl[11]? = some (RX11, TX11, 56)) (M_X11_over G l hr312) zin_X11_over zm_41_21 rfl rfl (Nat.le_of_ble_eq_true rfl) ⟨Nat.le_of_ble_eq_true rfl, Nat.le_of_ble_eq_true rfl⟩ ⟨Nat.le_of_ble_eq_true rfl, Nat.le_of_ble_eq_true rfl⟩ dL_law_1274 ?_
          refine zr_icmp_eq C 1639 dL_law_1277 (by decide) (fun hc313 => ?_) (fun hc313 => ?_)
          · have hJ := zif hc313 hJ
            obtain ⟨v314, hv314, hJ⟩ := zlet_e hJ
            refine zr_iinc C v314 3 [(3, .int v314), (0, .ref b), (1, .ref (G.1 + 0)), (2, .ref (G.1 + 105))] dL_law_1639 rfl (hv314.trans (zinc (by decide))) (by decide) rfl ?_
            refine zr_goto C 18 dL_law_1642 (by decide) ?_
            refine zr_sub [1, 2, 3, 0] [(0, .ref b), (1, .ref (G.1 + 0)), (2, .ref (G.1 + 105)), (3, .int v314)] rfl ?_
            exact ih18 _ _ hJ
          · have hJ := zif' hc313 hJ
            refine zr_iconst C dL_law_1280 (v := (0 : Int32)) (by decide) ?_
            exact absurd (zs_e hJ) (by decide)
        have hJ := zif' hs302 hJ
        by_cases hs315 : v3 = (28 : Int32)
        · have hJ := zif hs315 hJ
          refine zr_tin C 1282 dL_law_33 (by rw [hs315]; decide) (by rw [hs315]; decide) (by rw [hs315]; rfl) (by decide) ?_
          refine zr_aload_n C 1 dL_law_1282 rfl ?_
          refine zr_aload_n C 0 dL_law_1283 rfl ?_
          refine zr_iload_n C 3 dL_law_1284 rfl ?_
          refine zr_iconst C dL_law_1285 (v := (1 : Int32)) (by decide) ?_
          refine zr_iadd C dL_law_1286 ?_
          obtain ⟨hg316, hJ⟩ := zg_e hJ
          refine zl_sld C hX hb hg316 dL_law_1287 ?_
          refine zr_aload_n C 0 dL_law_1288 rfl ?_
          refine zr_iload_n C 3 dL_law_1289 rfl ?_
          refine zr_iconst C dL_law_1290 (v := (2 : Int32)) (by decide) ?_
          refine zr_iadd C dL_law_1291 ?_
          obtain ⟨hg317, hJ⟩ := zg_e hJ
          refine zl_sld C hX hb hg317 dL_law_1292 ?_
          refine zr_aload_n C 0 dL_law_1293 rfl ?_
          refine zr_iload_n C 3 dL_law_1294 rfl ?_
          refine zr_iconst C dL_law_1295 (v := (3 : Int32)) (by decide) ?_
          refine zr_iadd C dL_law_1296 ?_
          obtain ⟨hg318, hJ⟩ := zg_e hJ
          refine zl_sld C hX hb hg318 dL_law_1297 ?_
          refine zr_aload_n C 0 dL_law_1298 rfl ?_
          refine zr_iload_n C 3 dL_law_1299 rfl ?_
          refine zr_iconst C dL_law_1300 (v := (4 : Int32)) (by decide) ?_
          refine zr_iadd C dL_law_1301 ?_
          obtain ⟨hg319, hJ⟩ := zg_e hJ
          refine zl_sld C hX hb hg319 dL_law_1302 ?_
          obtain ⟨r320, σ321, hr320, hJ⟩ := zb2_e hJ
          refine zr_callVI C 0 (zk_lt zk_0 (by decide)) (zen_obj zk_0) (rfl : zcl[10]? = some (RX10, TX10, 12)) (M_X10_looked G l hr320) zin_X10_looked zm_42_5 rfl rfl (Nat.le_of_ble_eq_true rfl) ⟨Nat.le_of_ble_eq_true rfl, Nat.le_of_ble_eq_true rfl⟩ ⟨Nat.le_of_ble_eq_true rfl, Nat.le_of_ble_eq_true rfl⟩ dL_law_1303 ?_
          refine zr_aload_n C 2 dL_law_1306 rfl ?_
          refine zr_aload_n C 0 dL_law_1307 rfl ?_
          refine zr_iload_n C 3 dL_law_1308 rfl ?_
          refine zr_iconst C dL_law_1309 (v := (1 : Int32)) (by decide) ?_
          refine zr_iadd C dL_law_1310 ?_
          obtain ⟨hg322, hJ⟩ := zg_e hJ
          refine zl_sld C hX hb hg322 dL_law_1311 ?_
          refine zr_aload_n C 0 dL_law_1312 rfl ?_
          refine zr_iload_n C 3 dL_law_1313 rfl ?_
          refine zr_iconst C dL_law_1314 (v := (2 : Int32)) (by decide) ?_
          refine zr_iadd C dL_law_1315 ?_
          obtain ⟨hg323, hJ⟩ := zg_e hJ
          refine zl_sld C hX hb hg323 dL_law_1316 ?_
          refine zr_aload_n C 0 dL_law_1317 rfl ?_
          refine zr_iload_n C 3 dL_law_1318 rfl ?_
          refine zr_iconst C dL_law_1319 (v := (3 : Int32)) (by decide) ?_
          refine zr_iadd C dL_law_1320 ?_
          obtain ⟨hg324, hJ⟩ := zg_e hJ
          refine zl_sld C hX hb hg324 dL_law_1321 ?_
          refine zr_aload_n C 0 dL_law_1322 rfl ?_
          refine zr_iload_n C 3 dL_law_1323 rfl ?_
          refine zr_iconst C dL_law_1324 (v := (4 : Int32)) (by decide) ?_
          refine zr_iadd C dL_law_1325 ?_
          obtain ⟨hg325, hJ⟩ := zg_e hJ
          refine zl_sld C hX hb hg325 dL_law_1326 ?_
          obtain ⟨r326, σ327, hr326, hJ⟩ := zb2_e hJ
          refine zr_callVI C 105 (zk_lt zk_105 (by decide)) (zen_obj zk_105) (rfl : zcl[11]? = some (RX11, TX11, 56)) (M_X11_looked G l hr326) zin_X11_looked zm_42_19 rfl rfl (Nat.le_of_ble_eq_true rfl) ⟨Nat.le_of_ble_eq_true rfl, Nat.le_of_ble_eq_true rfl⟩ ⟨Nat.le_of_ble_eq_true rfl, Nat.le_of_ble_eq_true rfl⟩ dL_law_1327 ?_
          refine zr_icmp_eq C 1639 dL_law_1330 (by decide) (fun hc328 => ?_) (fun hc328 => ?_)
          · have hJ := zif hc328 hJ
            obtain ⟨v329, hv329, hJ⟩ := zlet_e hJ
            refine zr_iinc C v329 3 [(3, .int v329), (0, .ref b), (1, .ref (G.1 + 0)), (2, .ref (G.1 + 105))] dL_law_1639 rfl (hv329.trans (zinc (by decide))) (by decide) rfl ?_
            refine zr_goto C 18 dL_law_1642 (by decide) ?_
            refine zr_sub [1, 2, 3, 0] [(0, .ref b), (1, .ref (G.1 + 0)), (2, .ref (G.1 + 105)), (3, .int v329)] rfl ?_
            exact ih18 _ _ hJ
          · have hJ := zif' hc328 hJ
            refine zr_iconst C dL_law_1333 (v := (0 : Int32)) (by decide) ?_
            exact absurd (zs_e hJ) (by decide)
        have hJ := zif' hs315 hJ
        by_cases hs330 : v3 = (29 : Int32)
        · have hJ := zif hs330 hJ
          refine zr_tin C 1335 dL_law_33 (by rw [hs330]; decide) (by rw [hs330]; decide) (by rw [hs330]; rfl) (by decide) ?_
          refine zr_aload_n C 1 dL_law_1335 rfl ?_
          refine zr_aload_n C 0 dL_law_1336 rfl ?_
          refine zr_iload_n C 3 dL_law_1337 rfl ?_
          refine zr_iconst C dL_law_1338 (v := (1 : Int32)) (by decide) ?_
          refine zr_iadd C dL_law_1339 ?_
          obtain ⟨hg331, hJ⟩ := zg_e hJ
          refine zl_sld C hX hb hg331 dL_law_1340 ?_
          refine zr_aload_n C 0 dL_law_1341 rfl ?_
          refine zr_iload_n C 3 dL_law_1342 rfl ?_
          refine zr_iconst C dL_law_1343 (v := (2 : Int32)) (by decide) ?_
          refine zr_iadd C dL_law_1344 ?_
          obtain ⟨hg332, hJ⟩ := zg_e hJ
          refine zl_sld C hX hb hg332 dL_law_1345 ?_
          obtain ⟨r333, σ334, hr333, hJ⟩ := zb2_e hJ
          refine zr_callVI C 0 (zk_lt zk_0 (by decide)) (zen_obj zk_0) (rfl : zcl[10]? = some (RX10, TX10, 12)) (M_X10_seldom G l hr333) zin_X10_seldom zm_43_4 rfl rfl (Nat.le_of_ble_eq_true rfl) ⟨Nat.le_of_ble_eq_true rfl, Nat.le_of_ble_eq_true rfl⟩ ⟨Nat.le_of_ble_eq_true rfl, Nat.le_of_ble_eq_true rfl⟩ dL_law_1346 ?_
          refine zr_aload_n C 2 dL_law_1349 rfl ?_
          refine zr_aload_n C 0 dL_law_1350 rfl ?_
          refine zr_iload_n C 3 dL_law_1351 rfl ?_
          refine zr_iconst C dL_law_1352 (v := (1 : Int32)) (by decide) ?_
          refine zr_iadd C dL_law_1353 ?_
          obtain ⟨hg335, hJ⟩ := zg_e hJ
          refine zl_sld C hX hb hg335 dL_law_1354 ?_
          refine zr_aload_n C 0 dL_law_1355 rfl ?_
          refine zr_iload_n C 3 dL_law_1356 rfl ?_
          refine zr_iconst C dL_law_1357 (v := (2 : Int32)) (by decide) ?_
          refine zr_iadd C dL_law_1358 ?_
          obtain ⟨hg336, hJ⟩ := zg_e hJ
          refine zl_sld C hX hb hg336 dL_law_1359 ?_
          obtain ⟨r337, σ338, hr337, hJ⟩ := zb2_e hJ
          refine zr_callVI C 105 (zk_lt zk_105 (by decide)) (zen_obj zk_105) (rfl : zcl[11]? = some (RX11, TX11, 56)) (M_X11_seldom G l hr337) zin_X11_seldom zm_43_16 rfl rfl (Nat.le_of_ble_eq_true rfl) ⟨Nat.le_of_ble_eq_true rfl, Nat.le_of_ble_eq_true rfl⟩ ⟨Nat.le_of_ble_eq_true rfl, Nat.le_of_ble_eq_true rfl⟩ dL_law_1360 ?_
          refine zr_icmp_eq C 1639 dL_law_1363 (by decide) (fun hc339 => ?_) (fun hc339 => ?_)
          · have hJ := zif hc339 hJ
            obtain ⟨v340, hv340, hJ⟩ := zlet_e hJ
            refine zr_iinc C v340 3 [(3, .int v340), (0, .ref b), (1, .ref (G.1 + 0)), (2, .ref (G.1 + 105))] dL_law_1639 rfl (hv340.trans (zinc (by decide))) (by decide) rfl ?_
            refine zr_goto C 18 dL_law_1642 (by decide) ?_
            refine zr_sub [1, 2, 3, 0] [(0, .ref b), (1, .ref (G.1 + 0)), (2, .ref (G.1 + 105)), (3, .int v340)] rfl ?_
            exact ih18 _ _ hJ
          · have hJ := zif' hc339 hJ
            refine zr_iconst C dL_law_1366 (v := (0 : Int32)) (by decide) ?_
            exact absurd (zs_e hJ) (by decide)
        have hJ := zif' hs330 hJ
        by_cases hs341 : v3 = (30 : Int32)
        · have hJ := zif hs341 hJ
          refine zr_tin C 1368 dL_law_33 (by rw [hs341]; decide) (by rw [hs341]; decide) (by rw [hs341]; rfl) (by decide) ?_
          refine zr_aload_n C 1 dL_law_1368 rfl ?_
          refine zr_aload_n C 0 dL_law_1369 rfl ?_
          refine zr_iload_n C 3 dL_law_1370 rfl ?_
          refine zr_iconst C dL_law_1371 (v := (1 : Int32)) (by decide) ?_
          refine zr_iadd C dL_law_1372 ?_
          obtain ⟨hg342, hJ⟩ := zg_e hJ
          refine zl_sld C hX hb hg342 dL_law_1373 ?_
          refine zr_aload_n C 0 dL_law_1374 rfl ?_
          refine zr_iload_n C 3 dL_law_1375 rfl ?_
          refine zr_iconst C dL_law_1376 (v := (2 : Int32)) (by decide) ?_
          refine zr_iadd C dL_law_1377 ?_
          obtain ⟨hg343, hJ⟩ := zg_e hJ
          refine zl_sld C hX hb hg343 dL_law_1378 ?_
          refine zr_aload_n C 0 dL_law_1379 rfl ?_
          refine zr_iload_n C 3 dL_law_1380 rfl ?_
          refine zr_iconst C dL_law_1381 (v := (3 : Int32)) (by decide) ?_
          refine zr_iadd C dL_law_1382 ?_
          obtain ⟨hg344, hJ⟩ := zg_e hJ
          refine zl_sld C hX hb hg344 dL_law_1383 ?_
          obtain ⟨r345, σ346, hr345, hJ⟩ := zb2_e hJ
          refine zr_callVI C 0 (zk_lt zk_0 (by decide)) (zen_obj zk_0) (rfl : zcl[10]? = some (RX10, TX10, 12)) (M_X10_run G l hr345) zin_X10_run zm_43_20 rfl rfl (Nat.le_of_ble_eq_true rfl) ⟨Nat.le_of_ble_eq_true rfl, Nat.le_of_ble_eq_true rfl⟩ ⟨Nat.le_of_ble_eq_true rfl, Nat.le_of_ble_eq_true rfl⟩ dL_law_1384 ?_
          refine zr_aload_n C 2 dL_law_1387 rfl ?_
          refine zr_aload_n C 0 dL_law_1388 rfl ?_
          refine zr_iload_n C 3 dL_law_1389 rfl ?_
          refine zr_iconst C dL_law_1390 (v := (1 : Int32)) (by decide) ?_
          refine zr_iadd C dL_law_1391 ?_
          obtain ⟨hg347, hJ⟩ := zg_e hJ
          refine zl_sld C hX hb hg347 dL_law_1392 ?_
          refine zr_aload_n C 0 dL_law_1393 rfl ?_
          refine zr_iload_n C 3 dL_law_1394 rfl ?_
          refine zr_iconst C dL_law_1395 (v := (2 : Int32)) (by decide) ?_
          refine zr_iadd C dL_law_1396 ?_
          obtain ⟨hg348, hJ⟩ := zg_e hJ
          refine zl_sld C hX hb hg348 dL_law_1397 ?_
          refine zr_aload_n C 0 dL_law_1398 rfl ?_
          refine zr_iload_n C 3 dL_law_1399 rfl ?_
          refine zr_iconst C dL_law_1400 (v := (3 : Int32)) (by decide) ?_
          refine zr_iadd C dL_law_1401 ?_
          obtain ⟨hg349, hJ⟩ := zg_e hJ
          refine zl_sld C hX hb hg349 dL_law_1402 ?_
          obtain ⟨r350, σ351, hr350, hJ⟩ := zb2_e hJ
          refine zr_callVI C 105 (zk_lt zk_105 (by decide)) (zen_obj zk_105) (rfl : zcl[11]? = some (RX11, TX11, 56)) (M_X11_run G l hr350) zin_X11_run zm_44_4 rfl rfl (Nat.le_of_ble_eq_true rfl) ⟨Nat.le_of_ble_eq_true rfl, Nat.le_of_ble_eq_true rfl⟩ ⟨Nat.le_of_ble_eq_true rfl, Nat.le_of_ble_eq_true rfl⟩ dL_law_1403 ?_
          refine zr_icmp_eq C 1639 dL_law_1406 (by decide) (fun hc352 => ?_) (fun hc352 => ?_)
          · have hJ := zif hc352 hJ
            obtain ⟨v353, hv353, hJ⟩ := zlet_e hJ
            refine zr_iinc C v353 3 [(3, .int v353), (0, .ref b), (1, .ref (G.1 + 0)), (2, .ref (G.1 + 105))] dL_law_1639 rfl (hv353.trans (zinc (by decide))) (by decide) rfl ?_
            refine zr_goto C 18 dL_law_1642 (by decide) ?_
            refine zr_sub [1, 2, 3, 0] [(0, .ref b), (1, .ref (G.1 + 0)), (2, .ref (G.1 + 105)), (3, .int v353)] rfl ?_
            exact ih18 _ _ hJ
          · have hJ := zif' hc352 hJ
            refine zr_iconst C dL_law_1409 (v := (0 : Int32)) (by decide) ?_
            exact absurd (zs_e hJ) (by decide)
        have hJ := zif' hs341 hJ
        by_cases hs354 : v3 = (31 : Int32)
        · have hJ := zif hs354 hJ
          refine zr_tin C 1411 dL_law_33 (by rw [hs354]; decide) (by rw [hs354]; decide) (by rw [hs354]; rfl) (by decide) ?_
          refine zr_aload_n C 1 dL_law_1411 rfl ?_
          obtain ⟨r355, σ356, hr355, hJ⟩ := zb2_e hJ
          refine zr_callVI C 0 (zk_lt zk_0 (by decide)) (zen_obj zk_0) (rfl : zcl[10]? = some (RX10, TX10, 12)) (M_X10_forget G l hr355) zin_X10_forget zm_44_8 rfl rfl (Nat.le_of_ble_eq_true rfl) ⟨Nat.le_of_ble_eq_true rfl, Nat.le_of_ble_eq_true rfl⟩ ⟨Nat.le_of_ble_eq_true rfl, Nat.le_of_ble_eq_true rfl⟩ dL_law_1412 ?_
          refine zr_aload_n C 2 dL_law_1415 rfl ?_
          obtain ⟨r357, σ358, hr357, hJ⟩ := zb2_e hJ
          refine zr_callVI C 105 (zk_lt zk_105 (by decide)) (zen_obj zk_105) (rfl : zcl[11]? = some (RX11, TX11, 56)) (M_X11_forget G l hr357) zin_X11_forget zm_44_12 rfl rfl (Nat.le_of_ble_eq_true rfl) ⟨Nat.le_of_ble_eq_true rfl, Nat.le_of_ble_eq_true rfl⟩ ⟨Nat.le_of_ble_eq_true rfl, Nat.le_of_ble_eq_true rfl⟩ dL_law_1416 ?_
          refine zr_icmp_eq C 1639 dL_law_1419 (by decide) (fun hc359 => ?_) (fun hc359 => ?_)
          · have hJ := zif hc359 hJ
            obtain ⟨v360, hv360, hJ⟩ := zlet_e hJ
            refine zr_iinc C v360 3 [(3, .int v360), (0, .ref b), (1, .ref (G.1 + 0)), (2, .ref (G.1 + 105))] dL_law_1639 rfl (hv360.trans (zinc (by decide))) (by decide) rfl ?_
            refine zr_goto C 18 dL_law_1642 (by decide) ?_
            refine zr_sub [1, 2, 3, 0] [(0, .ref b), (1, .ref (G.1 + 0)), (2, .ref (G.1 + 105)), (3, .int v360)] rfl ?_
            exact ih18 _ _ hJ
          · have hJ := zif' hc359 hJ
            refine zr_iconst C dL_law_1422 (v := (0 : Int32)) (by decide) ?_
            exact absurd (zs_e hJ) (by decide)
        have hJ := zif' hs354 hJ
        by_cases hs361 : v3 = (32 : Int32)
        · have hJ := zif hs361 hJ
          refine zr_tin C 1424 dL_law_33 (by rw [hs361]; decide) (by rw [hs361]; decide) (by rw [hs361]; rfl) (by decide) ?_
          refine zr_aload_n C 1 dL_law_1424 rfl ?_
          refine zr_aload_n C 0 dL_law_1425 rfl ?_
          refine zr_iload_n C 3 dL_law_1426 rfl ?_
          refine zr_iconst C dL_law_1427 (v := (1 : Int32)) (by decide) ?_
          refine zr_iadd C dL_law_1428 ?_
          obtain ⟨hg362, hJ⟩ := zg_e hJ
          refine zl_sld C hX hb hg362 dL_law_1429 ?_
          refine zr_aload_n C 0 dL_law_1430 rfl ?_
          refine zr_iload_n C 3 dL_law_1431 rfl ?_
          refine zr_iconst C dL_law_1432 (v := (2 : Int32)) (by decide) ?_
          refine zr_iadd C dL_law_1433 ?_
          obtain ⟨hg363, hJ⟩ := zg_e hJ
          refine zl_sld C hX hb hg363 dL_law_1434 ?_
          refine zr_aload_n C 0 dL_law_1435 rfl ?_
          refine zr_iload_n C 3 dL_law_1436 rfl ?_
          refine zr_iconst C dL_law_1437 (v := (3 : Int32)) (by decide) ?_
          refine zr_iadd C dL_law_1438 ?_
          obtain ⟨hg364, hJ⟩ := zg_e hJ
          refine zl_sld C hX hb hg364 dL_law_1439 ?_
          obtain ⟨r365, σ366, hr365, hJ⟩ := zb2_e hJ
          refine zr_callVI C 0 (zk_lt zk_0 (by decide)) (zen_obj zk_0) (rfl : zcl[10]? = some (RX10, TX10, 12)) (M_X10_wired G l hr365) zin_X10_wired zm_44_16 rfl rfl (Nat.le_of_ble_eq_true rfl) ⟨Nat.le_of_ble_eq_true rfl, Nat.le_of_ble_eq_true rfl⟩ ⟨Nat.le_of_ble_eq_true rfl, Nat.le_of_ble_eq_true rfl⟩ dL_law_1440 ?_
          refine zr_aload_n C 2 dL_law_1443 rfl ?_
          refine zr_aload_n C 0 dL_law_1444 rfl ?_
          refine zr_iload_n C 3 dL_law_1445 rfl ?_
          refine zr_iconst C dL_law_1446 (v := (1 : Int32)) (by decide) ?_
          refine zr_iadd C dL_law_1447 ?_
          obtain ⟨hg367, hJ⟩ := zg_e hJ
          refine zl_sld C hX hb hg367 dL_law_1448 ?_
          refine zr_aload_n C 0 dL_law_1449 rfl ?_
          refine zr_iload_n C 3 dL_law_1450 rfl ?_
          refine zr_iconst C dL_law_1451 (v := (2 : Int32)) (by decide) ?_
          refine zr_iadd C dL_law_1452 ?_
          obtain ⟨hg368, hJ⟩ := zg_e hJ
          refine zl_sld C hX hb hg368 dL_law_1453 ?_
          refine zr_aload_n C 0 dL_law_1454 rfl ?_
          refine zr_iload_n C 3 dL_law_1455 rfl ?_
          refine zr_iconst C dL_law_1456 (v := (3 : Int32)) (by decide) ?_
          refine zr_iadd C dL_law_1457 ?_
          obtain ⟨hg369, hJ⟩ := zg_e hJ
          refine zl_sld C hX hb hg369 dL_law_1458 ?_
          obtain ⟨r370, hr370, hJ⟩ := zb_e hJ
          refine zr_callVI C 105 (zk_lt zk_105 (by decide)) (zen_obj zk_105) (rfl : zcl[11]? = some (RX11, TX11, 56)) (M_X11_wired G l hr370) zin_X11_wired zm_45_23 rfl rfl (Nat.le_of_ble_eq_true rfl) ⟨Nat.le_of_ble_eq_true rfl, Nat.le_of_ble_eq_true rfl⟩ ⟨Nat.le_of_ble_eq_true rfl, Nat.le_of_ble_eq_true rfl⟩ dL_law_1459 ?_
          refine zr_icmp_eq C 1639 dL_law_1462 (by decide) (fun hc371 => ?_) (fun hc371 => ?_)
          · have hJ := zif hc371 hJ
            obtain ⟨v372, hv372, hJ⟩ := zlet_e hJ
            refine zr_iinc C v372 3 [(3, .int v372), (0, .ref b), (1, .ref (G.1 + 0)), (2, .ref (G.1 + 105))] dL_law_1639 rfl (hv372.trans (zinc (by decide))) (by decide) rfl ?_
            refine zr_goto C 18 dL_law_1642 (by decide) ?_
            refine zr_sub [1, 2, 3, 0] [(0, .ref b), (1, .ref (G.1 + 0)), (2, .ref (G.1 + 105)), (3, .int v372)] rfl ?_
            exact ih18 _ _ hJ
          · have hJ := zif' hc371 hJ
            refine zr_iconst C dL_law_1465 (v := (0 : Int32)) (by decide) ?_
            exact absurd (zs_e hJ) (by decide)
        have hJ := zif' hs361 hJ
        by_cases hs373 : v3 = (33 : Int32)
        · have hJ := zif hs373 hJ
          refine zr_tin C 1467 dL_law_33 (by rw [hs373]; decide) (by rw [hs373]; decide) (by rw [hs373]; rfl) (by decide) ?_
          refine zr_aload_n C 1 dL_law_1467 rfl ?_
          refine zr_aload_n C 0 dL_law_1468 rfl ?_
          refine zr_iload_n C 3 dL_law_1469 rfl ?_
          refine zr_iconst C dL_law_1470 (v := (1 : Int32)) (by decide) ?_
          refine zr_iadd C dL_law_1471 ?_
          obtain ⟨hg374, hJ⟩ := zg_e hJ
          refine zl_sld C hX hb hg374 dL_law_1472 ?_
          refine zr_aload_n C 0 dL_law_1473 rfl ?_
          refine zr_iload_n C 3 dL_law_1474 rfl ?_
          refine zr_iconst C dL_law_1475 (v := (2 : Int32)) (by decide) ?_
          refine zr_iadd C dL_law_1476 ?_
          obtain ⟨hg375, hJ⟩ := zg_e hJ
          refine zl_sld C hX hb hg375 dL_law_1477 ?_
          refine zr_aload_n C 0 dL_law_1478 rfl ?_
          refine zr_iload_n C 3 dL_law_1479 rfl ?_
          refine zr_iconst C dL_law_1480 (v := (3 : Int32)) (by decide) ?_
          refine zr_iadd C dL_law_1481 ?_
          obtain ⟨hg376, hJ⟩ := zg_e hJ
          refine zl_sld C hX hb hg376 dL_law_1482 ?_
          obtain ⟨r377, σ378, hr377, hJ⟩ := zb2_e hJ
          refine zr_callVI C 0 (zk_lt zk_0 (by decide)) (zen_obj zk_0) (rfl : zcl[10]? = some (RX10, TX10, 12)) (M_X10_sheet G l hr377) zin_X10_sheet zm_46_11 rfl rfl (Nat.le_of_ble_eq_true rfl) ⟨Nat.le_of_ble_eq_true rfl, Nat.le_of_ble_eq_true rfl⟩ ⟨Nat.le_of_ble_eq_true rfl, Nat.le_of_ble_eq_true rfl⟩ dL_law_1483 ?_
          refine zr_aload_n C 2 dL_law_1486 rfl ?_
          refine zr_aload_n C 0 dL_law_1487 rfl ?_
          refine zr_iload_n C 3 dL_law_1488 rfl ?_
          refine zr_iconst C dL_law_1489 (v := (1 : Int32)) (by decide) ?_
          refine zr_iadd C dL_law_1490 ?_
          obtain ⟨hg379, hJ⟩ := zg_e hJ
          refine zl_sld C hX hb hg379 dL_law_1491 ?_
          refine zr_aload_n C 0 dL_law_1492 rfl ?_
          refine zr_iload_n C 3 dL_law_1493 rfl ?_
          refine zr_iconst C dL_law_1494 (v := (2 : Int32)) (by decide) ?_
          refine zr_iadd C dL_law_1495 ?_
          obtain ⟨hg380, hJ⟩ := zg_e hJ
          refine zl_sld C hX hb hg380 dL_law_1496 ?_
          refine zr_aload_n C 0 dL_law_1497 rfl ?_
          refine zr_iload_n C 3 dL_law_1498 rfl ?_
          refine zr_iconst C dL_law_1499 (v := (3 : Int32)) (by decide) ?_
          refine zr_iadd C dL_law_1500 ?_
          obtain ⟨hg381, hJ⟩ := zg_e hJ
          refine zl_sld C hX hb hg381 dL_law_1501 ?_
          obtain ⟨r382, σ383, hr382, hJ⟩ := zb2_e hJ
          refine zr_callVI C 105 (zk_lt zk_105 (by decide)) (zen_obj zk_105) (rfl : zcl[11]? = some (RX11, TX11, 56)) (M_X11_sheet G l hr382) zin_X11_sheet zm_47_3 rfl rfl (Nat.le_of_ble_eq_true rfl) ⟨Nat.le_of_ble_eq_true rfl, Nat.le_of_ble_eq_true rfl⟩ ⟨Nat.le_of_ble_eq_true rfl, Nat.le_of_ble_eq_true rfl⟩ dL_law_1502 ?_
          refine zr_icmp_eq C 1639 dL_law_1505 (by decide) (fun hc384 => ?_) (fun hc384 => ?_)
          · have hJ := zif hc384 hJ
            obtain ⟨v385, hv385, hJ⟩ := zlet_e hJ
            refine zr_iinc C v385 3 [(3, .int v385), (0, .ref b), (1, .ref (G.1 + 0)), (2, .ref (G.1 + 105))] dL_law_1639 rfl (hv385.trans (zinc (by decide))) (by decide) rfl ?_
            refine zr_goto C 18 dL_law_1642 (by decide) ?_
            refine zr_sub [1, 2, 3, 0] [(0, .ref b), (1, .ref (G.1 + 0)), (2, .ref (G.1 + 105)), (3, .int v385)] rfl ?_
            exact ih18 _ _ hJ
          · have hJ := zif' hc384 hJ
            refine zr_iconst C dL_law_1508 (v := (0 : Int32)) (by decide) ?_
            exact absurd (zs_e hJ) (by decide)
        have hJ := zif' hs373 hJ
        by_cases hs386 : v3 = (34 : Int32)
        · have hJ := zif hs386 hJ
          refine zr_tin C 1510 dL_law_33 (by rw [hs386]; decide) (by rw [hs386]; decide) (by rw [hs386]; rfl) (by decide) ?_
          refine zr_aload_n C 1 dL_law_1510 rfl ?_
          refine zr_aload_n C 0 dL_law_1511 rfl ?_
          refine zr_iload_n C 3 dL_law_1512 rfl ?_
          refine zr_iconst C dL_law_1513 (v := (1 : Int32)) (by decide) ?_
          refine zr_iadd C dL_law_1514 ?_
          obtain ⟨hg387, hJ⟩ := zg_e hJ
          refine zl_sld C hX hb hg387 dL_law_1515 ?_
          refine zr_aload_n C 0 dL_law_1516 rfl ?_
          refine zr_iload_n C 3 dL_law_1517 rfl ?_
          refine zr_iconst C dL_law_1518 (v := (2 : Int32)) (by decide) ?_
          refine zr_iadd C dL_law_1519 ?_
          obtain ⟨hg388, hJ⟩ := zg_e hJ
          refine zl_sld C hX hb hg388 dL_law_1520 ?_
          refine zr_aload_n C 0 dL_law_1521 rfl ?_
          refine zr_iload_n C 3 dL_law_1522 rfl ?_
          refine zr_iconst C dL_law_1523 (v := (3 : Int32)) (by decide) ?_
          refine zr_iadd C dL_law_1524 ?_
          obtain ⟨hg389, hJ⟩ := zg_e hJ
          refine zl_sld C hX hb hg389 dL_law_1525 ?_
          obtain ⟨r390, σ391, hr390, hJ⟩ := zb2_e hJ
          refine zr_callVI C 0 (zk_lt zk_0 (by decide)) (zen_obj zk_0) (rfl : zcl[10]? = some (RX10, TX10, 12)) (M_X10_lay G l hr390) zin_X10_lay zm_47_10 rfl rfl (Nat.le_of_ble_eq_true rfl) ⟨Nat.le_of_ble_eq_true rfl, Nat.le_of_ble_eq_true rfl⟩ ⟨Nat.le_of_ble_eq_true rfl, Nat.le_of_ble_eq_true rfl⟩ dL_law_1526 ?_
          refine zr_aload_n C 2 dL_law_1529 rfl ?_
          refine zr_aload_n C 0 dL_law_1530 rfl ?_
          refine zr_iload_n C 3 dL_law_1531 rfl ?_
          refine zr_iconst C dL_law_1532 (v := (1 : Int32)) (by decide) ?_
          refine zr_iadd C dL_law_1533 ?_
          obtain ⟨hg392, hJ⟩ := zg_e hJ
          refine zl_sld C hX hb hg392 dL_law_1534 ?_
          refine zr_aload_n C 0 dL_law_1535 rfl ?_
          refine zr_iload_n C 3 dL_law_1536 rfl ?_
          refine zr_iconst C dL_law_1537 (v := (2 : Int32)) (by decide) ?_
          refine zr_iadd C dL_law_1538 ?_
          obtain ⟨hg393, hJ⟩ := zg_e hJ
          refine zl_sld C hX hb hg393 dL_law_1539 ?_
          refine zr_aload_n C 0 dL_law_1540 rfl ?_
          refine zr_iload_n C 3 dL_law_1541 rfl ?_
          refine zr_iconst C dL_law_1542 (v := (3 : Int32)) (by decide) ?_
          refine zr_iadd C dL_law_1543 ?_
          obtain ⟨hg394, hJ⟩ := zg_e hJ
          refine zl_sld C hX hb hg394 dL_law_1544 ?_
          obtain ⟨r395, σ396, hr395, hJ⟩ := zb2_e hJ
          refine zr_callVI C 105 (zk_lt zk_105 (by decide)) (zen_obj zk_105) (rfl : zcl[11]? = some (RX11, TX11, 56)) (M_X11_lay G l hr395) zin_X11_lay zm_47_21 rfl rfl (Nat.le_of_ble_eq_true rfl) ⟨Nat.le_of_ble_eq_true rfl, Nat.le_of_ble_eq_true rfl⟩ ⟨Nat.le_of_ble_eq_true rfl, Nat.le_of_ble_eq_true rfl⟩ dL_law_1545 ?_
          refine zr_icmp_eq C 1639 dL_law_1548 (by decide) (fun hc397 => ?_) (fun hc397 => ?_)
          · have hJ := zif hc397 hJ
            obtain ⟨v398, hv398, hJ⟩ := zlet_e hJ
            refine zr_iinc C v398 3 [(3, .int v398), (0, .ref b), (1, .ref (G.1 + 0)), (2, .ref (G.1 + 105))] dL_law_1639 rfl (hv398.trans (zinc (by decide))) (by decide) rfl ?_
            refine zr_goto C 18 dL_law_1642 (by decide) ?_
            refine zr_sub [1, 2, 3, 0] [(0, .ref b), (1, .ref (G.1 + 0)), (2, .ref (G.1 + 105)), (3, .int v398)] rfl ?_
            exact ih18 _ _ hJ
          · have hJ := zif' hc397 hJ
            refine zr_iconst C dL_law_1551 (v := (0 : Int32)) (by decide) ?_
            exact absurd (zs_e hJ) (by decide)
        have hJ := zif' hs386 hJ
        by_cases hs399 : v3 = (35 : Int32)
        · have hJ := zif hs399 hJ
          refine zr_tin C 1553 dL_law_33 (by rw [hs399]; decide) (by rw [hs399]; decide) (by rw [hs399]; rfl) (by decide) ?_
          refine zr_aload_n C 1 dL_law_1553 rfl ?_
          refine zr_aload_n C 0 dL_law_1554 rfl ?_
          refine zr_iload_n C 3 dL_law_1555 rfl ?_
          refine zr_iconst C dL_law_1556 (v := (1 : Int32)) (by decide) ?_
          refine zr_iadd C dL_law_1557 ?_
          obtain ⟨hg400, hJ⟩ := zg_e hJ
          refine zl_sld C hX hb hg400 dL_law_1558 ?_
          refine zr_aload_n C 0 dL_law_1559 rfl ?_
          refine zr_iload_n C 3 dL_law_1560 rfl ?_
          refine zr_iconst C dL_law_1561 (v := (2 : Int32)) (by decide) ?_
          refine zr_iadd C dL_law_1562 ?_
          obtain ⟨hg401, hJ⟩ := zg_e hJ
          refine zl_sld C hX hb hg401 dL_law_1563 ?_
          refine zr_aload_n C 0 dL_law_1564 rfl ?_
          refine zr_iload_n C 3 dL_law_1565 rfl ?_
          refine zr_iconst C dL_law_1566 (v := (3 : Int32)) (by decide) ?_
          refine zr_iadd C dL_law_1567 ?_
          obtain ⟨hg402, hJ⟩ := zg_e hJ
          refine zl_sld C hX hb hg402 dL_law_1568 ?_
          refine zr_aload_n C 0 dL_law_1569 rfl ?_
          refine zr_iload_n C 3 dL_law_1570 rfl ?_
          refine zr_iconst C dL_law_1571 (v := (4 : Int32)) (by decide) ?_
          refine zr_iadd C dL_law_1572 ?_
          obtain ⟨hg403, hJ⟩ := zg_e hJ
          refine zl_sld C hX hb hg403 dL_law_1573 ?_
          refine zr_aload_n C 0 dL_law_1574 rfl ?_
          refine zr_iload_n C 3 dL_law_1575 rfl ?_
          refine zr_iconst C dL_law_1576 (v := (5 : Int32)) (by decide) ?_
          refine zr_iadd C dL_law_1577 ?_
          obtain ⟨hg404, hJ⟩ := zg_e hJ
          refine zl_sld C hX hb hg404 dL_law_1578 ?_
          obtain ⟨r405, hr405, hJ⟩ := zb_e hJ
          refine zr_callVI C 0 (zk_lt zk_0 (by decide)) (zen_obj zk_0) (rfl : zcl[10]? = some (RX10, TX10, 12)) (M_X10_said G l hr405) zin_X10_said zm_48_1 rfl rfl (Nat.le_of_ble_eq_true rfl) ⟨Nat.le_of_ble_eq_true rfl, Nat.le_of_ble_eq_true rfl⟩ ⟨Nat.le_of_ble_eq_true rfl, Nat.le_of_ble_eq_true rfl⟩ dL_law_1579 ?_
          refine zr_aload_n C 2 dL_law_1582 rfl ?_
          refine zr_aload_n C 0 dL_law_1583 rfl ?_
          refine zr_iload_n C 3 dL_law_1584 rfl ?_
          refine zr_iconst C dL_law_1585 (v := (1 : Int32)) (by decide) ?_
          refine zr_iadd C dL_law_1586 ?_
          obtain ⟨hg406, hJ⟩ := zg_e hJ
          refine zl_sld C hX hb hg406 dL_law_1587 ?_
          refine zr_aload_n C 0 dL_law_1588 rfl ?_
          refine zr_iload_n C 3 dL_law_1589 rfl ?_
          refine zr_iconst C dL_law_1590 (v := (2 : Int32)) (by decide) ?_
          refine zr_iadd C dL_law_1591 ?_
          obtain ⟨hg407, hJ⟩ := zg_e hJ
          refine zl_sld C hX hb hg407 dL_law_1592 ?_
          refine zr_aload_n C 0 dL_law_1593 rfl ?_
          refine zr_iload_n C 3 dL_law_1594 rfl ?_
          refine zr_iconst C dL_law_1595 (v := (3 : Int32)) (by decide) ?_
          refine zr_iadd C dL_law_1596 ?_
          obtain ⟨hg408, hJ⟩ := zg_e hJ
          refine zl_sld C hX hb hg408 dL_law_1597 ?_
          refine zr_aload_n C 0 dL_law_1598 rfl ?_
          refine zr_iload_n C 3 dL_law_1599 rfl ?_
          refine zr_iconst C dL_law_1600 (v := (4 : Int32)) (by decide) ?_
          refine zr_iadd C dL_law_1601 ?_
          obtain ⟨hg409, hJ⟩ := zg_e hJ
          refine zl_sld C hX hb hg409 dL_law_1602 ?_
          refine zr_aload_n C 0 dL_law_1603 rfl ?_
          refine zr_iload_n C 3 dL_law_1604 rfl ?_
          refine zr_iconst C dL_law_1605 (v := (5 : Int32)) (by decide) ?_
          refine zr_iadd C dL_law_1606 ?_
          obtain ⟨hg410, hJ⟩ := zg_e hJ
          refine zl_sld C hX hb hg410 dL_law_1607 ?_
          obtain ⟨r411, hr411, hJ⟩ := zb_e hJ
          refine zr_callVI C 105 (zk_lt zk_105 (by decide)) (zen_obj zk_105) (rfl : zcl[11]? = some (RX11, TX11, 56)) (M_X11_said G l hr411) zin_X11_said zm_48_19 rfl rfl (Nat.le_of_ble_eq_true rfl) ⟨Nat.le_of_ble_eq_true rfl, Nat.le_of_ble_eq_true rfl⟩ ⟨Nat.le_of_ble_eq_true rfl, Nat.le_of_ble_eq_true rfl⟩ dL_law_1608 ?_
          refine zr_icmp_eq C 1639 dL_law_1611 (by decide) (fun hc412 => ?_) (fun hc412 => ?_)
          · have hJ := zif hc412 hJ
            obtain ⟨v413, hv413, hJ⟩ := zlet_e hJ
            refine zr_iinc C v413 3 [(3, .int v413), (0, .ref b), (1, .ref (G.1 + 0)), (2, .ref (G.1 + 105))] dL_law_1639 rfl (hv413.trans (zinc (by decide))) (by decide) rfl ?_
            refine zr_goto C 18 dL_law_1642 (by decide) ?_
            refine zr_sub [1, 2, 3, 0] [(0, .ref b), (1, .ref (G.1 + 0)), (2, .ref (G.1 + 105)), (3, .int v413)] rfl ?_
            exact ih18 _ _ hJ
          · have hJ := zif' hc412 hJ
            refine zr_iconst C dL_law_1614 (v := (0 : Int32)) (by decide) ?_
            exact absurd (zs_e hJ) (by decide)
        have hJ := zif' hs399 hJ
        by_cases hs414 : v3 = (36 : Int32)
        · have hJ := zif hs414 hJ
          refine zr_tin C 1616 dL_law_33 (by rw [hs414]; decide) (by rw [hs414]; decide) (by rw [hs414]; rfl) (by decide) ?_
          refine zr_aload_n C 1 dL_law_1616 rfl ?_
          refine zr_aload_n C 0 dL_law_1617 rfl ?_
          refine zr_iload_n C 3 dL_law_1618 rfl ?_
          refine zr_iconst C dL_law_1619 (v := (1 : Int32)) (by decide) ?_
          refine zr_iadd C dL_law_1620 ?_
          obtain ⟨hg415, hJ⟩ := zg_e hJ
          refine zl_sld C hX hb hg415 dL_law_1621 ?_
          obtain ⟨r416, hr416, hJ⟩ := zb_e hJ
          refine zr_callVI C 0 (zk_lt zk_0 (by decide)) (zen_obj zk_0) (rfl : zcl[10]? = some (RX10, TX10, 12)) (M_X10_count G l hr416) zin_X10_count zm_48_23 rfl rfl (Nat.le_of_ble_eq_true rfl) ⟨Nat.le_of_ble_eq_true rfl, Nat.le_of_ble_eq_true rfl⟩ ⟨Nat.le_of_ble_eq_true rfl, Nat.le_of_ble_eq_true rfl⟩ dL_law_1622 ?_
          refine zr_aload_n C 2 dL_law_1625 rfl ?_
          refine zr_aload_n C 0 dL_law_1626 rfl ?_
          refine zr_iload_n C 3 dL_law_1627 rfl ?_
          refine zr_iconst C dL_law_1628 (v := (1 : Int32)) (by decide) ?_
          refine zr_iadd C dL_law_1629 ?_
          obtain ⟨hg417, hJ⟩ := zg_e hJ
          refine zl_sld C hX hb hg417 dL_law_1630 ?_
          obtain ⟨r418, hr418, hJ⟩ := zb_e hJ
          refine zr_callVI C 105 (zk_lt zk_105 (by decide)) (zen_obj zk_105) (rfl : zcl[11]? = some (RX11, TX11, 56)) (M_X11_count G l hr418) zin_X11_count zm_49_5 rfl rfl (Nat.le_of_ble_eq_true rfl) ⟨Nat.le_of_ble_eq_true rfl, Nat.le_of_ble_eq_true rfl⟩ ⟨Nat.le_of_ble_eq_true rfl, Nat.le_of_ble_eq_true rfl⟩ dL_law_1631 ?_
          refine zr_icmp_eq C 1639 dL_law_1634 (by decide) (fun hc419 => ?_) (fun hc419 => ?_)
          · have hJ := zif hc419 hJ
            obtain ⟨v420, hv420, hJ⟩ := zlet_e hJ
            refine zr_iinc C v420 3 [(3, .int v420), (0, .ref b), (1, .ref (G.1 + 0)), (2, .ref (G.1 + 105))] dL_law_1639 rfl (hv420.trans (zinc (by decide))) (by decide) rfl ?_
            refine zr_goto C 18 dL_law_1642 (by decide) ?_
            refine zr_sub [1, 2, 3, 0] [(0, .ref b), (1, .ref (G.1 + 0)), (2, .ref (G.1 + 105)), (3, .int v420)] rfl ?_
            exact ih18 _ _ hJ
          · have hJ := zif' hc419 hJ
            refine zr_iconst C dL_law_1637 (v := (0 : Int32)) (by decide) ?_
            exact absurd (zs_e hJ) (by decide)
        have hJ := zif' hs414 hJ
        refine zr_tout C 1639 dL_law_33 (by have ghs4 := lv_neT hs4 (show ((0 : Int32)).toInt = 0 by decide); have ghs15 := lv_neT hs15 (show ((1 : Int32)).toInt = 1 by decide); have ghs24 := lv_neT hs24 (show ((2 : Int32)).toInt = 2 by decide); have ghs31 := lv_neT hs31 (show ((3 : Int32)).toInt = 3 by decide); have ghs36 := lv_neT hs36 (show ((4 : Int32)).toInt = 4 by decide); have ghs45 := lv_neT hs45 (show ((5 : Int32)).toInt = 5 by decide); have ghs52 := lv_neT hs52 (show ((6 : Int32)).toInt = 6 by decide); have ghs59 := lv_neT hs59 (show ((7 : Int32)).toInt = 7 by decide); have ghs72 := lv_neT hs72 (show ((8 : Int32)).toInt = 8 by decide); have ghs81 := lv_neT hs81 (show ((9 : Int32)).toInt = 9 by decide); have ghs92 := lv_neT hs92 (show ((10 : Int32)).toInt = 10 by decide); have ghs103 := lv_neT hs103 (show ((11 : Int32)).toInt = 11 by decide); have ghs110 := lv_neT hs110 (show ((12 : Int32)).toInt = 12 by decide); have ghs119 := lv_neT hs119 (show ((13 : Int32)).toInt = 13 by decide); have ghs128 := lv_neT hs128 (show ((14 : Int32)).toInt = 14 by decide); have ghs139 := lv_neT hs139 (show ((15 : Int32)).toInt = 15 by decide); have ghs150 := lv_neT hs150 (show ((16 : Int32)).toInt = 16 by decide); have ghs157 := lv_neT hs157 (show ((17 : Int32)).toInt = 17 by decide); have ghs166 := lv_neT hs166 (show ((18 : Int32)).toInt = 18 by decide); have ghs177 := lv_neT hs177 (show ((19 : Int32)).toInt = 19 by decide); have ghs192 := lv_neT hs192 (show ((20 : Int32)).toInt = 20 by decide); have ghs207 := lv_neT hs207 (show ((21 : Int32)).toInt = 21 by decide); have ghs222 := lv_neT hs222 (show ((22 : Int32)).toInt = 22 by decide); have ghs239 := lv_neT hs239 (show ((23 : Int32)).toInt = 23 by decide); have ghs256 := lv_neT hs256 (show ((24 : Int32)).toInt = 24 by decide); have ghs273 := lv_neT hs273 (show ((25 : Int32)).toInt = 25 by decide); have ghs288 := lv_neT hs288 (show ((26 : Int32)).toInt = 26 by decide); have ghs302 := lv_neT hs302 (show ((27 : Int32)).toInt = 27 by decide); have ghs315 := lv_neT hs315 (show ((28 : Int32)).toInt = 28 by decide); have ghs330 := lv_neT hs330 (show ((29 : Int32)).toInt = 29 by decide); have ghs341 := lv_neT hs341 (show ((30 : Int32)).toInt = 30 by decide); have ghs354 := lv_neT hs354 (show ((31 : Int32)).toInt = 31 by decide); have ghs361 := lv_neT hs361 (show ((32 : Int32)).toInt = 32 by decide); have ghs373 := lv_neT hs373 (show ((33 : Int32)).toInt = 33 by decide); have ghs386 := lv_neT hs386 (show ((34 : Int32)).toInt = 34 by decide); have ghs399 := lv_neT hs399 (show ((35 : Int32)).toInt = 35 by decide); have ghs414 := lv_neT hs414 (show ((36 : Int32)).toInt = 36 by decide); omega) (by decide) ?_
        obtain ⟨v421, hv421, hJ⟩ := zlet_e hJ
        refine zr_iinc C v421 3 [(3, .int v421), (0, .ref b), (1, .ref (G.1 + 0)), (2, .ref (G.1 + 105))] dL_law_1639 rfl (hv421.trans (zinc (by decide))) (by decide) rfl ?_
        refine zr_goto C 18 dL_law_1642 (by decide) ?_
        refine zr_sub [1, 2, 3, 0] [(0, .ref b), (1, .ref (G.1 + 0)), (2, .ref (G.1 + 105)), (3, .int v421)] rfl ?_
        exact ih18 _ _ hJ
  refine zr_sub [3, 2, 1, 0] [(0, .ref b), (1, .ref (G.1 + 0)), (2, .ref (G.1 + 105)), (3, .int w)] rfl ?_
  exact hl18 _ _ _ hJ
