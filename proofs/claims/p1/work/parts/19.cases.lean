
/-! THE CLAIM OUT OF ONE WALK OF THE LAW'S BODY. Your part is whole_start (and what it stands on); all else here is the same for every law, but numbers. -/
def R_law : String := "LeftTurnsLaw"
def lw_P (b : Addr) (xs : List Int32) (args : Array Value) (s : State) : Prop := args = #[.ref b] ∧ s.IntsAt b xs ∧ xs.length ≤ 6 ∧ (Jvm.Cond.and given_1 narrow_1).before args s = true
def lw_Q (_ : Array Value) (s : State) (o : Outcome) (t : State) : Prop := o = .returned (some (.int 1)) ∧ Framed s o t [] 600000 7302250
def lw_Z (below : List Frame) (a : Array Value) (s : State) : State → Prop := fun t => ∃ o, t.status = .running ∧ Ended t below o ∧ lw_Q a s o t
/-- the law's own end, with 1 on the stack, nothing written that was there before, its room as the claim has it -/
theorem lw_ret {p : Program} {l : Launch} {e : Env} {s : State} {m : MethodId} {below : List Frame} {meth : Method} {c : Code} {b : Nat} (hx : p.tables.exec = Jvm.exec) (hb : c.code = code) (hr : meth.sig.returnType = ret) (hlocks : meth.locks = false) {pc : Nat} {H : Heap} {ls : Array Slot} (hdg : decode code pc = .ok (.ireturn, 1)) : W p l e room_1 s m #[Value.ref b] below meth c H [] 600000 7302250 (lw_Z below #[Value.ref b] s) (F0 m pc ls [.int 1]) := by
  intro T hT X
  obtain ⟨fs, hret, hrun, hended, hW, hframe⟩ := X.leave (v := some (.int 1)) (hlocks := hlocks) (fun h => by rw [hr] at h; cases h)
  have hmeth' : T.vm.method? m = some meth := X.method'
  refine ⟨T.setFrames fs, ?_, .returned (some (.int 1)), hrun, hended, rfl, ⟨_, rfl⟩, hW, hframe⟩
  jvm_step X.here [X.here.top, hx, hb, hdg, hmeth', hr, ret, narrow_b1]
  (try refine ⟨rfl, ?_⟩); (try refine ⟨rfl, ?_⟩)
  first | (intro acts; rw [hret _ acts rfl rfl rfl]) | rw [hret _ _ rfl rfl rfl]
  exact Steps.refl _
/-- what holds at the law's entry: the machine, the code, the tables' words (any of lw_tbl by 'hts w (by decide +kernel)'), the script of L ints xs at the cell b, what the Statement gives of the start (any of its parts by flat_of_before) -/
def lw_At (p : Program) (s : State) (m : MethodId) (meth : Method) (c : Code) (b L : Nat) (xs : Nat → Int32) : Prop :=
  p.tables.exec = Jvm.exec ∧ c.code = code ∧ meth.sig.returnType = ret ∧ c.maxLocals = 4 ∧ s.vm.findClass R_law = some m.cls ∧ (∀ w ∈ lw_tbl, w.before #[Value.ref b] s = true) ∧ va_X b L xs s s.heap ∧ b < s.heap.size ∧ meth.locks = false ∧ (Jvm.Cond.and given_1 narrow_1).before #[Value.ref b] s = true

theorem dL_law_18 : decode cL_law 18 = .ok (.iload_n 3, 1) := by decide +kernel
theorem dL_law_19 : decode cL_law 19 = .ok (.aload_n 0, 1) := by decide +kernel
theorem dL_law_20 : decode cL_law 20 = .ok (.arraylength, 1) := by decide +kernel
theorem dL_law_21 : decode cL_law 21 = .ok (.bipush 6, 2) := by decide +kernel
theorem dL_law_23 : decode cL_law 23 = .ok (.isub, 1) := by decide +kernel
theorem dL_law_24 : decode cL_law 24 = .ok (.if_icmp .gt 1709, 3) := by decide +kernel
theorem dL_law_212 : decode cL_law 212 = .ok (.aload_n 1, 1) := by decide +kernel
theorem dL_law_213 : decode cL_law 213 = .ok (.aload_n 0, 1) := by decide +kernel
theorem dL_law_214 : decode cL_law 214 = .ok (.iload_n 3, 1) := by decide +kernel
theorem dL_law_215 : decode cL_law 215 = .ok (.iconst 1, 1) := by decide +kernel
theorem dL_law_216 : decode cL_law 216 = .ok (.iadd, 1) := by decide +kernel
theorem dL_law_217 : decode cL_law 217 = .ok (.iaload, 1) := by decide +kernel
theorem dL_law_218 : decode cL_law 218 = .ok (.aload_n 0, 1) := by decide +kernel
theorem dL_law_219 : decode cL_law 219 = .ok (.iload_n 3, 1) := by decide +kernel
theorem dL_law_220 : decode cL_law 220 = .ok (.iconst 2, 1) := by decide +kernel
theorem dL_law_221 : decode cL_law 221 = .ok (.iadd, 1) := by decide +kernel
theorem dL_law_222 : decode cL_law 222 = .ok (.iaload, 1) := by decide +kernel
theorem dL_law_223 : decode cL_law 223 = .ok (.aload_n 0, 1) := by decide +kernel
theorem dL_law_224 : decode cL_law 224 = .ok (.iload_n 3, 1) := by decide +kernel
theorem dL_law_225 : decode cL_law 225 = .ok (.iconst 3, 1) := by decide +kernel
theorem dL_law_226 : decode cL_law 226 = .ok (.iadd, 1) := by decide +kernel
theorem dL_law_227 : decode cL_law 227 = .ok (.iaload, 1) := by decide +kernel
theorem dL_law_228 : decode cL_law 228 = .ok (.aload_n 0, 1) := by decide +kernel
theorem dL_law_229 : decode cL_law 229 = .ok (.iload_n 3, 1) := by decide +kernel
theorem dL_law_230 : decode cL_law 230 = .ok (.iconst 4, 1) := by decide +kernel
theorem dL_law_231 : decode cL_law 231 = .ok (.iadd, 1) := by decide +kernel
theorem dL_law_232 : decode cL_law 232 = .ok (.iaload, 1) := by decide +kernel
theorem dL_law_233 : decode cL_law 233 = .ok (.aload_n 0, 1) := by decide +kernel
theorem dL_law_234 : decode cL_law 234 = .ok (.iload_n 3, 1) := by decide +kernel
theorem dL_law_235 : decode cL_law 235 = .ok (.iconst 5, 1) := by decide +kernel
theorem dL_law_236 : decode cL_law 236 = .ok (.iadd, 1) := by decide +kernel
theorem dL_law_237 : decode cL_law 237 = .ok (.iaload, 1) := by decide +kernel
theorem dL_law_238 : decode cL_law 238 = .ok (.invokevirtual 13, 3) := by decide +kernel
theorem dL_law_241 : decode cL_law 241 = .ok (.aload_n 2, 1) := by decide +kernel
theorem dL_law_242 : decode cL_law 242 = .ok (.aload_n 0, 1) := by decide +kernel
theorem dL_law_243 : decode cL_law 243 = .ok (.iload_n 3, 1) := by decide +kernel
theorem dL_law_244 : decode cL_law 244 = .ok (.iconst 1, 1) := by decide +kernel
theorem dL_law_245 : decode cL_law 245 = .ok (.iadd, 1) := by decide +kernel
theorem dL_law_246 : decode cL_law 246 = .ok (.iaload, 1) := by decide +kernel
theorem dL_law_247 : decode cL_law 247 = .ok (.aload_n 0, 1) := by decide +kernel
theorem dL_law_248 : decode cL_law 248 = .ok (.iload_n 3, 1) := by decide +kernel
theorem dL_law_249 : decode cL_law 249 = .ok (.iconst 2, 1) := by decide +kernel
theorem dL_law_250 : decode cL_law 250 = .ok (.iadd, 1) := by decide +kernel
theorem dL_law_251 : decode cL_law 251 = .ok (.iaload, 1) := by decide +kernel
theorem dL_law_252 : decode cL_law 252 = .ok (.aload_n 0, 1) := by decide +kernel
theorem dL_law_253 : decode cL_law 253 = .ok (.iload_n 3, 1) := by decide +kernel
theorem dL_law_254 : decode cL_law 254 = .ok (.iconst 3, 1) := by decide +kernel
theorem dL_law_255 : decode cL_law 255 = .ok (.iadd, 1) := by decide +kernel
theorem dL_law_256 : decode cL_law 256 = .ok (.iaload, 1) := by decide +kernel
theorem dL_law_257 : decode cL_law 257 = .ok (.aload_n 0, 1) := by decide +kernel
theorem dL_law_258 : decode cL_law 258 = .ok (.iload_n 3, 1) := by decide +kernel
theorem dL_law_259 : decode cL_law 259 = .ok (.iconst 4, 1) := by decide +kernel
theorem dL_law_260 : decode cL_law 260 = .ok (.iadd, 1) := by decide +kernel
theorem dL_law_261 : decode cL_law 261 = .ok (.iaload, 1) := by decide +kernel
theorem dL_law_262 : decode cL_law 262 = .ok (.aload_n 0, 1) := by decide +kernel
theorem dL_law_263 : decode cL_law 263 = .ok (.iload_n 3, 1) := by decide +kernel
theorem dL_law_264 : decode cL_law 264 = .ok (.iconst 5, 1) := by decide +kernel
theorem dL_law_265 : decode cL_law 265 = .ok (.iadd, 1) := by decide +kernel
theorem dL_law_266 : decode cL_law 266 = .ok (.iaload, 1) := by decide +kernel
theorem dL_law_267 : decode cL_law 267 = .ok (.invokevirtual 17, 3) := by decide +kernel
theorem dL_law_270 : decode cL_law 270 = .ok (.if_icmp .eq 1457, 3) := by decide +kernel
theorem dL_law_275 : decode cL_law 275 = .ok (.aload_n 1, 1) := by decide +kernel
theorem dL_law_276 : decode cL_law 276 = .ok (.aload_n 0, 1) := by decide +kernel
theorem dL_law_277 : decode cL_law 277 = .ok (.iload_n 3, 1) := by decide +kernel
theorem dL_law_278 : decode cL_law 278 = .ok (.iconst 1, 1) := by decide +kernel
theorem dL_law_279 : decode cL_law 279 = .ok (.iadd, 1) := by decide +kernel
theorem dL_law_280 : decode cL_law 280 = .ok (.iaload, 1) := by decide +kernel
theorem dL_law_281 : decode cL_law 281 = .ok (.invokevirtual 18, 3) := by decide +kernel
theorem dL_law_284 : decode cL_law 284 = .ok (.aload_n 2, 1) := by decide +kernel
theorem dL_law_285 : decode cL_law 285 = .ok (.aload_n 0, 1) := by decide +kernel
theorem dL_law_286 : decode cL_law 286 = .ok (.iload_n 3, 1) := by decide +kernel
theorem dL_law_287 : decode cL_law 287 = .ok (.iconst 1, 1) := by decide +kernel
theorem dL_law_288 : decode cL_law 288 = .ok (.iadd, 1) := by decide +kernel
theorem dL_law_289 : decode cL_law 289 = .ok (.iaload, 1) := by decide +kernel
theorem dL_law_290 : decode cL_law 290 = .ok (.invokevirtual 22, 3) := by decide +kernel
theorem dL_law_293 : decode cL_law 293 = .ok (.if_icmp .eq 1434, 3) := by decide +kernel
theorem dL_law_298 : decode cL_law 298 = .ok (.aload_n 1, 1) := by decide +kernel
theorem dL_law_299 : decode cL_law 299 = .ok (.aload_n 0, 1) := by decide +kernel
theorem dL_law_300 : decode cL_law 300 = .ok (.iload_n 3, 1) := by decide +kernel
theorem dL_law_301 : decode cL_law 301 = .ok (.iconst 1, 1) := by decide +kernel
theorem dL_law_302 : decode cL_law 302 = .ok (.iadd, 1) := by decide +kernel
theorem dL_law_303 : decode cL_law 303 = .ok (.iaload, 1) := by decide +kernel
theorem dL_law_304 : decode cL_law 304 = .ok (.invokevirtual 23, 3) := by decide +kernel
theorem dL_law_307 : decode cL_law 307 = .ok (.aload_n 2, 1) := by decide +kernel
theorem dL_law_308 : decode cL_law 308 = .ok (.aload_n 0, 1) := by decide +kernel
theorem dL_law_309 : decode cL_law 309 = .ok (.iload_n 3, 1) := by decide +kernel
theorem dL_law_310 : decode cL_law 310 = .ok (.iconst 1, 1) := by decide +kernel
theorem dL_law_311 : decode cL_law 311 = .ok (.iadd, 1) := by decide +kernel
theorem dL_law_312 : decode cL_law 312 = .ok (.iaload, 1) := by decide +kernel
theorem dL_law_313 : decode cL_law 313 = .ok (.invokevirtual 26, 3) := by decide +kernel
theorem dL_law_316 : decode cL_law 316 = .ok (.if_icmp .eq 1411, 3) := by decide +kernel
theorem dL_law_321 : decode cL_law 321 = .ok (.aload_n 1, 1) := by decide +kernel
theorem dL_law_322 : decode cL_law 322 = .ok (.aload_n 0, 1) := by decide +kernel
theorem dL_law_323 : decode cL_law 323 = .ok (.iload_n 3, 1) := by decide +kernel
theorem dL_law_324 : decode cL_law 324 = .ok (.iconst 1, 1) := by decide +kernel
theorem dL_law_325 : decode cL_law 325 = .ok (.iadd, 1) := by decide +kernel
theorem dL_law_326 : decode cL_law 326 = .ok (.iaload, 1) := by decide +kernel
theorem dL_law_327 : decode cL_law 327 = .ok (.aload_n 0, 1) := by decide +kernel
theorem dL_law_328 : decode cL_law 328 = .ok (.iload_n 3, 1) := by decide +kernel
theorem dL_law_329 : decode cL_law 329 = .ok (.iconst 2, 1) := by decide +kernel
theorem dL_law_330 : decode cL_law 330 = .ok (.iadd, 1) := by decide +kernel
theorem dL_law_331 : decode cL_law 331 = .ok (.iaload, 1) := by decide +kernel
theorem dL_law_332 : decode cL_law 332 = .ok (.invokevirtual 27, 3) := by decide +kernel
theorem dL_law_335 : decode cL_law 335 = .ok (.aload_n 2, 1) := by decide +kernel
theorem dL_law_336 : decode cL_law 336 = .ok (.aload_n 0, 1) := by decide +kernel
theorem dL_law_337 : decode cL_law 337 = .ok (.iload_n 3, 1) := by decide +kernel
theorem dL_law_338 : decode cL_law 338 = .ok (.iconst 1, 1) := by decide +kernel
theorem dL_law_339 : decode cL_law 339 = .ok (.iadd, 1) := by decide +kernel
theorem dL_law_340 : decode cL_law 340 = .ok (.iaload, 1) := by decide +kernel
theorem dL_law_341 : decode cL_law 341 = .ok (.aload_n 0, 1) := by decide +kernel
theorem dL_law_342 : decode cL_law 342 = .ok (.iload_n 3, 1) := by decide +kernel
theorem dL_law_343 : decode cL_law 343 = .ok (.iconst 2, 1) := by decide +kernel
theorem dL_law_344 : decode cL_law 344 = .ok (.iadd, 1) := by decide +kernel
theorem dL_law_345 : decode cL_law 345 = .ok (.iaload, 1) := by decide +kernel
theorem dL_law_346 : decode cL_law 346 = .ok (.invokevirtual 31, 3) := by decide +kernel
theorem dL_law_349 : decode cL_law 349 = .ok (.if_icmp .eq 1378, 3) := by decide +kernel
theorem dL_law_354 : decode cL_law 354 = .ok (.aload_n 1, 1) := by decide +kernel
theorem dL_law_355 : decode cL_law 355 = .ok (.aload_n 0, 1) := by decide +kernel
theorem dL_law_356 : decode cL_law 356 = .ok (.iload_n 3, 1) := by decide +kernel
theorem dL_law_357 : decode cL_law 357 = .ok (.iconst 1, 1) := by decide +kernel
theorem dL_law_358 : decode cL_law 358 = .ok (.iadd, 1) := by decide +kernel
theorem dL_law_359 : decode cL_law 359 = .ok (.iaload, 1) := by decide +kernel
theorem dL_law_360 : decode cL_law 360 = .ok (.aload_n 0, 1) := by decide +kernel
theorem dL_law_361 : decode cL_law 361 = .ok (.iload_n 3, 1) := by decide +kernel
theorem dL_law_362 : decode cL_law 362 = .ok (.iconst 2, 1) := by decide +kernel
theorem dL_law_363 : decode cL_law 363 = .ok (.iadd, 1) := by decide +kernel
theorem dL_law_364 : decode cL_law 364 = .ok (.iaload, 1) := by decide +kernel
theorem dL_law_365 : decode cL_law 365 = .ok (.invokevirtual 32, 3) := by decide +kernel
theorem dL_law_368 : decode cL_law 368 = .ok (.aload_n 2, 1) := by decide +kernel
theorem dL_law_369 : decode cL_law 369 = .ok (.aload_n 0, 1) := by decide +kernel
theorem dL_law_370 : decode cL_law 370 = .ok (.iload_n 3, 1) := by decide +kernel
theorem dL_law_371 : decode cL_law 371 = .ok (.iconst 1, 1) := by decide +kernel
theorem dL_law_372 : decode cL_law 372 = .ok (.iadd, 1) := by decide +kernel
theorem dL_law_373 : decode cL_law 373 = .ok (.iaload, 1) := by decide +kernel
theorem dL_law_374 : decode cL_law 374 = .ok (.aload_n 0, 1) := by decide +kernel
theorem dL_law_375 : decode cL_law 375 = .ok (.iload_n 3, 1) := by decide +kernel
theorem dL_law_376 : decode cL_law 376 = .ok (.iconst 2, 1) := by decide +kernel
theorem dL_law_377 : decode cL_law 377 = .ok (.iadd, 1) := by decide +kernel
theorem dL_law_378 : decode cL_law 378 = .ok (.iaload, 1) := by decide +kernel
theorem dL_law_379 : decode cL_law 379 = .ok (.invokevirtual 35, 3) := by decide +kernel
theorem dL_law_382 : decode cL_law 382 = .ok (.if_icmp .eq 1345, 3) := by decide +kernel
theorem dL_law_387 : decode cL_law 387 = .ok (.aload_n 1, 1) := by decide +kernel
theorem dL_law_388 : decode cL_law 388 = .ok (.aload_n 0, 1) := by decide +kernel
theorem dL_law_389 : decode cL_law 389 = .ok (.iload_n 3, 1) := by decide +kernel
theorem dL_law_390 : decode cL_law 390 = .ok (.iconst 1, 1) := by decide +kernel
theorem dL_law_391 : decode cL_law 391 = .ok (.iadd, 1) := by decide +kernel
theorem dL_law_392 : decode cL_law 392 = .ok (.iaload, 1) := by decide +kernel
theorem dL_law_393 : decode cL_law 393 = .ok (.aload_n 0, 1) := by decide +kernel
theorem dL_law_394 : decode cL_law 394 = .ok (.iload_n 3, 1) := by decide +kernel
theorem dL_law_395 : decode cL_law 395 = .ok (.iconst 2, 1) := by decide +kernel
theorem dL_law_396 : decode cL_law 396 = .ok (.iadd, 1) := by decide +kernel
theorem dL_law_397 : decode cL_law 397 = .ok (.iaload, 1) := by decide +kernel
theorem dL_law_398 : decode cL_law 398 = .ok (.invokevirtual 36, 3) := by decide +kernel
theorem dL_law_401 : decode cL_law 401 = .ok (.aload_n 2, 1) := by decide +kernel
theorem dL_law_402 : decode cL_law 402 = .ok (.aload_n 0, 1) := by decide +kernel
theorem dL_law_403 : decode cL_law 403 = .ok (.iload_n 3, 1) := by decide +kernel
theorem dL_law_404 : decode cL_law 404 = .ok (.iconst 1, 1) := by decide +kernel
theorem dL_law_405 : decode cL_law 405 = .ok (.iadd, 1) := by decide +kernel
theorem dL_law_406 : decode cL_law 406 = .ok (.iaload, 1) := by decide +kernel
theorem dL_law_407 : decode cL_law 407 = .ok (.aload_n 0, 1) := by decide +kernel
theorem dL_law_408 : decode cL_law 408 = .ok (.iload_n 3, 1) := by decide +kernel
theorem dL_law_409 : decode cL_law 409 = .ok (.iconst 2, 1) := by decide +kernel
theorem dL_law_410 : decode cL_law 410 = .ok (.iadd, 1) := by decide +kernel
theorem dL_law_411 : decode cL_law 411 = .ok (.iaload, 1) := by decide +kernel
theorem dL_law_412 : decode cL_law 412 = .ok (.invokevirtual 39, 3) := by decide +kernel
theorem dL_law_415 : decode cL_law 415 = .ok (.if_icmp .eq 1312, 3) := by decide +kernel
theorem dL_law_420 : decode cL_law 420 = .ok (.aload_n 1, 1) := by decide +kernel
theorem dL_law_421 : decode cL_law 421 = .ok (.aload_n 0, 1) := by decide +kernel
theorem dL_law_422 : decode cL_law 422 = .ok (.iload_n 3, 1) := by decide +kernel
theorem dL_law_423 : decode cL_law 423 = .ok (.iconst 1, 1) := by decide +kernel
theorem dL_law_424 : decode cL_law 424 = .ok (.iadd, 1) := by decide +kernel
theorem dL_law_425 : decode cL_law 425 = .ok (.iaload, 1) := by decide +kernel
theorem dL_law_426 : decode cL_law 426 = .ok (.aload_n 0, 1) := by decide +kernel
theorem dL_law_427 : decode cL_law 427 = .ok (.iload_n 3, 1) := by decide +kernel
theorem dL_law_428 : decode cL_law 428 = .ok (.iconst 2, 1) := by decide +kernel
theorem dL_law_429 : decode cL_law 429 = .ok (.iadd, 1) := by decide +kernel
theorem dL_law_430 : decode cL_law 430 = .ok (.iaload, 1) := by decide +kernel
theorem dL_law_431 : decode cL_law 431 = .ok (.aload_n 0, 1) := by decide +kernel
theorem dL_law_432 : decode cL_law 432 = .ok (.iload_n 3, 1) := by decide +kernel
theorem dL_law_433 : decode cL_law 433 = .ok (.iconst 3, 1) := by decide +kernel
theorem dL_law_434 : decode cL_law 434 = .ok (.iadd, 1) := by decide +kernel
theorem dL_law_435 : decode cL_law 435 = .ok (.iaload, 1) := by decide +kernel
theorem dL_law_436 : decode cL_law 436 = .ok (.invokevirtual 40, 3) := by decide +kernel
theorem dL_law_439 : decode cL_law 439 = .ok (.aload_n 2, 1) := by decide +kernel
theorem dL_law_440 : decode cL_law 440 = .ok (.aload_n 0, 1) := by decide +kernel
theorem dL_law_441 : decode cL_law 441 = .ok (.iload_n 3, 1) := by decide +kernel
theorem dL_law_442 : decode cL_law 442 = .ok (.iconst 1, 1) := by decide +kernel
theorem dL_law_443 : decode cL_law 443 = .ok (.iadd, 1) := by decide +kernel
theorem dL_law_444 : decode cL_law 444 = .ok (.iaload, 1) := by decide +kernel
theorem dL_law_445 : decode cL_law 445 = .ok (.aload_n 0, 1) := by decide +kernel
theorem dL_law_446 : decode cL_law 446 = .ok (.iload_n 3, 1) := by decide +kernel
theorem dL_law_447 : decode cL_law 447 = .ok (.iconst 2, 1) := by decide +kernel
theorem dL_law_448 : decode cL_law 448 = .ok (.iadd, 1) := by decide +kernel
theorem dL_law_449 : decode cL_law 449 = .ok (.iaload, 1) := by decide +kernel
theorem dL_law_450 : decode cL_law 450 = .ok (.aload_n 0, 1) := by decide +kernel
theorem dL_law_451 : decode cL_law 451 = .ok (.iload_n 3, 1) := by decide +kernel
theorem dL_law_452 : decode cL_law 452 = .ok (.iconst 3, 1) := by decide +kernel
theorem dL_law_453 : decode cL_law 453 = .ok (.iadd, 1) := by decide +kernel
theorem dL_law_454 : decode cL_law 454 = .ok (.iaload, 1) := by decide +kernel
theorem dL_law_455 : decode cL_law 455 = .ok (.invokevirtual 44, 3) := by decide +kernel
theorem dL_law_458 : decode cL_law 458 = .ok (.if_icmp .eq 1269, 3) := by decide +kernel
theorem dL_law_463 : decode cL_law 463 = .ok (.aload_n 1, 1) := by decide +kernel
theorem dL_law_464 : decode cL_law 464 = .ok (.aload_n 0, 1) := by decide +kernel
theorem dL_law_465 : decode cL_law 465 = .ok (.iload_n 3, 1) := by decide +kernel
theorem dL_law_466 : decode cL_law 466 = .ok (.iconst 1, 1) := by decide +kernel
theorem dL_law_467 : decode cL_law 467 = .ok (.iadd, 1) := by decide +kernel
theorem dL_law_468 : decode cL_law 468 = .ok (.iaload, 1) := by decide +kernel
theorem dL_law_469 : decode cL_law 469 = .ok (.aload_n 0, 1) := by decide +kernel
theorem dL_law_470 : decode cL_law 470 = .ok (.iload_n 3, 1) := by decide +kernel
theorem dL_law_471 : decode cL_law 471 = .ok (.iconst 2, 1) := by decide +kernel
theorem dL_law_472 : decode cL_law 472 = .ok (.iadd, 1) := by decide +kernel
theorem dL_law_473 : decode cL_law 473 = .ok (.iaload, 1) := by decide +kernel
theorem dL_law_474 : decode cL_law 474 = .ok (.invokevirtual 45, 3) := by decide +kernel
theorem dL_law_477 : decode cL_law 477 = .ok (.aload_n 2, 1) := by decide +kernel
theorem dL_law_478 : decode cL_law 478 = .ok (.aload_n 0, 1) := by decide +kernel
theorem dL_law_479 : decode cL_law 479 = .ok (.iload_n 3, 1) := by decide +kernel
theorem dL_law_480 : decode cL_law 480 = .ok (.iconst 1, 1) := by decide +kernel
theorem dL_law_481 : decode cL_law 481 = .ok (.iadd, 1) := by decide +kernel
theorem dL_law_482 : decode cL_law 482 = .ok (.iaload, 1) := by decide +kernel
theorem dL_law_483 : decode cL_law 483 = .ok (.aload_n 0, 1) := by decide +kernel
theorem dL_law_484 : decode cL_law 484 = .ok (.iload_n 3, 1) := by decide +kernel
theorem dL_law_485 : decode cL_law 485 = .ok (.iconst 2, 1) := by decide +kernel
theorem dL_law_486 : decode cL_law 486 = .ok (.iadd, 1) := by decide +kernel
theorem dL_law_487 : decode cL_law 487 = .ok (.iaload, 1) := by decide +kernel
theorem dL_law_488 : decode cL_law 488 = .ok (.invokevirtual 48, 3) := by decide +kernel
theorem dL_law_491 : decode cL_law 491 = .ok (.if_icmp .eq 1236, 3) := by decide +kernel
theorem dL_law_496 : decode cL_law 496 = .ok (.aload_n 1, 1) := by decide +kernel
theorem dL_law_497 : decode cL_law 497 = .ok (.aload_n 0, 1) := by decide +kernel
theorem dL_law_498 : decode cL_law 498 = .ok (.iload_n 3, 1) := by decide +kernel
theorem dL_law_499 : decode cL_law 499 = .ok (.iconst 1, 1) := by decide +kernel
theorem dL_law_500 : decode cL_law 500 = .ok (.iadd, 1) := by decide +kernel
theorem dL_law_501 : decode cL_law 501 = .ok (.iaload, 1) := by decide +kernel
theorem dL_law_502 : decode cL_law 502 = .ok (.aload_n 0, 1) := by decide +kernel
theorem dL_law_503 : decode cL_law 503 = .ok (.iload_n 3, 1) := by decide +kernel
theorem dL_law_504 : decode cL_law 504 = .ok (.iconst 2, 1) := by decide +kernel
theorem dL_law_505 : decode cL_law 505 = .ok (.iadd, 1) := by decide +kernel
theorem dL_law_506 : decode cL_law 506 = .ok (.iaload, 1) := by decide +kernel
theorem dL_law_507 : decode cL_law 507 = .ok (.invokevirtual 49, 3) := by decide +kernel
theorem dL_law_510 : decode cL_law 510 = .ok (.aload_n 2, 1) := by decide +kernel
theorem dL_law_511 : decode cL_law 511 = .ok (.aload_n 0, 1) := by decide +kernel
theorem dL_law_512 : decode cL_law 512 = .ok (.iload_n 3, 1) := by decide +kernel
theorem dL_law_513 : decode cL_law 513 = .ok (.iconst 1, 1) := by decide +kernel
theorem dL_law_514 : decode cL_law 514 = .ok (.iadd, 1) := by decide +kernel
theorem dL_law_515 : decode cL_law 515 = .ok (.iaload, 1) := by decide +kernel
theorem dL_law_516 : decode cL_law 516 = .ok (.aload_n 0, 1) := by decide +kernel
theorem dL_law_517 : decode cL_law 517 = .ok (.iload_n 3, 1) := by decide +kernel
theorem dL_law_518 : decode cL_law 518 = .ok (.iconst 2, 1) := by decide +kernel
theorem dL_law_519 : decode cL_law 519 = .ok (.iadd, 1) := by decide +kernel
theorem dL_law_520 : decode cL_law 520 = .ok (.iaload, 1) := by decide +kernel
theorem dL_law_521 : decode cL_law 521 = .ok (.invokevirtual 52, 3) := by decide +kernel
theorem dL_law_524 : decode cL_law 524 = .ok (.if_icmp .eq 1203, 3) := by decide +kernel
theorem dL_law_529 : decode cL_law 529 = .ok (.aload_n 1, 1) := by decide +kernel
theorem dL_law_530 : decode cL_law 530 = .ok (.aload_n 0, 1) := by decide +kernel
theorem dL_law_531 : decode cL_law 531 = .ok (.iload_n 3, 1) := by decide +kernel
theorem dL_law_532 : decode cL_law 532 = .ok (.iconst 1, 1) := by decide +kernel
theorem dL_law_533 : decode cL_law 533 = .ok (.iadd, 1) := by decide +kernel
theorem dL_law_534 : decode cL_law 534 = .ok (.iaload, 1) := by decide +kernel
theorem dL_law_535 : decode cL_law 535 = .ok (.aload_n 0, 1) := by decide +kernel
theorem dL_law_536 : decode cL_law 536 = .ok (.iload_n 3, 1) := by decide +kernel
theorem dL_law_537 : decode cL_law 537 = .ok (.iconst 2, 1) := by decide +kernel
theorem dL_law_538 : decode cL_law 538 = .ok (.iadd, 1) := by decide +kernel
theorem dL_law_539 : decode cL_law 539 = .ok (.iaload, 1) := by decide +kernel
theorem dL_law_540 : decode cL_law 540 = .ok (.invokevirtual 53, 3) := by decide +kernel
theorem dL_law_543 : decode cL_law 543 = .ok (.aload_n 2, 1) := by decide +kernel
theorem dL_law_544 : decode cL_law 544 = .ok (.aload_n 0, 1) := by decide +kernel
theorem dL_law_545 : decode cL_law 545 = .ok (.iload_n 3, 1) := by decide +kernel
theorem dL_law_546 : decode cL_law 546 = .ok (.iconst 1, 1) := by decide +kernel
theorem dL_law_547 : decode cL_law 547 = .ok (.iadd, 1) := by decide +kernel
theorem dL_law_548 : decode cL_law 548 = .ok (.iaload, 1) := by decide +kernel
theorem dL_law_549 : decode cL_law 549 = .ok (.aload_n 0, 1) := by decide +kernel
theorem dL_law_550 : decode cL_law 550 = .ok (.iload_n 3, 1) := by decide +kernel
theorem dL_law_551 : decode cL_law 551 = .ok (.iconst 2, 1) := by decide +kernel
theorem dL_law_552 : decode cL_law 552 = .ok (.iadd, 1) := by decide +kernel
theorem dL_law_553 : decode cL_law 553 = .ok (.iaload, 1) := by decide +kernel
theorem dL_law_554 : decode cL_law 554 = .ok (.invokevirtual 56, 3) := by decide +kernel
theorem dL_law_557 : decode cL_law 557 = .ok (.if_icmp .eq 1170, 3) := by decide +kernel
theorem dL_law_562 : decode cL_law 562 = .ok (.aload_n 1, 1) := by decide +kernel
theorem dL_law_563 : decode cL_law 563 = .ok (.aload_n 0, 1) := by decide +kernel
theorem dL_law_564 : decode cL_law 564 = .ok (.iload_n 3, 1) := by decide +kernel
theorem dL_law_565 : decode cL_law 565 = .ok (.iconst 1, 1) := by decide +kernel
theorem dL_law_566 : decode cL_law 566 = .ok (.iadd, 1) := by decide +kernel
theorem dL_law_567 : decode cL_law 567 = .ok (.iaload, 1) := by decide +kernel
theorem dL_law_568 : decode cL_law 568 = .ok (.invokevirtual 57, 3) := by decide +kernel
theorem dL_law_571 : decode cL_law 571 = .ok (.aload_n 2, 1) := by decide +kernel
theorem dL_law_572 : decode cL_law 572 = .ok (.aload_n 0, 1) := by decide +kernel
theorem dL_law_573 : decode cL_law 573 = .ok (.iload_n 3, 1) := by decide +kernel
theorem dL_law_574 : decode cL_law 574 = .ok (.iconst 1, 1) := by decide +kernel
theorem dL_law_575 : decode cL_law 575 = .ok (.iadd, 1) := by decide +kernel
theorem dL_law_576 : decode cL_law 576 = .ok (.iaload, 1) := by decide +kernel
theorem dL_law_577 : decode cL_law 577 = .ok (.invokevirtual 60, 3) := by decide +kernel
theorem dL_law_580 : decode cL_law 580 = .ok (.if_icmp .eq 1147, 3) := by decide +kernel
theorem dL_law_585 : decode cL_law 585 = .ok (.aload_n 1, 1) := by decide +kernel
theorem dL_law_586 : decode cL_law 586 = .ok (.aload_n 0, 1) := by decide +kernel
theorem dL_law_587 : decode cL_law 587 = .ok (.iload_n 3, 1) := by decide +kernel
theorem dL_law_588 : decode cL_law 588 = .ok (.iconst 1, 1) := by decide +kernel
theorem dL_law_589 : decode cL_law 589 = .ok (.iadd, 1) := by decide +kernel
theorem dL_law_590 : decode cL_law 590 = .ok (.iaload, 1) := by decide +kernel
theorem dL_law_591 : decode cL_law 591 = .ok (.aload_n 0, 1) := by decide +kernel
theorem dL_law_592 : decode cL_law 592 = .ok (.iload_n 3, 1) := by decide +kernel
theorem dL_law_593 : decode cL_law 593 = .ok (.iconst 2, 1) := by decide +kernel
theorem dL_law_594 : decode cL_law 594 = .ok (.iadd, 1) := by decide +kernel
theorem dL_law_595 : decode cL_law 595 = .ok (.iaload, 1) := by decide +kernel
theorem dL_law_596 : decode cL_law 596 = .ok (.invokevirtual 61, 3) := by decide +kernel
theorem dL_law_599 : decode cL_law 599 = .ok (.aload_n 2, 1) := by decide +kernel
theorem dL_law_600 : decode cL_law 600 = .ok (.aload_n 0, 1) := by decide +kernel
theorem dL_law_601 : decode cL_law 601 = .ok (.iload_n 3, 1) := by decide +kernel
theorem dL_law_602 : decode cL_law 602 = .ok (.iconst 1, 1) := by decide +kernel
theorem dL_law_603 : decode cL_law 603 = .ok (.iadd, 1) := by decide +kernel
theorem dL_law_604 : decode cL_law 604 = .ok (.iaload, 1) := by decide +kernel
theorem dL_law_605 : decode cL_law 605 = .ok (.aload_n 0, 1) := by decide +kernel
theorem dL_law_606 : decode cL_law 606 = .ok (.iload_n 3, 1) := by decide +kernel
theorem dL_law_607 : decode cL_law 607 = .ok (.iconst 2, 1) := by decide +kernel
theorem dL_law_608 : decode cL_law 608 = .ok (.iadd, 1) := by decide +kernel
theorem dL_law_609 : decode cL_law 609 = .ok (.iaload, 1) := by decide +kernel
theorem dL_law_610 : decode cL_law 610 = .ok (.invokevirtual 64, 3) := by decide +kernel
theorem dL_law_613 : decode cL_law 613 = .ok (.if_icmp .eq 1114, 3) := by decide +kernel
theorem dL_law_618 : decode cL_law 618 = .ok (.aload_n 1, 1) := by decide +kernel
theorem dL_law_619 : decode cL_law 619 = .ok (.aload_n 0, 1) := by decide +kernel
theorem dL_law_620 : decode cL_law 620 = .ok (.iload_n 3, 1) := by decide +kernel
theorem dL_law_621 : decode cL_law 621 = .ok (.iconst 1, 1) := by decide +kernel
theorem dL_law_622 : decode cL_law 622 = .ok (.iadd, 1) := by decide +kernel
theorem dL_law_623 : decode cL_law 623 = .ok (.iaload, 1) := by decide +kernel
theorem dL_law_624 : decode cL_law 624 = .ok (.invokevirtual 65, 3) := by decide +kernel
theorem dL_law_627 : decode cL_law 627 = .ok (.aload_n 2, 1) := by decide +kernel
theorem dL_law_628 : decode cL_law 628 = .ok (.aload_n 0, 1) := by decide +kernel
theorem dL_law_629 : decode cL_law 629 = .ok (.iload_n 3, 1) := by decide +kernel
theorem dL_law_630 : decode cL_law 630 = .ok (.iconst 1, 1) := by decide +kernel
theorem dL_law_631 : decode cL_law 631 = .ok (.iadd, 1) := by decide +kernel
theorem dL_law_632 : decode cL_law 632 = .ok (.iaload, 1) := by decide +kernel
theorem dL_law_633 : decode cL_law 633 = .ok (.invokevirtual 68, 3) := by decide +kernel
theorem dL_law_636 : decode cL_law 636 = .ok (.if_icmp .eq 1091, 3) := by decide +kernel
theorem dL_law_641 : decode cL_law 641 = .ok (.aload_n 1, 1) := by decide +kernel
theorem dL_law_642 : decode cL_law 642 = .ok (.aload_n 0, 1) := by decide +kernel
theorem dL_law_643 : decode cL_law 643 = .ok (.iload_n 3, 1) := by decide +kernel
theorem dL_law_644 : decode cL_law 644 = .ok (.iconst 1, 1) := by decide +kernel
theorem dL_law_645 : decode cL_law 645 = .ok (.iadd, 1) := by decide +kernel
theorem dL_law_646 : decode cL_law 646 = .ok (.iaload, 1) := by decide +kernel
theorem dL_law_647 : decode cL_law 647 = .ok (.aload_n 0, 1) := by decide +kernel
theorem dL_law_648 : decode cL_law 648 = .ok (.iload_n 3, 1) := by decide +kernel
theorem dL_law_649 : decode cL_law 649 = .ok (.iconst 2, 1) := by decide +kernel
theorem dL_law_650 : decode cL_law 650 = .ok (.iadd, 1) := by decide +kernel
theorem dL_law_651 : decode cL_law 651 = .ok (.iaload, 1) := by decide +kernel
theorem dL_law_652 : decode cL_law 652 = .ok (.aload_n 0, 1) := by decide +kernel
theorem dL_law_653 : decode cL_law 653 = .ok (.iload_n 3, 1) := by decide +kernel
theorem dL_law_654 : decode cL_law 654 = .ok (.iconst 3, 1) := by decide +kernel
theorem dL_law_655 : decode cL_law 655 = .ok (.iadd, 1) := by decide +kernel
theorem dL_law_656 : decode cL_law 656 = .ok (.iaload, 1) := by decide +kernel
theorem dL_law_657 : decode cL_law 657 = .ok (.invokevirtual 69, 3) := by decide +kernel
theorem dL_law_660 : decode cL_law 660 = .ok (.aload_n 2, 1) := by decide +kernel
theorem dL_law_661 : decode cL_law 661 = .ok (.aload_n 0, 1) := by decide +kernel
theorem dL_law_662 : decode cL_law 662 = .ok (.iload_n 3, 1) := by decide +kernel
theorem dL_law_663 : decode cL_law 663 = .ok (.iconst 1, 1) := by decide +kernel
theorem dL_law_664 : decode cL_law 664 = .ok (.iadd, 1) := by decide +kernel
theorem dL_law_665 : decode cL_law 665 = .ok (.iaload, 1) := by decide +kernel
theorem dL_law_666 : decode cL_law 666 = .ok (.aload_n 0, 1) := by decide +kernel
theorem dL_law_667 : decode cL_law 667 = .ok (.iload_n 3, 1) := by decide +kernel
theorem dL_law_668 : decode cL_law 668 = .ok (.iconst 2, 1) := by decide +kernel
theorem dL_law_669 : decode cL_law 669 = .ok (.iadd, 1) := by decide +kernel
theorem dL_law_670 : decode cL_law 670 = .ok (.iaload, 1) := by decide +kernel
theorem dL_law_671 : decode cL_law 671 = .ok (.aload_n 0, 1) := by decide +kernel
theorem dL_law_672 : decode cL_law 672 = .ok (.iload_n 3, 1) := by decide +kernel
theorem dL_law_673 : decode cL_law 673 = .ok (.iconst 3, 1) := by decide +kernel
theorem dL_law_674 : decode cL_law 674 = .ok (.iadd, 1) := by decide +kernel
theorem dL_law_675 : decode cL_law 675 = .ok (.iaload, 1) := by decide +kernel
theorem dL_law_676 : decode cL_law 676 = .ok (.invokevirtual 72, 3) := by decide +kernel
theorem dL_law_679 : decode cL_law 679 = .ok (.if_icmp .eq 1048, 3) := by decide +kernel
theorem dL_law_684 : decode cL_law 684 = .ok (.aload_n 1, 1) := by decide +kernel
theorem dL_law_685 : decode cL_law 685 = .ok (.aload_n 0, 1) := by decide +kernel
theorem dL_law_686 : decode cL_law 686 = .ok (.iload_n 3, 1) := by decide +kernel
theorem dL_law_687 : decode cL_law 687 = .ok (.iconst 1, 1) := by decide +kernel
theorem dL_law_688 : decode cL_law 688 = .ok (.iadd, 1) := by decide +kernel
theorem dL_law_689 : decode cL_law 689 = .ok (.iaload, 1) := by decide +kernel
theorem dL_law_690 : decode cL_law 690 = .ok (.aload_n 0, 1) := by decide +kernel
theorem dL_law_691 : decode cL_law 691 = .ok (.iload_n 3, 1) := by decide +kernel
theorem dL_law_692 : decode cL_law 692 = .ok (.iconst 2, 1) := by decide +kernel
theorem dL_law_693 : decode cL_law 693 = .ok (.iadd, 1) := by decide +kernel
theorem dL_law_694 : decode cL_law 694 = .ok (.iaload, 1) := by decide +kernel
theorem dL_law_695 : decode cL_law 695 = .ok (.invokevirtual 73, 3) := by decide +kernel
theorem dL_law_698 : decode cL_law 698 = .ok (.aload_n 2, 1) := by decide +kernel
theorem dL_law_699 : decode cL_law 699 = .ok (.aload_n 0, 1) := by decide +kernel
theorem dL_law_700 : decode cL_law 700 = .ok (.iload_n 3, 1) := by decide +kernel
theorem dL_law_701 : decode cL_law 701 = .ok (.iconst 1, 1) := by decide +kernel
theorem dL_law_702 : decode cL_law 702 = .ok (.iadd, 1) := by decide +kernel
theorem dL_law_703 : decode cL_law 703 = .ok (.iaload, 1) := by decide +kernel
theorem dL_law_704 : decode cL_law 704 = .ok (.aload_n 0, 1) := by decide +kernel
theorem dL_law_705 : decode cL_law 705 = .ok (.iload_n 3, 1) := by decide +kernel
theorem dL_law_706 : decode cL_law 706 = .ok (.iconst 2, 1) := by decide +kernel
theorem dL_law_707 : decode cL_law 707 = .ok (.iadd, 1) := by decide +kernel
theorem dL_law_708 : decode cL_law 708 = .ok (.iaload, 1) := by decide +kernel
theorem dL_law_709 : decode cL_law 709 = .ok (.invokevirtual 76, 3) := by decide +kernel
theorem dL_law_712 : decode cL_law 712 = .ok (.if_icmp .eq 1015, 3) := by decide +kernel
theorem dL_law_717 : decode cL_law 717 = .ok (.aload_n 1, 1) := by decide +kernel
theorem dL_law_718 : decode cL_law 718 = .ok (.aload_n 0, 1) := by decide +kernel
theorem dL_law_719 : decode cL_law 719 = .ok (.iload_n 3, 1) := by decide +kernel
theorem dL_law_720 : decode cL_law 720 = .ok (.iconst 1, 1) := by decide +kernel
theorem dL_law_721 : decode cL_law 721 = .ok (.iadd, 1) := by decide +kernel
theorem dL_law_722 : decode cL_law 722 = .ok (.iaload, 1) := by decide +kernel
theorem dL_law_723 : decode cL_law 723 = .ok (.invokevirtual 77, 3) := by decide +kernel
theorem dL_law_726 : decode cL_law 726 = .ok (.aload_n 2, 1) := by decide +kernel
theorem dL_law_727 : decode cL_law 727 = .ok (.aload_n 0, 1) := by decide +kernel
theorem dL_law_728 : decode cL_law 728 = .ok (.iload_n 3, 1) := by decide +kernel
theorem dL_law_729 : decode cL_law 729 = .ok (.iconst 1, 1) := by decide +kernel
theorem dL_law_730 : decode cL_law 730 = .ok (.iadd, 1) := by decide +kernel
theorem dL_law_731 : decode cL_law 731 = .ok (.iaload, 1) := by decide +kernel
theorem dL_law_732 : decode cL_law 732 = .ok (.invokevirtual 80, 3) := by decide +kernel
theorem dL_law_735 : decode cL_law 735 = .ok (.if_icmp .eq 992, 3) := by decide +kernel
theorem dL_law_740 : decode cL_law 740 = .ok (.aload_n 1, 1) := by decide +kernel
theorem dL_law_741 : decode cL_law 741 = .ok (.aload_n 0, 1) := by decide +kernel
theorem dL_law_742 : decode cL_law 742 = .ok (.iload_n 3, 1) := by decide +kernel
theorem dL_law_743 : decode cL_law 743 = .ok (.iconst 1, 1) := by decide +kernel
theorem dL_law_744 : decode cL_law 744 = .ok (.iadd, 1) := by decide +kernel
theorem dL_law_745 : decode cL_law 745 = .ok (.iaload, 1) := by decide +kernel
theorem dL_law_746 : decode cL_law 746 = .ok (.invokevirtual 81, 3) := by decide +kernel
theorem dL_law_749 : decode cL_law 749 = .ok (.aload_n 2, 1) := by decide +kernel
theorem dL_law_750 : decode cL_law 750 = .ok (.aload_n 0, 1) := by decide +kernel
theorem dL_law_751 : decode cL_law 751 = .ok (.iload_n 3, 1) := by decide +kernel
theorem dL_law_752 : decode cL_law 752 = .ok (.iconst 1, 1) := by decide +kernel
theorem dL_law_753 : decode cL_law 753 = .ok (.iadd, 1) := by decide +kernel
theorem dL_law_754 : decode cL_law 754 = .ok (.iaload, 1) := by decide +kernel
theorem dL_law_755 : decode cL_law 755 = .ok (.invokevirtual 84, 3) := by decide +kernel
theorem dL_law_758 : decode cL_law 758 = .ok (.if_icmp .eq 969, 3) := by decide +kernel
theorem dL_law_763 : decode cL_law 763 = .ok (.aload_n 1, 1) := by decide +kernel
theorem dL_law_764 : decode cL_law 764 = .ok (.aload_n 0, 1) := by decide +kernel
theorem dL_law_765 : decode cL_law 765 = .ok (.iload_n 3, 1) := by decide +kernel
theorem dL_law_766 : decode cL_law 766 = .ok (.iconst 1, 1) := by decide +kernel
theorem dL_law_767 : decode cL_law 767 = .ok (.iadd, 1) := by decide +kernel
theorem dL_law_768 : decode cL_law 768 = .ok (.iaload, 1) := by decide +kernel
theorem dL_law_769 : decode cL_law 769 = .ok (.aload_n 0, 1) := by decide +kernel
theorem dL_law_770 : decode cL_law 770 = .ok (.iload_n 3, 1) := by decide +kernel
theorem dL_law_771 : decode cL_law 771 = .ok (.iconst 2, 1) := by decide +kernel
theorem dL_law_772 : decode cL_law 772 = .ok (.iadd, 1) := by decide +kernel
theorem dL_law_773 : decode cL_law 773 = .ok (.iaload, 1) := by decide +kernel
theorem dL_law_774 : decode cL_law 774 = .ok (.invokevirtual 85, 3) := by decide +kernel
theorem dL_law_777 : decode cL_law 777 = .ok (.aload_n 2, 1) := by decide +kernel
theorem dL_law_778 : decode cL_law 778 = .ok (.aload_n 0, 1) := by decide +kernel
theorem dL_law_779 : decode cL_law 779 = .ok (.iload_n 3, 1) := by decide +kernel
theorem dL_law_780 : decode cL_law 780 = .ok (.iconst 1, 1) := by decide +kernel
theorem dL_law_781 : decode cL_law 781 = .ok (.iadd, 1) := by decide +kernel
theorem dL_law_782 : decode cL_law 782 = .ok (.iaload, 1) := by decide +kernel
theorem dL_law_783 : decode cL_law 783 = .ok (.aload_n 0, 1) := by decide +kernel
theorem dL_law_784 : decode cL_law 784 = .ok (.iload_n 3, 1) := by decide +kernel
theorem dL_law_785 : decode cL_law 785 = .ok (.iconst 2, 1) := by decide +kernel
theorem dL_law_786 : decode cL_law 786 = .ok (.iadd, 1) := by decide +kernel
theorem dL_law_787 : decode cL_law 787 = .ok (.iaload, 1) := by decide +kernel
theorem dL_law_788 : decode cL_law 788 = .ok (.invokevirtual 88, 3) := by decide +kernel
theorem dL_law_791 : decode cL_law 791 = .ok (.if_icmp .eq 936, 3) := by decide +kernel
theorem dL_law_796 : decode cL_law 796 = .ok (.aload_n 1, 1) := by decide +kernel
theorem dL_law_797 : decode cL_law 797 = .ok (.aload_n 0, 1) := by decide +kernel
theorem dL_law_798 : decode cL_law 798 = .ok (.iload_n 3, 1) := by decide +kernel
theorem dL_law_799 : decode cL_law 799 = .ok (.iconst 1, 1) := by decide +kernel
theorem dL_law_800 : decode cL_law 800 = .ok (.iadd, 1) := by decide +kernel
theorem dL_law_801 : decode cL_law 801 = .ok (.iaload, 1) := by decide +kernel
theorem dL_law_802 : decode cL_law 802 = .ok (.aload_n 0, 1) := by decide +kernel
theorem dL_law_803 : decode cL_law 803 = .ok (.iload_n 3, 1) := by decide +kernel
theorem dL_law_804 : decode cL_law 804 = .ok (.iconst 2, 1) := by decide +kernel
theorem dL_law_805 : decode cL_law 805 = .ok (.iadd, 1) := by decide +kernel
theorem dL_law_806 : decode cL_law 806 = .ok (.iaload, 1) := by decide +kernel
theorem dL_law_807 : decode cL_law 807 = .ok (.aload_n 0, 1) := by decide +kernel
theorem dL_law_808 : decode cL_law 808 = .ok (.iload_n 3, 1) := by decide +kernel
theorem dL_law_809 : decode cL_law 809 = .ok (.iconst 3, 1) := by decide +kernel
theorem dL_law_810 : decode cL_law 810 = .ok (.iadd, 1) := by decide +kernel
theorem dL_law_811 : decode cL_law 811 = .ok (.iaload, 1) := by decide +kernel
theorem dL_law_812 : decode cL_law 812 = .ok (.invokevirtual 89, 3) := by decide +kernel
theorem dL_law_815 : decode cL_law 815 = .ok (.aload_n 2, 1) := by decide +kernel
theorem dL_law_816 : decode cL_law 816 = .ok (.aload_n 0, 1) := by decide +kernel
theorem dL_law_817 : decode cL_law 817 = .ok (.iload_n 3, 1) := by decide +kernel
theorem dL_law_818 : decode cL_law 818 = .ok (.iconst 1, 1) := by decide +kernel
theorem dL_law_819 : decode cL_law 819 = .ok (.iadd, 1) := by decide +kernel
theorem dL_law_820 : decode cL_law 820 = .ok (.iaload, 1) := by decide +kernel
theorem dL_law_821 : decode cL_law 821 = .ok (.aload_n 0, 1) := by decide +kernel
theorem dL_law_822 : decode cL_law 822 = .ok (.iload_n 3, 1) := by decide +kernel
theorem dL_law_823 : decode cL_law 823 = .ok (.iconst 2, 1) := by decide +kernel
theorem dL_law_824 : decode cL_law 824 = .ok (.iadd, 1) := by decide +kernel
theorem dL_law_825 : decode cL_law 825 = .ok (.iaload, 1) := by decide +kernel
theorem dL_law_826 : decode cL_law 826 = .ok (.aload_n 0, 1) := by decide +kernel
theorem dL_law_827 : decode cL_law 827 = .ok (.iload_n 3, 1) := by decide +kernel
theorem dL_law_828 : decode cL_law 828 = .ok (.iconst 3, 1) := by decide +kernel
theorem dL_law_829 : decode cL_law 829 = .ok (.iadd, 1) := by decide +kernel
theorem dL_law_830 : decode cL_law 830 = .ok (.iaload, 1) := by decide +kernel
theorem dL_law_831 : decode cL_law 831 = .ok (.invokevirtual 92, 3) := by decide +kernel
theorem dL_law_834 : decode cL_law 834 = .ok (.if_icmp .eq 893, 3) := by decide +kernel
theorem dL_law_839 : decode cL_law 839 = .ok (.aload_n 1, 1) := by decide +kernel
theorem dL_law_840 : decode cL_law 840 = .ok (.aload_n 0, 1) := by decide +kernel
theorem dL_law_841 : decode cL_law 841 = .ok (.iload_n 3, 1) := by decide +kernel
theorem dL_law_842 : decode cL_law 842 = .ok (.iconst 1, 1) := by decide +kernel
theorem dL_law_843 : decode cL_law 843 = .ok (.iadd, 1) := by decide +kernel
theorem dL_law_844 : decode cL_law 844 = .ok (.iaload, 1) := by decide +kernel
theorem dL_law_845 : decode cL_law 845 = .ok (.aload_n 0, 1) := by decide +kernel
theorem dL_law_846 : decode cL_law 846 = .ok (.iload_n 3, 1) := by decide +kernel
theorem dL_law_847 : decode cL_law 847 = .ok (.iconst 2, 1) := by decide +kernel
theorem dL_law_848 : decode cL_law 848 = .ok (.iadd, 1) := by decide +kernel
theorem dL_law_849 : decode cL_law 849 = .ok (.iaload, 1) := by decide +kernel
theorem dL_law_850 : decode cL_law 850 = .ok (.aload_n 0, 1) := by decide +kernel
theorem dL_law_851 : decode cL_law 851 = .ok (.iload_n 3, 1) := by decide +kernel
theorem dL_law_852 : decode cL_law 852 = .ok (.iconst 3, 1) := by decide +kernel
theorem dL_law_853 : decode cL_law 853 = .ok (.iadd, 1) := by decide +kernel
theorem dL_law_854 : decode cL_law 854 = .ok (.iaload, 1) := by decide +kernel
theorem dL_law_855 : decode cL_law 855 = .ok (.aload_n 0, 1) := by decide +kernel
theorem dL_law_856 : decode cL_law 856 = .ok (.iload_n 3, 1) := by decide +kernel
theorem dL_law_857 : decode cL_law 857 = .ok (.iconst 4, 1) := by decide +kernel
theorem dL_law_858 : decode cL_law 858 = .ok (.iadd, 1) := by decide +kernel
theorem dL_law_859 : decode cL_law 859 = .ok (.iaload, 1) := by decide +kernel
theorem dL_law_860 : decode cL_law 860 = .ok (.invokevirtual 93, 3) := by decide +kernel
theorem dL_law_863 : decode cL_law 863 = .ok (.aload_n 2, 1) := by decide +kernel
theorem dL_law_864 : decode cL_law 864 = .ok (.aload_n 0, 1) := by decide +kernel
theorem dL_law_865 : decode cL_law 865 = .ok (.iload_n 3, 1) := by decide +kernel
theorem dL_law_866 : decode cL_law 866 = .ok (.iconst 1, 1) := by decide +kernel
theorem dL_law_867 : decode cL_law 867 = .ok (.iadd, 1) := by decide +kernel
theorem dL_law_868 : decode cL_law 868 = .ok (.iaload, 1) := by decide +kernel
theorem dL_law_869 : decode cL_law 869 = .ok (.aload_n 0, 1) := by decide +kernel
theorem dL_law_870 : decode cL_law 870 = .ok (.iload_n 3, 1) := by decide +kernel
theorem dL_law_871 : decode cL_law 871 = .ok (.iconst 2, 1) := by decide +kernel
theorem dL_law_872 : decode cL_law 872 = .ok (.iadd, 1) := by decide +kernel
theorem dL_law_873 : decode cL_law 873 = .ok (.iaload, 1) := by decide +kernel
theorem dL_law_874 : decode cL_law 874 = .ok (.aload_n 0, 1) := by decide +kernel
theorem dL_law_875 : decode cL_law 875 = .ok (.iload_n 3, 1) := by decide +kernel
theorem dL_law_876 : decode cL_law 876 = .ok (.iconst 3, 1) := by decide +kernel
theorem dL_law_877 : decode cL_law 877 = .ok (.iadd, 1) := by decide +kernel
theorem dL_law_878 : decode cL_law 878 = .ok (.iaload, 1) := by decide +kernel
theorem dL_law_879 : decode cL_law 879 = .ok (.aload_n 0, 1) := by decide +kernel
theorem dL_law_880 : decode cL_law 880 = .ok (.iload_n 3, 1) := by decide +kernel
theorem dL_law_881 : decode cL_law 881 = .ok (.iconst 4, 1) := by decide +kernel
theorem dL_law_882 : decode cL_law 882 = .ok (.iadd, 1) := by decide +kernel
theorem dL_law_883 : decode cL_law 883 = .ok (.iaload, 1) := by decide +kernel
theorem dL_law_884 : decode cL_law 884 = .ok (.invokevirtual 97, 3) := by decide +kernel
theorem dL_law_887 : decode cL_law 887 = .ok (.if_icmp .eq 840, 3) := by decide +kernel
theorem dL_law_892 : decode cL_law 892 = .ok (.aload_n 1, 1) := by decide +kernel
theorem dL_law_893 : decode cL_law 893 = .ok (.aload_n 0, 1) := by decide +kernel
theorem dL_law_894 : decode cL_law 894 = .ok (.iload_n 3, 1) := by decide +kernel
theorem dL_law_895 : decode cL_law 895 = .ok (.iconst 1, 1) := by decide +kernel
theorem dL_law_896 : decode cL_law 896 = .ok (.iadd, 1) := by decide +kernel
theorem dL_law_897 : decode cL_law 897 = .ok (.iaload, 1) := by decide +kernel
theorem dL_law_898 : decode cL_law 898 = .ok (.aload_n 0, 1) := by decide +kernel
theorem dL_law_899 : decode cL_law 899 = .ok (.iload_n 3, 1) := by decide +kernel
theorem dL_law_900 : decode cL_law 900 = .ok (.iconst 2, 1) := by decide +kernel
theorem dL_law_901 : decode cL_law 901 = .ok (.iadd, 1) := by decide +kernel
theorem dL_law_902 : decode cL_law 902 = .ok (.iaload, 1) := by decide +kernel
theorem dL_law_903 : decode cL_law 903 = .ok (.aload_n 0, 1) := by decide +kernel
theorem dL_law_904 : decode cL_law 904 = .ok (.iload_n 3, 1) := by decide +kernel
theorem dL_law_905 : decode cL_law 905 = .ok (.iconst 3, 1) := by decide +kernel
theorem dL_law_906 : decode cL_law 906 = .ok (.iadd, 1) := by decide +kernel
theorem dL_law_907 : decode cL_law 907 = .ok (.iaload, 1) := by decide +kernel
theorem dL_law_908 : decode cL_law 908 = .ok (.invokevirtual 98, 3) := by decide +kernel
theorem dL_law_911 : decode cL_law 911 = .ok (.aload_n 2, 1) := by decide +kernel
theorem dL_law_912 : decode cL_law 912 = .ok (.aload_n 0, 1) := by decide +kernel
theorem dL_law_913 : decode cL_law 913 = .ok (.iload_n 3, 1) := by decide +kernel
theorem dL_law_914 : decode cL_law 914 = .ok (.iconst 1, 1) := by decide +kernel
theorem dL_law_915 : decode cL_law 915 = .ok (.iadd, 1) := by decide +kernel
theorem dL_law_916 : decode cL_law 916 = .ok (.iaload, 1) := by decide +kernel
theorem dL_law_917 : decode cL_law 917 = .ok (.aload_n 0, 1) := by decide +kernel
theorem dL_law_918 : decode cL_law 918 = .ok (.iload_n 3, 1) := by decide +kernel
theorem dL_law_919 : decode cL_law 919 = .ok (.iconst 2, 1) := by decide +kernel
theorem dL_law_920 : decode cL_law 920 = .ok (.iadd, 1) := by decide +kernel
theorem dL_law_921 : decode cL_law 921 = .ok (.iaload, 1) := by decide +kernel
theorem dL_law_922 : decode cL_law 922 = .ok (.aload_n 0, 1) := by decide +kernel
theorem dL_law_923 : decode cL_law 923 = .ok (.iload_n 3, 1) := by decide +kernel
theorem dL_law_924 : decode cL_law 924 = .ok (.iconst 3, 1) := by decide +kernel
theorem dL_law_925 : decode cL_law 925 = .ok (.iadd, 1) := by decide +kernel
theorem dL_law_926 : decode cL_law 926 = .ok (.iaload, 1) := by decide +kernel
theorem dL_law_927 : decode cL_law 927 = .ok (.invokevirtual 101, 3) := by decide +kernel
theorem dL_law_930 : decode cL_law 930 = .ok (.if_icmp .eq 797, 3) := by decide +kernel
theorem dL_law_935 : decode cL_law 935 = .ok (.aload_n 1, 1) := by decide +kernel
theorem dL_law_936 : decode cL_law 936 = .ok (.aload_n 0, 1) := by decide +kernel
theorem dL_law_937 : decode cL_law 937 = .ok (.iload_n 3, 1) := by decide +kernel
theorem dL_law_938 : decode cL_law 938 = .ok (.iconst 1, 1) := by decide +kernel
theorem dL_law_939 : decode cL_law 939 = .ok (.iadd, 1) := by decide +kernel
theorem dL_law_940 : decode cL_law 940 = .ok (.iaload, 1) := by decide +kernel
theorem dL_law_941 : decode cL_law 941 = .ok (.aload_n 0, 1) := by decide +kernel
theorem dL_law_942 : decode cL_law 942 = .ok (.iload_n 3, 1) := by decide +kernel
theorem dL_law_943 : decode cL_law 943 = .ok (.iconst 2, 1) := by decide +kernel
theorem dL_law_944 : decode cL_law 944 = .ok (.iadd, 1) := by decide +kernel
theorem dL_law_945 : decode cL_law 945 = .ok (.iaload, 1) := by decide +kernel
theorem dL_law_946 : decode cL_law 946 = .ok (.aload_n 0, 1) := by decide +kernel
theorem dL_law_947 : decode cL_law 947 = .ok (.iload_n 3, 1) := by decide +kernel
theorem dL_law_948 : decode cL_law 948 = .ok (.iconst 3, 1) := by decide +kernel
theorem dL_law_949 : decode cL_law 949 = .ok (.iadd, 1) := by decide +kernel
theorem dL_law_950 : decode cL_law 950 = .ok (.iaload, 1) := by decide +kernel
theorem dL_law_951 : decode cL_law 951 = .ok (.invokevirtual 102, 3) := by decide +kernel
theorem dL_law_954 : decode cL_law 954 = .ok (.aload_n 2, 1) := by decide +kernel
theorem dL_law_955 : decode cL_law 955 = .ok (.aload_n 0, 1) := by decide +kernel
theorem dL_law_956 : decode cL_law 956 = .ok (.iload_n 3, 1) := by decide +kernel
theorem dL_law_957 : decode cL_law 957 = .ok (.iconst 1, 1) := by decide +kernel
theorem dL_law_958 : decode cL_law 958 = .ok (.iadd, 1) := by decide +kernel
theorem dL_law_959 : decode cL_law 959 = .ok (.iaload, 1) := by decide +kernel
theorem dL_law_960 : decode cL_law 960 = .ok (.aload_n 0, 1) := by decide +kernel
theorem dL_law_961 : decode cL_law 961 = .ok (.iload_n 3, 1) := by decide +kernel
theorem dL_law_962 : decode cL_law 962 = .ok (.iconst 2, 1) := by decide +kernel
theorem dL_law_963 : decode cL_law 963 = .ok (.iadd, 1) := by decide +kernel
theorem dL_law_964 : decode cL_law 964 = .ok (.iaload, 1) := by decide +kernel
theorem dL_law_965 : decode cL_law 965 = .ok (.aload_n 0, 1) := by decide +kernel
theorem dL_law_966 : decode cL_law 966 = .ok (.iload_n 3, 1) := by decide +kernel
theorem dL_law_967 : decode cL_law 967 = .ok (.iconst 3, 1) := by decide +kernel
theorem dL_law_968 : decode cL_law 968 = .ok (.iadd, 1) := by decide +kernel
theorem dL_law_969 : decode cL_law 969 = .ok (.iaload, 1) := by decide +kernel
theorem dL_law_970 : decode cL_law 970 = .ok (.invokevirtual 105, 3) := by decide +kernel
theorem dL_law_973 : decode cL_law 973 = .ok (.if_icmp .eq 754, 3) := by decide +kernel
theorem dL_law_978 : decode cL_law 978 = .ok (.aload_n 1, 1) := by decide +kernel
theorem dL_law_979 : decode cL_law 979 = .ok (.aload_n 0, 1) := by decide +kernel
theorem dL_law_980 : decode cL_law 980 = .ok (.iload_n 3, 1) := by decide +kernel
theorem dL_law_981 : decode cL_law 981 = .ok (.iconst 1, 1) := by decide +kernel
theorem dL_law_982 : decode cL_law 982 = .ok (.iadd, 1) := by decide +kernel
theorem dL_law_983 : decode cL_law 983 = .ok (.iaload, 1) := by decide +kernel
theorem dL_law_984 : decode cL_law 984 = .ok (.aload_n 0, 1) := by decide +kernel
theorem dL_law_985 : decode cL_law 985 = .ok (.iload_n 3, 1) := by decide +kernel
theorem dL_law_986 : decode cL_law 986 = .ok (.iconst 2, 1) := by decide +kernel
theorem dL_law_987 : decode cL_law 987 = .ok (.iadd, 1) := by decide +kernel
theorem dL_law_988 : decode cL_law 988 = .ok (.iaload, 1) := by decide +kernel
theorem dL_law_989 : decode cL_law 989 = .ok (.aload_n 0, 1) := by decide +kernel
theorem dL_law_990 : decode cL_law 990 = .ok (.iload_n 3, 1) := by decide +kernel
theorem dL_law_991 : decode cL_law 991 = .ok (.iconst 3, 1) := by decide +kernel
theorem dL_law_992 : decode cL_law 992 = .ok (.iadd, 1) := by decide +kernel
theorem dL_law_993 : decode cL_law 993 = .ok (.iaload, 1) := by decide +kernel
theorem dL_law_994 : decode cL_law 994 = .ok (.aload_n 0, 1) := by decide +kernel
theorem dL_law_995 : decode cL_law 995 = .ok (.iload_n 3, 1) := by decide +kernel
theorem dL_law_996 : decode cL_law 996 = .ok (.iconst 4, 1) := by decide +kernel
theorem dL_law_997 : decode cL_law 997 = .ok (.iadd, 1) := by decide +kernel
theorem dL_law_998 : decode cL_law 998 = .ok (.iaload, 1) := by decide +kernel
theorem dL_law_999 : decode cL_law 999 = .ok (.invokevirtual 106, 3) := by decide +kernel
theorem dL_law_1002 : decode cL_law 1002 = .ok (.aload_n 2, 1) := by decide +kernel
theorem dL_law_1003 : decode cL_law 1003 = .ok (.aload_n 0, 1) := by decide +kernel
theorem dL_law_1004 : decode cL_law 1004 = .ok (.iload_n 3, 1) := by decide +kernel
theorem dL_law_1005 : decode cL_law 1005 = .ok (.iconst 1, 1) := by decide +kernel
theorem dL_law_1006 : decode cL_law 1006 = .ok (.iadd, 1) := by decide +kernel
theorem dL_law_1007 : decode cL_law 1007 = .ok (.iaload, 1) := by decide +kernel
theorem dL_law_1008 : decode cL_law 1008 = .ok (.aload_n 0, 1) := by decide +kernel
theorem dL_law_1009 : decode cL_law 1009 = .ok (.iload_n 3, 1) := by decide +kernel
theorem dL_law_1010 : decode cL_law 1010 = .ok (.iconst 2, 1) := by decide +kernel
theorem dL_law_1011 : decode cL_law 1011 = .ok (.iadd, 1) := by decide +kernel
theorem dL_law_1012 : decode cL_law 1012 = .ok (.iaload, 1) := by decide +kernel
theorem dL_law_1013 : decode cL_law 1013 = .ok (.aload_n 0, 1) := by decide +kernel
theorem dL_law_1014 : decode cL_law 1014 = .ok (.iload_n 3, 1) := by decide +kernel
theorem dL_law_1015 : decode cL_law 1015 = .ok (.iconst 3, 1) := by decide +kernel
theorem dL_law_1016 : decode cL_law 1016 = .ok (.iadd, 1) := by decide +kernel
theorem dL_law_1017 : decode cL_law 1017 = .ok (.iaload, 1) := by decide +kernel
theorem dL_law_1018 : decode cL_law 1018 = .ok (.aload_n 0, 1) := by decide +kernel
theorem dL_law_1019 : decode cL_law 1019 = .ok (.iload_n 3, 1) := by decide +kernel
theorem dL_law_1020 : decode cL_law 1020 = .ok (.iconst 4, 1) := by decide +kernel
theorem dL_law_1021 : decode cL_law 1021 = .ok (.iadd, 1) := by decide +kernel
theorem dL_law_1022 : decode cL_law 1022 = .ok (.iaload, 1) := by decide +kernel
theorem dL_law_1023 : decode cL_law 1023 = .ok (.invokevirtual 110, 3) := by decide +kernel
theorem dL_law_1026 : decode cL_law 1026 = .ok (.lcmp, 1) := by decide +kernel
theorem dL_law_1027 : decode cL_law 1027 = .ok (.ifCond .eq 700, 3) := by decide +kernel
theorem dL_law_1032 : decode cL_law 1032 = .ok (.aload_n 1, 1) := by decide +kernel
theorem dL_law_1033 : decode cL_law 1033 = .ok (.aload_n 0, 1) := by decide +kernel
theorem dL_law_1034 : decode cL_law 1034 = .ok (.iload_n 3, 1) := by decide +kernel
theorem dL_law_1035 : decode cL_law 1035 = .ok (.iconst 1, 1) := by decide +kernel
theorem dL_law_1036 : decode cL_law 1036 = .ok (.iadd, 1) := by decide +kernel
theorem dL_law_1037 : decode cL_law 1037 = .ok (.iaload, 1) := by decide +kernel
theorem dL_law_1038 : decode cL_law 1038 = .ok (.aload_n 0, 1) := by decide +kernel
theorem dL_law_1039 : decode cL_law 1039 = .ok (.iload_n 3, 1) := by decide +kernel
theorem dL_law_1040 : decode cL_law 1040 = .ok (.iconst 2, 1) := by decide +kernel
theorem dL_law_1041 : decode cL_law 1041 = .ok (.iadd, 1) := by decide +kernel
theorem dL_law_1042 : decode cL_law 1042 = .ok (.iaload, 1) := by decide +kernel
theorem dL_law_1043 : decode cL_law 1043 = .ok (.invokevirtual 111, 3) := by decide +kernel
theorem dL_law_1046 : decode cL_law 1046 = .ok (.aload_n 2, 1) := by decide +kernel
theorem dL_law_1047 : decode cL_law 1047 = .ok (.aload_n 0, 1) := by decide +kernel
theorem dL_law_1048 : decode cL_law 1048 = .ok (.iload_n 3, 1) := by decide +kernel
theorem dL_law_1049 : decode cL_law 1049 = .ok (.iconst 1, 1) := by decide +kernel
theorem dL_law_1050 : decode cL_law 1050 = .ok (.iadd, 1) := by decide +kernel
theorem dL_law_1051 : decode cL_law 1051 = .ok (.iaload, 1) := by decide +kernel
theorem dL_law_1052 : decode cL_law 1052 = .ok (.aload_n 0, 1) := by decide +kernel
theorem dL_law_1053 : decode cL_law 1053 = .ok (.iload_n 3, 1) := by decide +kernel
theorem dL_law_1054 : decode cL_law 1054 = .ok (.iconst 2, 1) := by decide +kernel
theorem dL_law_1055 : decode cL_law 1055 = .ok (.iadd, 1) := by decide +kernel
theorem dL_law_1056 : decode cL_law 1056 = .ok (.iaload, 1) := by decide +kernel
theorem dL_law_1057 : decode cL_law 1057 = .ok (.invokevirtual 114, 3) := by decide +kernel
theorem dL_law_1060 : decode cL_law 1060 = .ok (.if_icmp .eq 667, 3) := by decide +kernel
theorem dL_law_1065 : decode cL_law 1065 = .ok (.aload_n 1, 1) := by decide +kernel
theorem dL_law_1066 : decode cL_law 1066 = .ok (.aload_n 0, 1) := by decide +kernel
theorem dL_law_1067 : decode cL_law 1067 = .ok (.iload_n 3, 1) := by decide +kernel
theorem dL_law_1068 : decode cL_law 1068 = .ok (.iconst 1, 1) := by decide +kernel
theorem dL_law_1069 : decode cL_law 1069 = .ok (.iadd, 1) := by decide +kernel
theorem dL_law_1070 : decode cL_law 1070 = .ok (.iaload, 1) := by decide +kernel
theorem dL_law_1071 : decode cL_law 1071 = .ok (.invokevirtual 115, 3) := by decide +kernel
theorem dL_law_1074 : decode cL_law 1074 = .ok (.aload_n 2, 1) := by decide +kernel
theorem dL_law_1075 : decode cL_law 1075 = .ok (.aload_n 0, 1) := by decide +kernel
theorem dL_law_1076 : decode cL_law 1076 = .ok (.iload_n 3, 1) := by decide +kernel
theorem dL_law_1077 : decode cL_law 1077 = .ok (.iconst 1, 1) := by decide +kernel
theorem dL_law_1078 : decode cL_law 1078 = .ok (.iadd, 1) := by decide +kernel
theorem dL_law_1079 : decode cL_law 1079 = .ok (.iaload, 1) := by decide +kernel
theorem dL_law_1080 : decode cL_law 1080 = .ok (.invokevirtual 118, 3) := by decide +kernel
theorem dL_law_1083 : decode cL_law 1083 = .ok (.if_icmp .eq 644, 3) := by decide +kernel
theorem dL_law_1088 : decode cL_law 1088 = .ok (.aload_n 1, 1) := by decide +kernel
theorem dL_law_1089 : decode cL_law 1089 = .ok (.aload_n 0, 1) := by decide +kernel
theorem dL_law_1090 : decode cL_law 1090 = .ok (.iload_n 3, 1) := by decide +kernel
theorem dL_law_1091 : decode cL_law 1091 = .ok (.iconst 1, 1) := by decide +kernel
theorem dL_law_1092 : decode cL_law 1092 = .ok (.iadd, 1) := by decide +kernel
theorem dL_law_1093 : decode cL_law 1093 = .ok (.iaload, 1) := by decide +kernel
theorem dL_law_1094 : decode cL_law 1094 = .ok (.aload_n 0, 1) := by decide +kernel
theorem dL_law_1095 : decode cL_law 1095 = .ok (.iload_n 3, 1) := by decide +kernel
theorem dL_law_1096 : decode cL_law 1096 = .ok (.iconst 2, 1) := by decide +kernel
theorem dL_law_1097 : decode cL_law 1097 = .ok (.iadd, 1) := by decide +kernel
theorem dL_law_1098 : decode cL_law 1098 = .ok (.iaload, 1) := by decide +kernel
theorem dL_law_1099 : decode cL_law 1099 = .ok (.invokevirtual 119, 3) := by decide +kernel
theorem dL_law_1102 : decode cL_law 1102 = .ok (.aload_n 2, 1) := by decide +kernel
theorem dL_law_1103 : decode cL_law 1103 = .ok (.aload_n 0, 1) := by decide +kernel
theorem dL_law_1104 : decode cL_law 1104 = .ok (.iload_n 3, 1) := by decide +kernel
theorem dL_law_1105 : decode cL_law 1105 = .ok (.iconst 1, 1) := by decide +kernel
theorem dL_law_1106 : decode cL_law 1106 = .ok (.iadd, 1) := by decide +kernel
theorem dL_law_1107 : decode cL_law 1107 = .ok (.iaload, 1) := by decide +kernel
theorem dL_law_1108 : decode cL_law 1108 = .ok (.aload_n 0, 1) := by decide +kernel
theorem dL_law_1109 : decode cL_law 1109 = .ok (.iload_n 3, 1) := by decide +kernel
theorem dL_law_1110 : decode cL_law 1110 = .ok (.iconst 2, 1) := by decide +kernel
theorem dL_law_1111 : decode cL_law 1111 = .ok (.iadd, 1) := by decide +kernel
theorem dL_law_1112 : decode cL_law 1112 = .ok (.iaload, 1) := by decide +kernel
theorem dL_law_1113 : decode cL_law 1113 = .ok (.invokevirtual 122, 3) := by decide +kernel
theorem dL_law_1116 : decode cL_law 1116 = .ok (.if_icmp .eq 611, 3) := by decide +kernel
theorem dL_law_1121 : decode cL_law 1121 = .ok (.aload_n 1, 1) := by decide +kernel
theorem dL_law_1122 : decode cL_law 1122 = .ok (.aload_n 0, 1) := by decide +kernel
theorem dL_law_1123 : decode cL_law 1123 = .ok (.iload_n 3, 1) := by decide +kernel
theorem dL_law_1124 : decode cL_law 1124 = .ok (.iconst 1, 1) := by decide +kernel
theorem dL_law_1125 : decode cL_law 1125 = .ok (.iadd, 1) := by decide +kernel
theorem dL_law_1126 : decode cL_law 1126 = .ok (.iaload, 1) := by decide +kernel
theorem dL_law_1127 : decode cL_law 1127 = .ok (.aload_n 0, 1) := by decide +kernel
theorem dL_law_1128 : decode cL_law 1128 = .ok (.iload_n 3, 1) := by decide +kernel
theorem dL_law_1129 : decode cL_law 1129 = .ok (.iconst 2, 1) := by decide +kernel
theorem dL_law_1130 : decode cL_law 1130 = .ok (.iadd, 1) := by decide +kernel
theorem dL_law_1131 : decode cL_law 1131 = .ok (.iaload, 1) := by decide +kernel
theorem dL_law_1132 : decode cL_law 1132 = .ok (.aload_n 0, 1) := by decide +kernel
theorem dL_law_1133 : decode cL_law 1133 = .ok (.iload_n 3, 1) := by decide +kernel
theorem dL_law_1134 : decode cL_law 1134 = .ok (.iconst 3, 1) := by decide +kernel
theorem dL_law_1135 : decode cL_law 1135 = .ok (.iadd, 1) := by decide +kernel
theorem dL_law_1136 : decode cL_law 1136 = .ok (.iaload, 1) := by decide +kernel
theorem dL_law_1137 : decode cL_law 1137 = .ok (.invokevirtual 123, 3) := by decide +kernel
theorem dL_law_1140 : decode cL_law 1140 = .ok (.aload_n 2, 1) := by decide +kernel
theorem dL_law_1141 : decode cL_law 1141 = .ok (.aload_n 0, 1) := by decide +kernel
theorem dL_law_1142 : decode cL_law 1142 = .ok (.iload_n 3, 1) := by decide +kernel
theorem dL_law_1143 : decode cL_law 1143 = .ok (.iconst 1, 1) := by decide +kernel
theorem dL_law_1144 : decode cL_law 1144 = .ok (.iadd, 1) := by decide +kernel
theorem dL_law_1145 : decode cL_law 1145 = .ok (.iaload, 1) := by decide +kernel
theorem dL_law_1146 : decode cL_law 1146 = .ok (.aload_n 0, 1) := by decide +kernel
theorem dL_law_1147 : decode cL_law 1147 = .ok (.iload_n 3, 1) := by decide +kernel
theorem dL_law_1148 : decode cL_law 1148 = .ok (.iconst 2, 1) := by decide +kernel
theorem dL_law_1149 : decode cL_law 1149 = .ok (.iadd, 1) := by decide +kernel
theorem dL_law_1150 : decode cL_law 1150 = .ok (.iaload, 1) := by decide +kernel
theorem dL_law_1151 : decode cL_law 1151 = .ok (.aload_n 0, 1) := by decide +kernel
theorem dL_law_1152 : decode cL_law 1152 = .ok (.iload_n 3, 1) := by decide +kernel
theorem dL_law_1153 : decode cL_law 1153 = .ok (.iconst 3, 1) := by decide +kernel
theorem dL_law_1154 : decode cL_law 1154 = .ok (.iadd, 1) := by decide +kernel
theorem dL_law_1155 : decode cL_law 1155 = .ok (.iaload, 1) := by decide +kernel
theorem dL_law_1156 : decode cL_law 1156 = .ok (.invokevirtual 126, 3) := by decide +kernel
theorem dL_law_1159 : decode cL_law 1159 = .ok (.if_icmp .eq 568, 3) := by decide +kernel
theorem dL_law_1164 : decode cL_law 1164 = .ok (.aload_n 1, 1) := by decide +kernel
theorem dL_law_1165 : decode cL_law 1165 = .ok (.aload_n 0, 1) := by decide +kernel
theorem dL_law_1166 : decode cL_law 1166 = .ok (.iload_n 3, 1) := by decide +kernel
theorem dL_law_1167 : decode cL_law 1167 = .ok (.iconst 1, 1) := by decide +kernel
theorem dL_law_1168 : decode cL_law 1168 = .ok (.iadd, 1) := by decide +kernel
theorem dL_law_1169 : decode cL_law 1169 = .ok (.iaload, 1) := by decide +kernel
theorem dL_law_1170 : decode cL_law 1170 = .ok (.aload_n 0, 1) := by decide +kernel
theorem dL_law_1171 : decode cL_law 1171 = .ok (.iload_n 3, 1) := by decide +kernel
theorem dL_law_1172 : decode cL_law 1172 = .ok (.iconst 2, 1) := by decide +kernel
theorem dL_law_1173 : decode cL_law 1173 = .ok (.iadd, 1) := by decide +kernel
theorem dL_law_1174 : decode cL_law 1174 = .ok (.iaload, 1) := by decide +kernel
theorem dL_law_1175 : decode cL_law 1175 = .ok (.aload_n 0, 1) := by decide +kernel
theorem dL_law_1176 : decode cL_law 1176 = .ok (.iload_n 3, 1) := by decide +kernel
theorem dL_law_1177 : decode cL_law 1177 = .ok (.iconst 3, 1) := by decide +kernel
theorem dL_law_1178 : decode cL_law 1178 = .ok (.iadd, 1) := by decide +kernel
theorem dL_law_1179 : decode cL_law 1179 = .ok (.iaload, 1) := by decide +kernel
theorem dL_law_1180 : decode cL_law 1180 = .ok (.aload_n 0, 1) := by decide +kernel
theorem dL_law_1181 : decode cL_law 1181 = .ok (.iload_n 3, 1) := by decide +kernel
theorem dL_law_1182 : decode cL_law 1182 = .ok (.iconst 4, 1) := by decide +kernel
theorem dL_law_1183 : decode cL_law 1183 = .ok (.iadd, 1) := by decide +kernel
theorem dL_law_1184 : decode cL_law 1184 = .ok (.iaload, 1) := by decide +kernel
theorem dL_law_1185 : decode cL_law 1185 = .ok (.invokevirtual 127, 3) := by decide +kernel
theorem dL_law_1188 : decode cL_law 1188 = .ok (.aload_n 2, 1) := by decide +kernel
theorem dL_law_1189 : decode cL_law 1189 = .ok (.aload_n 0, 1) := by decide +kernel
theorem dL_law_1190 : decode cL_law 1190 = .ok (.iload_n 3, 1) := by decide +kernel
theorem dL_law_1191 : decode cL_law 1191 = .ok (.iconst 1, 1) := by decide +kernel
theorem dL_law_1192 : decode cL_law 1192 = .ok (.iadd, 1) := by decide +kernel
theorem dL_law_1193 : decode cL_law 1193 = .ok (.iaload, 1) := by decide +kernel
theorem dL_law_1194 : decode cL_law 1194 = .ok (.aload_n 0, 1) := by decide +kernel
theorem dL_law_1195 : decode cL_law 1195 = .ok (.iload_n 3, 1) := by decide +kernel
theorem dL_law_1196 : decode cL_law 1196 = .ok (.iconst 2, 1) := by decide +kernel
theorem dL_law_1197 : decode cL_law 1197 = .ok (.iadd, 1) := by decide +kernel
theorem dL_law_1198 : decode cL_law 1198 = .ok (.iaload, 1) := by decide +kernel
theorem dL_law_1199 : decode cL_law 1199 = .ok (.aload_n 0, 1) := by decide +kernel
theorem dL_law_1200 : decode cL_law 1200 = .ok (.iload_n 3, 1) := by decide +kernel
theorem dL_law_1201 : decode cL_law 1201 = .ok (.iconst 3, 1) := by decide +kernel
theorem dL_law_1202 : decode cL_law 1202 = .ok (.iadd, 1) := by decide +kernel
theorem dL_law_1203 : decode cL_law 1203 = .ok (.iaload, 1) := by decide +kernel
theorem dL_law_1204 : decode cL_law 1204 = .ok (.aload_n 0, 1) := by decide +kernel
theorem dL_law_1205 : decode cL_law 1205 = .ok (.iload_n 3, 1) := by decide +kernel
theorem dL_law_1206 : decode cL_law 1206 = .ok (.iconst 4, 1) := by decide +kernel
theorem dL_law_1207 : decode cL_law 1207 = .ok (.iadd, 1) := by decide +kernel
theorem dL_law_1208 : decode cL_law 1208 = .ok (.iaload, 1) := by decide +kernel
theorem dL_law_1209 : decode cL_law 1209 = .ok (.invokevirtual 130, 3) := by decide +kernel
theorem dL_law_1212 : decode cL_law 1212 = .ok (.if_icmp .eq 515, 3) := by decide +kernel
theorem dL_law_1217 : decode cL_law 1217 = .ok (.aload_n 1, 1) := by decide +kernel
theorem dL_law_1218 : decode cL_law 1218 = .ok (.aload_n 0, 1) := by decide +kernel
theorem dL_law_1219 : decode cL_law 1219 = .ok (.iload_n 3, 1) := by decide +kernel
theorem dL_law_1220 : decode cL_law 1220 = .ok (.iconst 1, 1) := by decide +kernel
theorem dL_law_1221 : decode cL_law 1221 = .ok (.iadd, 1) := by decide +kernel
theorem dL_law_1222 : decode cL_law 1222 = .ok (.iaload, 1) := by decide +kernel
theorem dL_law_1223 : decode cL_law 1223 = .ok (.aload_n 0, 1) := by decide +kernel
theorem dL_law_1224 : decode cL_law 1224 = .ok (.iload_n 3, 1) := by decide +kernel
theorem dL_law_1225 : decode cL_law 1225 = .ok (.iconst 2, 1) := by decide +kernel
theorem dL_law_1226 : decode cL_law 1226 = .ok (.iadd, 1) := by decide +kernel
theorem dL_law_1227 : decode cL_law 1227 = .ok (.iaload, 1) := by decide +kernel
theorem dL_law_1228 : decode cL_law 1228 = .ok (.aload_n 0, 1) := by decide +kernel
theorem dL_law_1229 : decode cL_law 1229 = .ok (.iload_n 3, 1) := by decide +kernel
theorem dL_law_1230 : decode cL_law 1230 = .ok (.iconst 3, 1) := by decide +kernel
theorem dL_law_1231 : decode cL_law 1231 = .ok (.iadd, 1) := by decide +kernel
theorem dL_law_1232 : decode cL_law 1232 = .ok (.iaload, 1) := by decide +kernel
theorem dL_law_1233 : decode cL_law 1233 = .ok (.invokevirtual 131, 3) := by decide +kernel
theorem dL_law_1236 : decode cL_law 1236 = .ok (.aload_n 2, 1) := by decide +kernel
theorem dL_law_1237 : decode cL_law 1237 = .ok (.aload_n 0, 1) := by decide +kernel
theorem dL_law_1238 : decode cL_law 1238 = .ok (.iload_n 3, 1) := by decide +kernel
theorem dL_law_1239 : decode cL_law 1239 = .ok (.iconst 1, 1) := by decide +kernel
theorem dL_law_1240 : decode cL_law 1240 = .ok (.iadd, 1) := by decide +kernel
theorem dL_law_1241 : decode cL_law 1241 = .ok (.iaload, 1) := by decide +kernel
theorem dL_law_1242 : decode cL_law 1242 = .ok (.aload_n 0, 1) := by decide +kernel
theorem dL_law_1243 : decode cL_law 1243 = .ok (.iload_n 3, 1) := by decide +kernel
theorem dL_law_1244 : decode cL_law 1244 = .ok (.iconst 2, 1) := by decide +kernel
theorem dL_law_1245 : decode cL_law 1245 = .ok (.iadd, 1) := by decide +kernel
theorem dL_law_1246 : decode cL_law 1246 = .ok (.iaload, 1) := by decide +kernel
theorem dL_law_1247 : decode cL_law 1247 = .ok (.aload_n 0, 1) := by decide +kernel
theorem dL_law_1248 : decode cL_law 1248 = .ok (.iload_n 3, 1) := by decide +kernel
theorem dL_law_1249 : decode cL_law 1249 = .ok (.iconst 3, 1) := by decide +kernel
theorem dL_law_1250 : decode cL_law 1250 = .ok (.iadd, 1) := by decide +kernel
theorem dL_law_1251 : decode cL_law 1251 = .ok (.iaload, 1) := by decide +kernel
theorem dL_law_1252 : decode cL_law 1252 = .ok (.invokevirtual 134, 3) := by decide +kernel
theorem dL_law_1255 : decode cL_law 1255 = .ok (.if_icmp .eq 472, 3) := by decide +kernel
theorem dL_law_1260 : decode cL_law 1260 = .ok (.aload_n 1, 1) := by decide +kernel
theorem dL_law_1261 : decode cL_law 1261 = .ok (.aload_n 0, 1) := by decide +kernel
theorem dL_law_1262 : decode cL_law 1262 = .ok (.iload_n 3, 1) := by decide +kernel
theorem dL_law_1263 : decode cL_law 1263 = .ok (.iconst 1, 1) := by decide +kernel
theorem dL_law_1264 : decode cL_law 1264 = .ok (.iadd, 1) := by decide +kernel
theorem dL_law_1265 : decode cL_law 1265 = .ok (.iaload, 1) := by decide +kernel
theorem dL_law_1266 : decode cL_law 1266 = .ok (.aload_n 0, 1) := by decide +kernel
theorem dL_law_1267 : decode cL_law 1267 = .ok (.iload_n 3, 1) := by decide +kernel
theorem dL_law_1268 : decode cL_law 1268 = .ok (.iconst 2, 1) := by decide +kernel
theorem dL_law_1269 : decode cL_law 1269 = .ok (.iadd, 1) := by decide +kernel
theorem dL_law_1270 : decode cL_law 1270 = .ok (.iaload, 1) := by decide +kernel
theorem dL_law_1271 : decode cL_law 1271 = .ok (.aload_n 0, 1) := by decide +kernel
theorem dL_law_1272 : decode cL_law 1272 = .ok (.iload_n 3, 1) := by decide +kernel
theorem dL_law_1273 : decode cL_law 1273 = .ok (.iconst 3, 1) := by decide +kernel
theorem dL_law_1274 : decode cL_law 1274 = .ok (.iadd, 1) := by decide +kernel
theorem dL_law_1275 : decode cL_law 1275 = .ok (.iaload, 1) := by decide +kernel
theorem dL_law_1276 : decode cL_law 1276 = .ok (.invokevirtual 135, 3) := by decide +kernel
theorem dL_law_1279 : decode cL_law 1279 = .ok (.aload_n 2, 1) := by decide +kernel
theorem dL_law_1280 : decode cL_law 1280 = .ok (.aload_n 0, 1) := by decide +kernel
theorem dL_law_1281 : decode cL_law 1281 = .ok (.iload_n 3, 1) := by decide +kernel
theorem dL_law_1282 : decode cL_law 1282 = .ok (.iconst 1, 1) := by decide +kernel
theorem dL_law_1283 : decode cL_law 1283 = .ok (.iadd, 1) := by decide +kernel
theorem dL_law_1284 : decode cL_law 1284 = .ok (.iaload, 1) := by decide +kernel
theorem dL_law_1285 : decode cL_law 1285 = .ok (.aload_n 0, 1) := by decide +kernel
theorem dL_law_1286 : decode cL_law 1286 = .ok (.iload_n 3, 1) := by decide +kernel
theorem dL_law_1287 : decode cL_law 1287 = .ok (.iconst 2, 1) := by decide +kernel
theorem dL_law_1288 : decode cL_law 1288 = .ok (.iadd, 1) := by decide +kernel
theorem dL_law_1289 : decode cL_law 1289 = .ok (.iaload, 1) := by decide +kernel
theorem dL_law_1290 : decode cL_law 1290 = .ok (.aload_n 0, 1) := by decide +kernel
theorem dL_law_1291 : decode cL_law 1291 = .ok (.iload_n 3, 1) := by decide +kernel
theorem dL_law_1292 : decode cL_law 1292 = .ok (.iconst 3, 1) := by decide +kernel
theorem dL_law_1293 : decode cL_law 1293 = .ok (.iadd, 1) := by decide +kernel
theorem dL_law_1294 : decode cL_law 1294 = .ok (.iaload, 1) := by decide +kernel
theorem dL_law_1295 : decode cL_law 1295 = .ok (.invokevirtual 138, 3) := by decide +kernel
theorem dL_law_1298 : decode cL_law 1298 = .ok (.if_icmp .eq 429, 3) := by decide +kernel
theorem dL_law_1303 : decode cL_law 1303 = .ok (.aload_n 1, 1) := by decide +kernel
theorem dL_law_1304 : decode cL_law 1304 = .ok (.invokevirtual 139, 3) := by decide +kernel
theorem dL_law_1307 : decode cL_law 1307 = .ok (.aload_n 2, 1) := by decide +kernel
theorem dL_law_1308 : decode cL_law 1308 = .ok (.invokevirtual 143, 3) := by decide +kernel
theorem dL_law_1311 : decode cL_law 1311 = .ok (.if_icmp .eq 416, 3) := by decide +kernel
theorem dL_law_1316 : decode cL_law 1316 = .ok (.aload_n 1, 1) := by decide +kernel
theorem dL_law_1317 : decode cL_law 1317 = .ok (.aload_n 0, 1) := by decide +kernel
theorem dL_law_1318 : decode cL_law 1318 = .ok (.iload_n 3, 1) := by decide +kernel
theorem dL_law_1319 : decode cL_law 1319 = .ok (.iconst 1, 1) := by decide +kernel
theorem dL_law_1320 : decode cL_law 1320 = .ok (.iadd, 1) := by decide +kernel
theorem dL_law_1321 : decode cL_law 1321 = .ok (.iaload, 1) := by decide +kernel
theorem dL_law_1322 : decode cL_law 1322 = .ok (.invokevirtual 144, 3) := by decide +kernel
theorem dL_law_1325 : decode cL_law 1325 = .ok (.aload_n 2, 1) := by decide +kernel
theorem dL_law_1326 : decode cL_law 1326 = .ok (.aload_n 0, 1) := by decide +kernel
theorem dL_law_1327 : decode cL_law 1327 = .ok (.iload_n 3, 1) := by decide +kernel
theorem dL_law_1328 : decode cL_law 1328 = .ok (.iconst 1, 1) := by decide +kernel
theorem dL_law_1329 : decode cL_law 1329 = .ok (.iadd, 1) := by decide +kernel
theorem dL_law_1330 : decode cL_law 1330 = .ok (.iaload, 1) := by decide +kernel
theorem dL_law_1331 : decode cL_law 1331 = .ok (.invokevirtual 147, 3) := by decide +kernel
theorem dL_law_1334 : decode cL_law 1334 = .ok (.if_icmp .eq 393, 3) := by decide +kernel
theorem dL_law_1339 : decode cL_law 1339 = .ok (.aload_n 1, 1) := by decide +kernel
theorem dL_law_1340 : decode cL_law 1340 = .ok (.aload_n 0, 1) := by decide +kernel
theorem dL_law_1341 : decode cL_law 1341 = .ok (.iload_n 3, 1) := by decide +kernel
theorem dL_law_1342 : decode cL_law 1342 = .ok (.iconst 1, 1) := by decide +kernel
theorem dL_law_1343 : decode cL_law 1343 = .ok (.iadd, 1) := by decide +kernel
theorem dL_law_1344 : decode cL_law 1344 = .ok (.iaload, 1) := by decide +kernel
theorem dL_law_1345 : decode cL_law 1345 = .ok (.aload_n 0, 1) := by decide +kernel
theorem dL_law_1346 : decode cL_law 1346 = .ok (.iload_n 3, 1) := by decide +kernel
theorem dL_law_1347 : decode cL_law 1347 = .ok (.iconst 2, 1) := by decide +kernel
theorem dL_law_1348 : decode cL_law 1348 = .ok (.iadd, 1) := by decide +kernel
theorem dL_law_1349 : decode cL_law 1349 = .ok (.iaload, 1) := by decide +kernel
theorem dL_law_1350 : decode cL_law 1350 = .ok (.aload_n 0, 1) := by decide +kernel
theorem dL_law_1351 : decode cL_law 1351 = .ok (.iload_n 3, 1) := by decide +kernel
theorem dL_law_1352 : decode cL_law 1352 = .ok (.iconst 3, 1) := by decide +kernel
theorem dL_law_1353 : decode cL_law 1353 = .ok (.iadd, 1) := by decide +kernel
theorem dL_law_1354 : decode cL_law 1354 = .ok (.iaload, 1) := by decide +kernel
theorem dL_law_1355 : decode cL_law 1355 = .ok (.invokevirtual 148, 3) := by decide +kernel
theorem dL_law_1358 : decode cL_law 1358 = .ok (.aload_n 2, 1) := by decide +kernel
theorem dL_law_1359 : decode cL_law 1359 = .ok (.aload_n 0, 1) := by decide +kernel
theorem dL_law_1360 : decode cL_law 1360 = .ok (.iload_n 3, 1) := by decide +kernel
theorem dL_law_1361 : decode cL_law 1361 = .ok (.iconst 1, 1) := by decide +kernel
theorem dL_law_1362 : decode cL_law 1362 = .ok (.iadd, 1) := by decide +kernel
theorem dL_law_1363 : decode cL_law 1363 = .ok (.iaload, 1) := by decide +kernel
theorem dL_law_1364 : decode cL_law 1364 = .ok (.aload_n 0, 1) := by decide +kernel
theorem dL_law_1365 : decode cL_law 1365 = .ok (.iload_n 3, 1) := by decide +kernel
theorem dL_law_1366 : decode cL_law 1366 = .ok (.iconst 2, 1) := by decide +kernel
theorem dL_law_1367 : decode cL_law 1367 = .ok (.iadd, 1) := by decide +kernel
theorem dL_law_1368 : decode cL_law 1368 = .ok (.iaload, 1) := by decide +kernel
theorem dL_law_1369 : decode cL_law 1369 = .ok (.aload_n 0, 1) := by decide +kernel
theorem dL_law_1370 : decode cL_law 1370 = .ok (.iload_n 3, 1) := by decide +kernel
theorem dL_law_1371 : decode cL_law 1371 = .ok (.iconst 3, 1) := by decide +kernel
theorem dL_law_1372 : decode cL_law 1372 = .ok (.iadd, 1) := by decide +kernel
theorem dL_law_1373 : decode cL_law 1373 = .ok (.iaload, 1) := by decide +kernel
theorem dL_law_1374 : decode cL_law 1374 = .ok (.invokevirtual 151, 3) := by decide +kernel
theorem dL_law_1377 : decode cL_law 1377 = .ok (.if_icmp .eq 350, 3) := by decide +kernel
theorem dL_law_1382 : decode cL_law 1382 = .ok (.aload_n 1, 1) := by decide +kernel
theorem dL_law_1383 : decode cL_law 1383 = .ok (.aload_n 0, 1) := by decide +kernel
theorem dL_law_1384 : decode cL_law 1384 = .ok (.iload_n 3, 1) := by decide +kernel
theorem dL_law_1385 : decode cL_law 1385 = .ok (.iconst 1, 1) := by decide +kernel
theorem dL_law_1386 : decode cL_law 1386 = .ok (.iadd, 1) := by decide +kernel
theorem dL_law_1387 : decode cL_law 1387 = .ok (.iaload, 1) := by decide +kernel
theorem dL_law_1388 : decode cL_law 1388 = .ok (.aload_n 0, 1) := by decide +kernel
theorem dL_law_1389 : decode cL_law 1389 = .ok (.iload_n 3, 1) := by decide +kernel
theorem dL_law_1390 : decode cL_law 1390 = .ok (.iconst 2, 1) := by decide +kernel
theorem dL_law_1391 : decode cL_law 1391 = .ok (.iadd, 1) := by decide +kernel
theorem dL_law_1392 : decode cL_law 1392 = .ok (.iaload, 1) := by decide +kernel
theorem dL_law_1393 : decode cL_law 1393 = .ok (.aload_n 0, 1) := by decide +kernel
theorem dL_law_1394 : decode cL_law 1394 = .ok (.iload_n 3, 1) := by decide +kernel
theorem dL_law_1395 : decode cL_law 1395 = .ok (.iconst 3, 1) := by decide +kernel
theorem dL_law_1396 : decode cL_law 1396 = .ok (.iadd, 1) := by decide +kernel
theorem dL_law_1397 : decode cL_law 1397 = .ok (.iaload, 1) := by decide +kernel
theorem dL_law_1398 : decode cL_law 1398 = .ok (.aload_n 0, 1) := by decide +kernel
theorem dL_law_1399 : decode cL_law 1399 = .ok (.iload_n 3, 1) := by decide +kernel
theorem dL_law_1400 : decode cL_law 1400 = .ok (.iconst 4, 1) := by decide +kernel
theorem dL_law_1401 : decode cL_law 1401 = .ok (.iadd, 1) := by decide +kernel
theorem dL_law_1402 : decode cL_law 1402 = .ok (.iaload, 1) := by decide +kernel
theorem dL_law_1403 : decode cL_law 1403 = .ok (.invokevirtual 152, 3) := by decide +kernel
theorem dL_law_1406 : decode cL_law 1406 = .ok (.aload_n 2, 1) := by decide +kernel
theorem dL_law_1407 : decode cL_law 1407 = .ok (.aload_n 0, 1) := by decide +kernel
theorem dL_law_1408 : decode cL_law 1408 = .ok (.iload_n 3, 1) := by decide +kernel
theorem dL_law_1409 : decode cL_law 1409 = .ok (.iconst 1, 1) := by decide +kernel
theorem dL_law_1410 : decode cL_law 1410 = .ok (.iadd, 1) := by decide +kernel
theorem dL_law_1411 : decode cL_law 1411 = .ok (.iaload, 1) := by decide +kernel
theorem dL_law_1412 : decode cL_law 1412 = .ok (.aload_n 0, 1) := by decide +kernel
theorem dL_law_1413 : decode cL_law 1413 = .ok (.iload_n 3, 1) := by decide +kernel
theorem dL_law_1414 : decode cL_law 1414 = .ok (.iconst 2, 1) := by decide +kernel
theorem dL_law_1415 : decode cL_law 1415 = .ok (.iadd, 1) := by decide +kernel
theorem dL_law_1416 : decode cL_law 1416 = .ok (.iaload, 1) := by decide +kernel
theorem dL_law_1417 : decode cL_law 1417 = .ok (.aload_n 0, 1) := by decide +kernel
theorem dL_law_1418 : decode cL_law 1418 = .ok (.iload_n 3, 1) := by decide +kernel
theorem dL_law_1419 : decode cL_law 1419 = .ok (.iconst 3, 1) := by decide +kernel
theorem dL_law_1420 : decode cL_law 1420 = .ok (.iadd, 1) := by decide +kernel
theorem dL_law_1421 : decode cL_law 1421 = .ok (.iaload, 1) := by decide +kernel
theorem dL_law_1422 : decode cL_law 1422 = .ok (.aload_n 0, 1) := by decide +kernel
theorem dL_law_1423 : decode cL_law 1423 = .ok (.iload_n 3, 1) := by decide +kernel
theorem dL_law_1424 : decode cL_law 1424 = .ok (.iconst 4, 1) := by decide +kernel
theorem dL_law_1425 : decode cL_law 1425 = .ok (.iadd, 1) := by decide +kernel
theorem dL_law_1426 : decode cL_law 1426 = .ok (.iaload, 1) := by decide +kernel
theorem dL_law_1427 : decode cL_law 1427 = .ok (.invokevirtual 155, 3) := by decide +kernel
theorem dL_law_1430 : decode cL_law 1430 = .ok (.if_icmp .eq 297, 3) := by decide +kernel
theorem dL_law_1435 : decode cL_law 1435 = .ok (.aload_n 1, 1) := by decide +kernel
theorem dL_law_1436 : decode cL_law 1436 = .ok (.aload_n 0, 1) := by decide +kernel
theorem dL_law_1437 : decode cL_law 1437 = .ok (.iload_n 3, 1) := by decide +kernel
theorem dL_law_1438 : decode cL_law 1438 = .ok (.iconst 1, 1) := by decide +kernel
theorem dL_law_1439 : decode cL_law 1439 = .ok (.iadd, 1) := by decide +kernel
theorem dL_law_1440 : decode cL_law 1440 = .ok (.iaload, 1) := by decide +kernel
theorem dL_law_1441 : decode cL_law 1441 = .ok (.aload_n 0, 1) := by decide +kernel
theorem dL_law_1442 : decode cL_law 1442 = .ok (.iload_n 3, 1) := by decide +kernel
theorem dL_law_1443 : decode cL_law 1443 = .ok (.iconst 2, 1) := by decide +kernel
theorem dL_law_1444 : decode cL_law 1444 = .ok (.iadd, 1) := by decide +kernel
theorem dL_law_1445 : decode cL_law 1445 = .ok (.iaload, 1) := by decide +kernel
theorem dL_law_1446 : decode cL_law 1446 = .ok (.aload_n 0, 1) := by decide +kernel
theorem dL_law_1447 : decode cL_law 1447 = .ok (.iload_n 3, 1) := by decide +kernel
theorem dL_law_1448 : decode cL_law 1448 = .ok (.iconst 3, 1) := by decide +kernel
theorem dL_law_1449 : decode cL_law 1449 = .ok (.iadd, 1) := by decide +kernel
theorem dL_law_1450 : decode cL_law 1450 = .ok (.iaload, 1) := by decide +kernel
theorem dL_law_1451 : decode cL_law 1451 = .ok (.aload_n 0, 1) := by decide +kernel
theorem dL_law_1452 : decode cL_law 1452 = .ok (.iload_n 3, 1) := by decide +kernel
theorem dL_law_1453 : decode cL_law 1453 = .ok (.iconst 4, 1) := by decide +kernel
theorem dL_law_1454 : decode cL_law 1454 = .ok (.iadd, 1) := by decide +kernel
theorem dL_law_1455 : decode cL_law 1455 = .ok (.iaload, 1) := by decide +kernel
theorem dL_law_1456 : decode cL_law 1456 = .ok (.invokevirtual 156, 3) := by decide +kernel
theorem dL_law_1459 : decode cL_law 1459 = .ok (.aload_n 2, 1) := by decide +kernel
theorem dL_law_1460 : decode cL_law 1460 = .ok (.aload_n 0, 1) := by decide +kernel
theorem dL_law_1461 : decode cL_law 1461 = .ok (.iload_n 3, 1) := by decide +kernel
theorem dL_law_1462 : decode cL_law 1462 = .ok (.iconst 1, 1) := by decide +kernel
theorem dL_law_1463 : decode cL_law 1463 = .ok (.iadd, 1) := by decide +kernel
theorem dL_law_1464 : decode cL_law 1464 = .ok (.iaload, 1) := by decide +kernel
theorem dL_law_1465 : decode cL_law 1465 = .ok (.aload_n 0, 1) := by decide +kernel
theorem dL_law_1466 : decode cL_law 1466 = .ok (.iload_n 3, 1) := by decide +kernel
theorem dL_law_1467 : decode cL_law 1467 = .ok (.iconst 2, 1) := by decide +kernel
theorem dL_law_1468 : decode cL_law 1468 = .ok (.iadd, 1) := by decide +kernel
theorem dL_law_1469 : decode cL_law 1469 = .ok (.iaload, 1) := by decide +kernel
theorem dL_law_1470 : decode cL_law 1470 = .ok (.aload_n 0, 1) := by decide +kernel
theorem dL_law_1471 : decode cL_law 1471 = .ok (.iload_n 3, 1) := by decide +kernel
theorem dL_law_1472 : decode cL_law 1472 = .ok (.iconst 3, 1) := by decide +kernel
theorem dL_law_1473 : decode cL_law 1473 = .ok (.iadd, 1) := by decide +kernel
theorem dL_law_1474 : decode cL_law 1474 = .ok (.iaload, 1) := by decide +kernel
theorem dL_law_1475 : decode cL_law 1475 = .ok (.aload_n 0, 1) := by decide +kernel
theorem dL_law_1476 : decode cL_law 1476 = .ok (.iload_n 3, 1) := by decide +kernel
theorem dL_law_1477 : decode cL_law 1477 = .ok (.iconst 4, 1) := by decide +kernel
theorem dL_law_1478 : decode cL_law 1478 = .ok (.iadd, 1) := by decide +kernel
theorem dL_law_1479 : decode cL_law 1479 = .ok (.iaload, 1) := by decide +kernel
theorem dL_law_1480 : decode cL_law 1480 = .ok (.invokevirtual 159, 3) := by decide +kernel
theorem dL_law_1483 : decode cL_law 1483 = .ok (.if_icmp .eq 244, 3) := by decide +kernel
theorem dL_law_1488 : decode cL_law 1488 = .ok (.aload_n 1, 1) := by decide +kernel
theorem dL_law_1489 : decode cL_law 1489 = .ok (.aload_n 0, 1) := by decide +kernel
theorem dL_law_1490 : decode cL_law 1490 = .ok (.iload_n 3, 1) := by decide +kernel
theorem dL_law_1491 : decode cL_law 1491 = .ok (.iconst 1, 1) := by decide +kernel
theorem dL_law_1492 : decode cL_law 1492 = .ok (.iadd, 1) := by decide +kernel
theorem dL_law_1493 : decode cL_law 1493 = .ok (.iaload, 1) := by decide +kernel
theorem dL_law_1494 : decode cL_law 1494 = .ok (.aload_n 0, 1) := by decide +kernel
theorem dL_law_1495 : decode cL_law 1495 = .ok (.iload_n 3, 1) := by decide +kernel
theorem dL_law_1496 : decode cL_law 1496 = .ok (.iconst 2, 1) := by decide +kernel
theorem dL_law_1497 : decode cL_law 1497 = .ok (.iadd, 1) := by decide +kernel
theorem dL_law_1498 : decode cL_law 1498 = .ok (.iaload, 1) := by decide +kernel
theorem dL_law_1499 : decode cL_law 1499 = .ok (.aload_n 0, 1) := by decide +kernel
theorem dL_law_1500 : decode cL_law 1500 = .ok (.iload_n 3, 1) := by decide +kernel
theorem dL_law_1501 : decode cL_law 1501 = .ok (.iconst 3, 1) := by decide +kernel
theorem dL_law_1502 : decode cL_law 1502 = .ok (.iadd, 1) := by decide +kernel
theorem dL_law_1503 : decode cL_law 1503 = .ok (.iaload, 1) := by decide +kernel
theorem dL_law_1504 : decode cL_law 1504 = .ok (.invokevirtual 160, 3) := by decide +kernel
theorem dL_law_1507 : decode cL_law 1507 = .ok (.aload_n 2, 1) := by decide +kernel
theorem dL_law_1508 : decode cL_law 1508 = .ok (.aload_n 0, 1) := by decide +kernel
theorem dL_law_1509 : decode cL_law 1509 = .ok (.iload_n 3, 1) := by decide +kernel
theorem dL_law_1510 : decode cL_law 1510 = .ok (.iconst 1, 1) := by decide +kernel
theorem dL_law_1511 : decode cL_law 1511 = .ok (.iadd, 1) := by decide +kernel
theorem dL_law_1512 : decode cL_law 1512 = .ok (.iaload, 1) := by decide +kernel
theorem dL_law_1513 : decode cL_law 1513 = .ok (.aload_n 0, 1) := by decide +kernel
theorem dL_law_1514 : decode cL_law 1514 = .ok (.iload_n 3, 1) := by decide +kernel
theorem dL_law_1515 : decode cL_law 1515 = .ok (.iconst 2, 1) := by decide +kernel
theorem dL_law_1516 : decode cL_law 1516 = .ok (.iadd, 1) := by decide +kernel
theorem dL_law_1517 : decode cL_law 1517 = .ok (.iaload, 1) := by decide +kernel
theorem dL_law_1518 : decode cL_law 1518 = .ok (.aload_n 0, 1) := by decide +kernel
theorem dL_law_1519 : decode cL_law 1519 = .ok (.iload_n 3, 1) := by decide +kernel
theorem dL_law_1520 : decode cL_law 1520 = .ok (.iconst 3, 1) := by decide +kernel
theorem dL_law_1521 : decode cL_law 1521 = .ok (.iadd, 1) := by decide +kernel
theorem dL_law_1522 : decode cL_law 1522 = .ok (.iaload, 1) := by decide +kernel
theorem dL_law_1523 : decode cL_law 1523 = .ok (.invokevirtual 163, 3) := by decide +kernel
theorem dL_law_1526 : decode cL_law 1526 = .ok (.if_icmp .eq 201, 3) := by decide +kernel
theorem dL_law_1531 : decode cL_law 1531 = .ok (.aload_n 1, 1) := by decide +kernel
theorem dL_law_1532 : decode cL_law 1532 = .ok (.aload_n 0, 1) := by decide +kernel
theorem dL_law_1533 : decode cL_law 1533 = .ok (.iload_n 3, 1) := by decide +kernel
theorem dL_law_1534 : decode cL_law 1534 = .ok (.iconst 1, 1) := by decide +kernel
theorem dL_law_1535 : decode cL_law 1535 = .ok (.iadd, 1) := by decide +kernel
theorem dL_law_1536 : decode cL_law 1536 = .ok (.iaload, 1) := by decide +kernel
theorem dL_law_1537 : decode cL_law 1537 = .ok (.aload_n 0, 1) := by decide +kernel
theorem dL_law_1538 : decode cL_law 1538 = .ok (.iload_n 3, 1) := by decide +kernel
theorem dL_law_1539 : decode cL_law 1539 = .ok (.iconst 2, 1) := by decide +kernel
theorem dL_law_1540 : decode cL_law 1540 = .ok (.iadd, 1) := by decide +kernel
theorem dL_law_1541 : decode cL_law 1541 = .ok (.iaload, 1) := by decide +kernel
theorem dL_law_1542 : decode cL_law 1542 = .ok (.aload_n 0, 1) := by decide +kernel
theorem dL_law_1543 : decode cL_law 1543 = .ok (.iload_n 3, 1) := by decide +kernel
theorem dL_law_1544 : decode cL_law 1544 = .ok (.iconst 3, 1) := by decide +kernel
theorem dL_law_1545 : decode cL_law 1545 = .ok (.iadd, 1) := by decide +kernel
theorem dL_law_1546 : decode cL_law 1546 = .ok (.iaload, 1) := by decide +kernel
theorem dL_law_1547 : decode cL_law 1547 = .ok (.i2l, 1) := by decide +kernel
theorem dL_law_1548 : decode cL_law 1548 = .ok (.bipush 32, 2) := by decide +kernel
theorem dL_law_1550 : decode cL_law 1550 = .ok (.lshl, 1) := by decide +kernel
theorem dL_law_1551 : decode cL_law 1551 = .ok (.aload_n 0, 1) := by decide +kernel
theorem dL_law_1552 : decode cL_law 1552 = .ok (.iload_n 3, 1) := by decide +kernel
theorem dL_law_1553 : decode cL_law 1553 = .ok (.iconst 4, 1) := by decide +kernel
theorem dL_law_1554 : decode cL_law 1554 = .ok (.iadd, 1) := by decide +kernel
theorem dL_law_1555 : decode cL_law 1555 = .ok (.iaload, 1) := by decide +kernel
theorem dL_law_1556 : decode cL_law 1556 = .ok (.i2l, 1) := by decide +kernel
theorem dL_law_1557 : decode cL_law 1557 = .ok (.ldc2_w 164, 3) := by decide +kernel
theorem dL_law_1560 : decode cL_law 1560 = .ok (.land, 1) := by decide +kernel
theorem dL_law_1561 : decode cL_law 1561 = .ok (.lor, 1) := by decide +kernel
theorem dL_law_1562 : decode cL_law 1562 = .ok (.invokevirtual 166, 3) := by decide +kernel
theorem dL_law_1565 : decode cL_law 1565 = .ok (.aload_n 2, 1) := by decide +kernel
theorem dL_law_1566 : decode cL_law 1566 = .ok (.aload_n 0, 1) := by decide +kernel
theorem dL_law_1567 : decode cL_law 1567 = .ok (.iload_n 3, 1) := by decide +kernel
theorem dL_law_1568 : decode cL_law 1568 = .ok (.iconst 1, 1) := by decide +kernel
theorem dL_law_1569 : decode cL_law 1569 = .ok (.iadd, 1) := by decide +kernel
theorem dL_law_1570 : decode cL_law 1570 = .ok (.iaload, 1) := by decide +kernel
theorem dL_law_1571 : decode cL_law 1571 = .ok (.aload_n 0, 1) := by decide +kernel
theorem dL_law_1572 : decode cL_law 1572 = .ok (.iload_n 3, 1) := by decide +kernel
theorem dL_law_1573 : decode cL_law 1573 = .ok (.iconst 2, 1) := by decide +kernel
theorem dL_law_1574 : decode cL_law 1574 = .ok (.iadd, 1) := by decide +kernel
theorem dL_law_1575 : decode cL_law 1575 = .ok (.iaload, 1) := by decide +kernel
theorem dL_law_1576 : decode cL_law 1576 = .ok (.aload_n 0, 1) := by decide +kernel
theorem dL_law_1577 : decode cL_law 1577 = .ok (.iload_n 3, 1) := by decide +kernel
theorem dL_law_1578 : decode cL_law 1578 = .ok (.iconst 3, 1) := by decide +kernel
theorem dL_law_1579 : decode cL_law 1579 = .ok (.iadd, 1) := by decide +kernel
theorem dL_law_1580 : decode cL_law 1580 = .ok (.iaload, 1) := by decide +kernel
theorem dL_law_1581 : decode cL_law 1581 = .ok (.i2l, 1) := by decide +kernel
theorem dL_law_1582 : decode cL_law 1582 = .ok (.bipush 32, 2) := by decide +kernel
theorem dL_law_1584 : decode cL_law 1584 = .ok (.lshl, 1) := by decide +kernel
theorem dL_law_1585 : decode cL_law 1585 = .ok (.aload_n 0, 1) := by decide +kernel
theorem dL_law_1586 : decode cL_law 1586 = .ok (.iload_n 3, 1) := by decide +kernel
theorem dL_law_1587 : decode cL_law 1587 = .ok (.iconst 4, 1) := by decide +kernel
theorem dL_law_1588 : decode cL_law 1588 = .ok (.iadd, 1) := by decide +kernel
theorem dL_law_1589 : decode cL_law 1589 = .ok (.iaload, 1) := by decide +kernel
theorem dL_law_1590 : decode cL_law 1590 = .ok (.i2l, 1) := by decide +kernel
theorem dL_law_1591 : decode cL_law 1591 = .ok (.ldc2_w 164, 3) := by decide +kernel
theorem dL_law_1594 : decode cL_law 1594 = .ok (.land, 1) := by decide +kernel
theorem dL_law_1595 : decode cL_law 1595 = .ok (.lor, 1) := by decide +kernel
theorem dL_law_1596 : decode cL_law 1596 = .ok (.invokevirtual 170, 3) := by decide +kernel
theorem dL_law_1599 : decode cL_law 1599 = .ok (.lcmp, 1) := by decide +kernel
theorem dL_law_1600 : decode cL_law 1600 = .ok (.ifCond .eq 127, 3) := by decide +kernel
theorem dL_law_1605 : decode cL_law 1605 = .ok (.aload_n 1, 1) := by decide +kernel
theorem dL_law_1606 : decode cL_law 1606 = .ok (.aload_n 0, 1) := by decide +kernel
theorem dL_law_1607 : decode cL_law 1607 = .ok (.iload_n 3, 1) := by decide +kernel
theorem dL_law_1608 : decode cL_law 1608 = .ok (.iconst 1, 1) := by decide +kernel
theorem dL_law_1609 : decode cL_law 1609 = .ok (.iadd, 1) := by decide +kernel
theorem dL_law_1610 : decode cL_law 1610 = .ok (.iaload, 1) := by decide +kernel
theorem dL_law_1611 : decode cL_law 1611 = .ok (.aload_n 0, 1) := by decide +kernel
theorem dL_law_1612 : decode cL_law 1612 = .ok (.iload_n 3, 1) := by decide +kernel
theorem dL_law_1613 : decode cL_law 1613 = .ok (.iconst 2, 1) := by decide +kernel
theorem dL_law_1614 : decode cL_law 1614 = .ok (.iadd, 1) := by decide +kernel
theorem dL_law_1615 : decode cL_law 1615 = .ok (.iaload, 1) := by decide +kernel
theorem dL_law_1616 : decode cL_law 1616 = .ok (.aload_n 0, 1) := by decide +kernel
theorem dL_law_1617 : decode cL_law 1617 = .ok (.iload_n 3, 1) := by decide +kernel
theorem dL_law_1618 : decode cL_law 1618 = .ok (.iconst 3, 1) := by decide +kernel
theorem dL_law_1619 : decode cL_law 1619 = .ok (.iadd, 1) := by decide +kernel
theorem dL_law_1620 : decode cL_law 1620 = .ok (.iaload, 1) := by decide +kernel
theorem dL_law_1621 : decode cL_law 1621 = .ok (.aload_n 0, 1) := by decide +kernel
theorem dL_law_1622 : decode cL_law 1622 = .ok (.iload_n 3, 1) := by decide +kernel
theorem dL_law_1623 : decode cL_law 1623 = .ok (.iconst 4, 1) := by decide +kernel
theorem dL_law_1624 : decode cL_law 1624 = .ok (.iadd, 1) := by decide +kernel
theorem dL_law_1625 : decode cL_law 1625 = .ok (.iaload, 1) := by decide +kernel
theorem dL_law_1626 : decode cL_law 1626 = .ok (.invokevirtual 171, 3) := by decide +kernel
theorem dL_law_1629 : decode cL_law 1629 = .ok (.aload_n 2, 1) := by decide +kernel
theorem dL_law_1630 : decode cL_law 1630 = .ok (.aload_n 0, 1) := by decide +kernel
theorem dL_law_1631 : decode cL_law 1631 = .ok (.iload_n 3, 1) := by decide +kernel
theorem dL_law_1632 : decode cL_law 1632 = .ok (.iconst 1, 1) := by decide +kernel
theorem dL_law_1633 : decode cL_law 1633 = .ok (.iadd, 1) := by decide +kernel
theorem dL_law_1634 : decode cL_law 1634 = .ok (.iaload, 1) := by decide +kernel
theorem dL_law_1635 : decode cL_law 1635 = .ok (.aload_n 0, 1) := by decide +kernel
theorem dL_law_1636 : decode cL_law 1636 = .ok (.iload_n 3, 1) := by decide +kernel
theorem dL_law_1637 : decode cL_law 1637 = .ok (.iconst 2, 1) := by decide +kernel
theorem dL_law_1638 : decode cL_law 1638 = .ok (.iadd, 1) := by decide +kernel
theorem dL_law_1639 : decode cL_law 1639 = .ok (.iaload, 1) := by decide +kernel
theorem dL_law_1640 : decode cL_law 1640 = .ok (.aload_n 0, 1) := by decide +kernel
theorem dL_law_1641 : decode cL_law 1641 = .ok (.iload_n 3, 1) := by decide +kernel
theorem dL_law_1642 : decode cL_law 1642 = .ok (.iconst 3, 1) := by decide +kernel
theorem dL_law_1643 : decode cL_law 1643 = .ok (.iadd, 1) := by decide +kernel
theorem dL_law_1644 : decode cL_law 1644 = .ok (.iaload, 1) := by decide +kernel
theorem dL_law_1645 : decode cL_law 1645 = .ok (.aload_n 0, 1) := by decide +kernel
theorem dL_law_1646 : decode cL_law 1646 = .ok (.iload_n 3, 1) := by decide +kernel
theorem dL_law_1647 : decode cL_law 1647 = .ok (.iconst 4, 1) := by decide +kernel
theorem dL_law_1648 : decode cL_law 1648 = .ok (.iadd, 1) := by decide +kernel
theorem dL_law_1649 : decode cL_law 1649 = .ok (.iaload, 1) := by decide +kernel
theorem dL_law_1650 : decode cL_law 1650 = .ok (.invokevirtual 174, 3) := by decide +kernel
theorem dL_law_1653 : decode cL_law 1653 = .ok (.if_icmp .eq 74, 3) := by decide +kernel
theorem dL_law_1658 : decode cL_law 1658 = .ok (.aload_n 1, 1) := by decide +kernel
theorem dL_law_1659 : decode cL_law 1659 = .ok (.aload_n 0, 1) := by decide +kernel
theorem dL_law_1660 : decode cL_law 1660 = .ok (.iload_n 3, 1) := by decide +kernel
theorem dL_law_1661 : decode cL_law 1661 = .ok (.iconst 1, 1) := by decide +kernel
theorem dL_law_1662 : decode cL_law 1662 = .ok (.iadd, 1) := by decide +kernel
theorem dL_law_1663 : decode cL_law 1663 = .ok (.iaload, 1) := by decide +kernel
theorem dL_law_1664 : decode cL_law 1664 = .ok (.invokevirtual 175, 3) := by decide +kernel
theorem dL_law_1667 : decode cL_law 1667 = .ok (.aload_n 2, 1) := by decide +kernel
theorem dL_law_1668 : decode cL_law 1668 = .ok (.aload_n 0, 1) := by decide +kernel
theorem dL_law_1669 : decode cL_law 1669 = .ok (.iload_n 3, 1) := by decide +kernel
theorem dL_law_1670 : decode cL_law 1670 = .ok (.iconst 1, 1) := by decide +kernel
theorem dL_law_1671 : decode cL_law 1671 = .ok (.iadd, 1) := by decide +kernel
theorem dL_law_1672 : decode cL_law 1672 = .ok (.iaload, 1) := by decide +kernel
theorem dL_law_1673 : decode cL_law 1673 = .ok (.invokevirtual 178, 3) := by decide +kernel
theorem dL_law_1676 : decode cL_law 1676 = .ok (.if_icmp .eq 51, 3) := by decide +kernel
theorem dL_law_1681 : decode cL_law 1681 = .ok (.aload_n 1, 1) := by decide +kernel
theorem dL_law_1682 : decode cL_law 1682 = .ok (.aload_n 0, 1) := by decide +kernel
theorem dL_law_1683 : decode cL_law 1683 = .ok (.iload_n 3, 1) := by decide +kernel
theorem dL_law_1684 : decode cL_law 1684 = .ok (.iconst 1, 1) := by decide +kernel
theorem dL_law_1685 : decode cL_law 1685 = .ok (.iadd, 1) := by decide +kernel
theorem dL_law_1686 : decode cL_law 1686 = .ok (.iaload, 1) := by decide +kernel
theorem dL_law_1687 : decode cL_law 1687 = .ok (.invokevirtual 179, 3) := by decide +kernel
theorem dL_law_1690 : decode cL_law 1690 = .ok (.aload_n 2, 1) := by decide +kernel
theorem dL_law_1691 : decode cL_law 1691 = .ok (.aload_n 0, 1) := by decide +kernel
theorem dL_law_1692 : decode cL_law 1692 = .ok (.iload_n 3, 1) := by decide +kernel
theorem dL_law_1693 : decode cL_law 1693 = .ok (.iconst 1, 1) := by decide +kernel
theorem dL_law_1694 : decode cL_law 1694 = .ok (.iadd, 1) := by decide +kernel
theorem dL_law_1695 : decode cL_law 1695 = .ok (.iaload, 1) := by decide +kernel
theorem dL_law_1696 : decode cL_law 1696 = .ok (.invokevirtual 182, 3) := by decide +kernel
theorem dL_law_1699 : decode cL_law 1699 = .ok (.if_icmp .eq 28, 3) := by decide +kernel
theorem dL_law_1704 : decode cL_law 1704 = .ok (.aload_n 1, 1) := by decide +kernel
theorem dL_law_1705 : decode cL_law 1705 = .ok (.aload_n 0, 1) := by decide +kernel
theorem dL_law_1706 : decode cL_law 1706 = .ok (.iload_n 3, 1) := by decide +kernel
theorem dL_law_1707 : decode cL_law 1707 = .ok (.iconst 1, 1) := by decide +kernel
theorem dL_law_1708 : decode cL_law 1708 = .ok (.iadd, 1) := by decide +kernel
theorem dL_law_1709 : decode cL_law 1709 = .ok (.iaload, 1) := by decide +kernel
theorem dL_law_1710 : decode cL_law 1710 = .ok (.invokevirtual 183, 3) := by decide +kernel
theorem dL_law_1713 : decode cL_law 1713 = .ok (.aload_n 2, 1) := by decide +kernel
theorem dL_law_1714 : decode cL_law 1714 = .ok (.aload_n 0, 1) := by decide +kernel
theorem dL_law_1715 : decode cL_law 1715 = .ok (.iload_n 3, 1) := by decide +kernel
theorem dL_law_1716 : decode cL_law 1716 = .ok (.iconst 1, 1) := by decide +kernel
theorem dL_law_1717 : decode cL_law 1717 = .ok (.iadd, 1) := by decide +kernel
theorem dL_law_1718 : decode cL_law 1718 = .ok (.iaload, 1) := by decide +kernel
theorem dL_law_1719 : decode cL_law 1719 = .ok (.invokevirtual 186, 3) := by decide +kernel
theorem dL_law_1722 : decode cL_law 1722 = .ok (.if_icmp .eq 5, 3) := by decide +kernel
theorem dL_law_1727 : decode cL_law 1727 = .ok (.iinc 3 6, 3) := by decide +kernel
theorem dL_law_1730 : decode cL_law 1730 = .ok (.goto (-1712), 3) := by decide +kernel
theorem dL_law_1733 : decode cL_law 1733 = .ok (.iconst 1, 1) := by decide +kernel
theorem dL_law_1734 : decode cL_law 1734 = .ok (.ireturn, 1) := by decide +kernel
set_option maxHeartbeats 4000000 in
set_option maxRecDepth 100000 in
theorem law_tail {p : Program} {l : Launch} {e : Env} {s : State} {m : MethodId} {below : List Frame} {meth : Method} {c : Code} {b : Nat} {xs : Nat → Int32} {A : Nat → Prop} (C0 : Cx p s m #[Value.ref b] meth c RL cL_law 4 (some .boolean)) (hX : va_X b 6 xs s s.heap) (hbl : b < s.heap.size) (hbA : ¬ A b) (hAs : ∀ q : Nat, A q → s.heap.size ≤ q) (G : GG) {ws : va_W} {H : Heap} {locs : List Loc} {ls : Array Slot} {x o : Nat} (h : Wd G A s H locs ws) (hl : lv_has ls 4 [(0, .ref b), (1, .ref x), (2, .ref o), (3, .int 0)]) : W p l e room_1 s m #[Value.ref b] below meth c H locs 600000 7302250 (lw_Z below #[Value.ref b] s) (F0 m 1727 ls []) := by
  obtain ⟨hx, hb, hml, hown, hts, -⟩ := id C0
  refine lv_iinc (v := 6) (lv' := [(3, .int 6), (0, .ref b), (1, .ref x), (2, .ref o)]) hx hb dL_law_1727 hl (k := 3) rfl (by decide) (by decide) rfl (fun ls hl => ?_)
  refine lv_goto (tgt := 18) hx hb dL_law_1730 (by decide) ?_
  refine lv_iload_n hx hb dL_law_18 rfl (lv_at hl 0 rfl) ?_
  refine lv_aload_n hx hb dL_law_19 rfl (lv_at hl 1 rfl) ?_
  refine va_slen hx hb hX hbl hbA h.2.2.2.1 dL_law_20 ?_
  refine W.eq (g2 := F0 m 21 ls [.int 6, .int 6]) rfl ?_
  refine lv_bipush (v := 6) hx hb dL_law_21 (by decide) ?_
  refine lv_isub hx hb dL_law_23 ?_
  refine lv_topi (fun k_1 ek_1 => ?_)
  obtain rfl : k_1 = 0 := ek_1.trans (by decide)
  refine lv_icmp_gt (tgt := 1733) hx hb dL_law_24 (by decide) (fun c_2 => ?_) (fun c_2 => absurd c_2 (by decide))
  refine lv_iconst (v := 1) hx hb dL_law_1733 (by decide) ?_
  refine va_forget (fun q hq => hAs _ (h.2.2.2.1.2.2 q hq)) ?_
  exact lw_ret hx hb C0.2.2.2.2.2.1 C0.2.2.2.2.2.2.1 dL_law_1734
set_option maxHeartbeats 4000000 in
set_option maxRecDepth 100000 in
theorem law_case_0 {p : Program} {l : Launch} {e : Env} {s : State} {m : MethodId} {below : List Frame} {meth : Method} {c : Code} {b : Nat} {xs : Nat → Int32} {A : Nat → Prop} (C0 : Cx p s m #[Value.ref b] meth c RL cL_law 4 (some .boolean)) (hX : va_X b 6 xs s s.heap) (hbl : b < s.heap.size) (hbA : ¬ A b) (hAs : ∀ q : Nat, A q → s.heap.size ≤ q) (G : GG) (x o : Nat) (ad : Nat → Nat → Nat) (pf : Nat → Option Nat) (hpf : pf 0 = some (ad 7 7)) (r : Nat → Nat) {H : Heap} {locs : List Loc} {ls : Array Slot} (h : Wd G A s H locs (xW G x ad pf ++ mW G o r)) (hl : lv_has ls 4 [(0, .ref b), (1, .ref x), (2, .ref o), (3, .int 0)]) : W p l e room_1 s m #[Value.ref b] below meth c H locs 1000 200000 (lw_Z below #[Value.ref b] s) (F0 m 212 ls []) := by
  obtain ⟨hx, hb, hml, hown, hts, -⟩ := id C0
  refine lv_aload_n hx hb dL_law_212 rfl (lv_at hl 1 rfl) ?_
  refine lv_aload_n hx hb dL_law_213 rfl (lv_at hl 0 rfl) ?_
  refine lv_iload_n hx hb dL_law_214 rfl (lv_at hl 3 rfl) ?_
  refine lv_iconst (v := 1) hx hb dL_law_215 (by decide) ?_
  refine lv_iadd hx hb dL_law_216 ?_
  refine lv_topi (fun k_1 ek_1 => ?_)
  obtain rfl : k_1 = 1 := ek_1.trans (by decide)
  refine va_sld hx hb hX hbl hbA h.2.2.2.1 (vp_in_nI (n := 1) (N := 6) (by decide) (by decide)) dL_law_217 ?_
  refine W.eq (g2 := F0 m 218 ls [.int (xs 1), .ref x]) rfl ?_
  refine lv_aload_n hx hb dL_law_218 rfl (lv_at hl 0 rfl) ?_
  refine lv_iload_n hx hb dL_law_219 rfl (lv_at hl 3 rfl) ?_
  refine lv_iconst (v := 2) hx hb dL_law_220 (by decide) ?_
  refine lv_iadd hx hb dL_law_221 ?_
  refine lv_topi (fun k_2 ek_2 => ?_)
  obtain rfl : k_2 = 2 := ek_2.trans (by decide)
  refine va_sld hx hb hX hbl hbA h.2.2.2.1 (vp_in_nI (n := 2) (N := 6) (by decide) (by decide)) dL_law_222 ?_
  refine W.eq (g2 := F0 m 223 ls [.int (xs 2), .int (xs 1), .ref x]) rfl ?_
  refine lv_aload_n hx hb dL_law_223 rfl (lv_at hl 0 rfl) ?_
  refine lv_iload_n hx hb dL_law_224 rfl (lv_at hl 3 rfl) ?_
  refine lv_iconst (v := 3) hx hb dL_law_225 (by decide) ?_
  refine lv_iadd hx hb dL_law_226 ?_
  refine lv_topi (fun k_3 ek_3 => ?_)
  obtain rfl : k_3 = 3 := ek_3.trans (by decide)
  refine va_sld hx hb hX hbl hbA h.2.2.2.1 (vp_in_nI (n := 3) (N := 6) (by decide) (by decide)) dL_law_227 ?_
  refine W.eq (g2 := F0 m 228 ls [.int (xs 3), .int (xs 2), .int (xs 1), .ref x]) rfl ?_
  refine lv_aload_n hx hb dL_law_228 rfl (lv_at hl 0 rfl) ?_
  refine lv_iload_n hx hb dL_law_229 rfl (lv_at hl 3 rfl) ?_
  refine lv_iconst (v := 4) hx hb dL_law_230 (by decide) ?_
  refine lv_iadd hx hb dL_law_231 ?_
  refine lv_topi (fun k_4 ek_4 => ?_)
  obtain rfl : k_4 = 4 := ek_4.trans (by decide)
  refine va_sld hx hb hX hbl hbA h.2.2.2.1 (vp_in_nI (n := 4) (N := 6) (by decide) (by decide)) dL_law_232 ?_
  refine W.eq (g2 := F0 m 233 ls [.int (xs 4), .int (xs 3), .int (xs 2), .int (xs 1), .ref x]) rfl ?_
  refine lv_aload_n hx hb dL_law_233 rfl (lv_at hl 0 rfl) ?_
  refine lv_iload_n hx hb dL_law_234 rfl (lv_at hl 3 rfl) ?_
  refine lv_iconst (v := 5) hx hb dL_law_235 (by decide) ?_
  refine lv_iadd hx hb dL_law_236 ?_
  refine lv_topi (fun k_5 ek_5 => ?_)
  obtain rfl : k_5 = 5 := ek_5.trans (by decide)
  refine va_sld hx hb hX hbl hbA h.2.2.2.1 (vp_in_nI (n := 5) (N := 6) (by decide) (by decide)) dL_law_237 ?_
  refine W.eq (g2 := F0 m 238 ls [.int (xs 5), .int (xs 4), .int (xs 3), .int (xs 2), .int (xs 1), .ref x]) rfl ?_
  refine m_cli (wr := (mW G o r)) h (m_rV (ci := 11) (q0 := 0) (As := [.int (xs 1), .int (xs 2), .int (xs 3), .int (xs 4), .int (xs 5)]) (rest := []) C0 h (c_X11_feed l G x (ad 0) (ad 2) (ad 3) (xs 1) (xs 2) (xs 3) (xs 4) (xs 5)) k_X11_feed q_575 q_576 q_574 rfl rfl rfl [0, 1, 2] (by decide) rfl hl.1 rfl rfl (Nat.le_of_ble_eq_true rfl) dL_law_238 ⟨Nat.le_of_ble_eq_true rfl, Nat.le_of_ble_eq_true rfl⟩ ⟨Nat.le_of_ble_eq_true rfl, Nat.le_of_ble_eq_true rfl⟩) [0, 1, 2] [86, 87, 88, 89, 90, 91, 92, 93, 94] rfl rfl (by decide) (by decide) (fun r_8 u_6 H locs hp_7 h => ?_)
  have h : Wd G A s _ _ (mW G o r) := h
  refine lv_aload_n hx hb dL_law_241 rfl (lv_at hl 2 rfl) ?_
  refine lv_aload_n hx hb dL_law_242 rfl (lv_at hl 0 rfl) ?_
  refine lv_iload_n hx hb dL_law_243 rfl (lv_at hl 3 rfl) ?_
  refine lv_iconst (v := 1) hx hb dL_law_244 (by decide) ?_
  refine lv_iadd hx hb dL_law_245 ?_
  refine lv_topi (fun k_9 ek_9 => ?_)
  obtain rfl : k_9 = 1 := ek_9.trans (by decide)
  refine va_sld hx hb hX hbl hbA h.2.2.2.1 (vp_in_nI (n := 1) (N := 6) (by decide) (by decide)) dL_law_246 ?_
  refine W.eq (g2 := F0 m 247 ls [.int (xs 1), .ref o, .int r_8]) rfl ?_
  refine lv_aload_n hx hb dL_law_247 rfl (lv_at hl 0 rfl) ?_
  refine lv_iload_n hx hb dL_law_248 rfl (lv_at hl 3 rfl) ?_
  refine lv_iconst (v := 2) hx hb dL_law_249 (by decide) ?_
  refine lv_iadd hx hb dL_law_250 ?_
  refine lv_topi (fun k_10 ek_10 => ?_)
  obtain rfl : k_10 = 2 := ek_10.trans (by decide)
  refine va_sld hx hb hX hbl hbA h.2.2.2.1 (vp_in_nI (n := 2) (N := 6) (by decide) (by decide)) dL_law_251 ?_
  refine W.eq (g2 := F0 m 252 ls [.int (xs 2), .int (xs 1), .ref o, .int r_8]) rfl ?_
  refine lv_aload_n hx hb dL_law_252 rfl (lv_at hl 0 rfl) ?_
  refine lv_iload_n hx hb dL_law_253 rfl (lv_at hl 3 rfl) ?_
  refine lv_iconst (v := 3) hx hb dL_law_254 (by decide) ?_
  refine lv_iadd hx hb dL_law_255 ?_
  refine lv_topi (fun k_11 ek_11 => ?_)
  obtain rfl : k_11 = 3 := ek_11.trans (by decide)
  refine va_sld hx hb hX hbl hbA h.2.2.2.1 (vp_in_nI (n := 3) (N := 6) (by decide) (by decide)) dL_law_256 ?_
  refine W.eq (g2 := F0 m 257 ls [.int (xs 3), .int (xs 2), .int (xs 1), .ref o, .int r_8]) rfl ?_
  refine lv_aload_n hx hb dL_law_257 rfl (lv_at hl 0 rfl) ?_
  refine lv_iload_n hx hb dL_law_258 rfl (lv_at hl 3 rfl) ?_
  refine lv_iconst (v := 4) hx hb dL_law_259 (by decide) ?_
  refine lv_iadd hx hb dL_law_260 ?_
  refine lv_topi (fun k_12 ek_12 => ?_)
  obtain rfl : k_12 = 4 := ek_12.trans (by decide)
  refine va_sld hx hb hX hbl hbA h.2.2.2.1 (vp_in_nI (n := 4) (N := 6) (by decide) (by decide)) dL_law_261 ?_
  refine W.eq (g2 := F0 m 262 ls [.int (xs 4), .int (xs 3), .int (xs 2), .int (xs 1), .ref o, .int r_8]) rfl ?_
  refine lv_aload_n hx hb dL_law_262 rfl (lv_at hl 0 rfl) ?_
  refine lv_iload_n hx hb dL_law_263 rfl (lv_at hl 3 rfl) ?_
  refine lv_iconst (v := 5) hx hb dL_law_264 (by decide) ?_
  refine lv_iadd hx hb dL_law_265 ?_
  refine lv_topi (fun k_13 ek_13 => ?_)
  obtain rfl : k_13 = 5 := ek_13.trans (by decide)
  refine va_sld hx hb hX hbl hbA h.2.2.2.1 (vp_in_nI (n := 5) (N := 6) (by decide) (by decide)) dL_law_266 ?_
  refine W.eq (g2 := F0 m 267 ls [.int (xs 5), .int (xs 4), .int (xs 3), .int (xs 2), .int (xs 1), .ref o, .int r_8]) rfl ?_
  refine m_cli (wr := []) h (m_rV (ci := 12) (q0 := 0) (As := [.int (xs 1), .int (xs 2), .int (xs 3), .int (xs 4), .int (xs 5)]) (rest := [.int r_8]) C0 h (c_X12_feed l G o r (xs 1) (xs 2) (xs 3) (xs 4) (xs 5)) k_X12_feed q_1572 q_1573 q_1571 rfl rfl rfl [0, 3] (by decide) rfl hl.1 rfl rfl (Nat.le_of_ble_eq_true rfl) dL_law_267 ⟨Nat.le_of_ble_eq_true rfl, Nat.le_of_ble_eq_true rfl⟩ ⟨Nat.le_of_ble_eq_true rfl, Nat.le_of_ble_eq_true rfl⟩) [0, 3] [] rfl rfl (by decide) (by decide) (fun r_16 u_14 H locs hp_15 h => ?_)
  have h : Wd G A s _ _ [] := h
  refine lv_icmp_eq (tgt := 1727) hx hb dL_law_270 (by decide) (fun _ => ?_) (fun c_17 => absurd (hp_7.trans hp_15.symm) c_17)
  refine W.widen (k := 600000) (n := 7302250) (Nat.le_of_ble_eq_true rfl) (Nat.le_of_ble_eq_true rfl) ?_
  exact law_tail C0 hX hbl hbA hAs G h (lv_sub hl [0, 1, 2, 3] rfl)
set_option maxHeartbeats 4000000 in
set_option maxRecDepth 100000 in
theorem law_case_1 {p : Program} {l : Launch} {e : Env} {s : State} {m : MethodId} {below : List Frame} {meth : Method} {c : Code} {b : Nat} {xs : Nat → Int32} {A : Nat → Prop} (C0 : Cx p s m #[Value.ref b] meth c RL cL_law 4 (some .boolean)) (hX : va_X b 6 xs s s.heap) (hbl : b < s.heap.size) (hbA : ¬ A b) (hAs : ∀ q : Nat, A q → s.heap.size ≤ q) (G : GG) (x o : Nat) (ad : Nat → Nat → Nat) (pf : Nat → Option Nat) (hpf : pf 0 = some (ad 7 7)) (r : Nat → Nat) {H : Heap} {locs : List Loc} {ls : Array Slot} (h : Wd G A s H locs (xW G x ad pf ++ mW G o r)) (hl : lv_has ls 4 [(0, .ref b), (1, .ref x), (2, .ref o), (3, .int 0)]) : W p l e room_1 s m #[Value.ref b] below meth c H locs 1000 200000 (lw_Z below #[Value.ref b] s) (F0 m 275 ls []) := by
  obtain ⟨hx, hb, hml, hown, hts, -⟩ := id C0
  refine lv_aload_n hx hb dL_law_275 rfl (lv_at hl 1 rfl) ?_
  refine lv_aload_n hx hb dL_law_276 rfl (lv_at hl 0 rfl) ?_
  refine lv_iload_n hx hb dL_law_277 rfl (lv_at hl 3 rfl) ?_
  refine lv_iconst (v := 1) hx hb dL_law_278 (by decide) ?_
  refine lv_iadd hx hb dL_law_279 ?_
  refine lv_topi (fun k_1 ek_1 => ?_)
  obtain rfl : k_1 = 1 := ek_1.trans (by decide)
  refine va_sld hx hb hX hbl hbA h.2.2.2.1 (vp_in_nI (n := 1) (N := 6) (by decide) (by decide)) dL_law_280 ?_
  refine W.eq (g2 := F0 m 281 ls [.int (xs 1), .ref x]) rfl ?_
  refine m_cli (wr := (mW G o r)) h (m_rV (ci := 11) (q0 := 0) (As := [.int (xs 1)]) (rest := []) C0 h (c_X11_city l G x (ad 0) (ad 1) (ad 2) (ad 3) (xs 1)) k_X11_city q_591 q_592 q_590 rfl rfl rfl [0, 1, 41, 42, 43, 44, 45, 46, 47, 48, 49, 50, 51, 52, 53, 54, 55, 26, 27, 28, 29, 30, 31, 32, 33, 34, 35, 36, 37, 38, 39, 40, 3, 4] (by decide) rfl hl.1 rfl rfl (Nat.le_of_ble_eq_true rfl) dL_law_281 ⟨Nat.le_of_ble_eq_true rfl, Nat.le_of_ble_eq_true rfl⟩ ⟨Nat.le_of_ble_eq_true rfl, Nat.le_of_ble_eq_true rfl⟩) [0, 1, 41, 42, 43, 44, 45, 46, 47, 48, 49, 50, 51, 52, 53, 54, 55, 26, 27, 28, 29, 30, 31, 32, 33, 34, 35, 36, 37, 38, 39, 40, 3, 4] [86, 87, 88, 89, 90, 91, 92, 93, 94] rfl rfl (by decide) (by decide) (fun r_4 u_2 H locs hp_3 h => ?_)
  have h : Wd G A s _ _ (mW G o r) := h
  refine lv_aload_n hx hb dL_law_284 rfl (lv_at hl 2 rfl) ?_
  refine lv_aload_n hx hb dL_law_285 rfl (lv_at hl 0 rfl) ?_
  refine lv_iload_n hx hb dL_law_286 rfl (lv_at hl 3 rfl) ?_
  refine lv_iconst (v := 1) hx hb dL_law_287 (by decide) ?_
  refine lv_iadd hx hb dL_law_288 ?_
  refine lv_topi (fun k_5 ek_5 => ?_)
  obtain rfl : k_5 = 1 := ek_5.trans (by decide)
  refine va_sld hx hb hX hbl hbA h.2.2.2.1 (vp_in_nI (n := 1) (N := 6) (by decide) (by decide)) dL_law_289 ?_
  refine W.eq (g2 := F0 m 290 ls [.int (xs 1), .ref o, .int r_4]) rfl ?_
  refine m_cli (wr := []) h (m_rV (ci := 12) (q0 := 0) (As := [.int (xs 1)]) (rest := [.int r_4]) C0 h (c_X12_city l G o r (xs 1)) k_X12_city q_1576 q_1577 q_1575 rfl rfl rfl [0, 1, 4] (by decide) rfl hl.1 rfl rfl (Nat.le_of_ble_eq_true rfl) dL_law_290 ⟨Nat.le_of_ble_eq_true rfl, Nat.le_of_ble_eq_true rfl⟩ ⟨Nat.le_of_ble_eq_true rfl, Nat.le_of_ble_eq_true rfl⟩) [0, 1, 4] [] rfl rfl (by decide) (by decide) (fun r_8 u_6 H locs hp_7 h => ?_)
  have h : Wd G A s _ _ [] := h
  refine lv_icmp_eq (tgt := 1727) hx hb dL_law_293 (by decide) (fun _ => ?_) (fun c_9 => absurd (hp_3.trans hp_7.symm) c_9)
  refine W.widen (k := 600000) (n := 7302250) (Nat.le_of_ble_eq_true rfl) (Nat.le_of_ble_eq_true rfl) ?_
  exact law_tail C0 hX hbl hbA hAs G h (lv_sub hl [0, 1, 2, 3] rfl)
set_option maxHeartbeats 4000000 in
set_option maxRecDepth 100000 in
theorem law_case_2 {p : Program} {l : Launch} {e : Env} {s : State} {m : MethodId} {below : List Frame} {meth : Method} {c : Code} {b : Nat} {xs : Nat → Int32} {A : Nat → Prop} (C0 : Cx p s m #[Value.ref b] meth c RL cL_law 4 (some .boolean)) (hX : va_X b 6 xs s s.heap) (hbl : b < s.heap.size) (hbA : ¬ A b) (hAs : ∀ q : Nat, A q → s.heap.size ≤ q) (G : GG) (x o : Nat) (ad : Nat → Nat → Nat) (pf : Nat → Option Nat) (hpf : pf 0 = some (ad 7 7)) (r : Nat → Nat) {H : Heap} {locs : List Loc} {ls : Array Slot} (h : Wd G A s H locs (xW G x ad pf ++ mW G o r)) (hl : lv_has ls 4 [(0, .ref b), (1, .ref x), (2, .ref o), (3, .int 0)]) : W p l e room_1 s m #[Value.ref b] below meth c H locs 1000 200000 (lw_Z below #[Value.ref b] s) (F0 m 298 ls []) := by
  obtain ⟨hx, hb, hml, hown, hts, -⟩ := id C0
  refine lv_aload_n hx hb dL_law_298 rfl (lv_at hl 1 rfl) ?_
  refine lv_aload_n hx hb dL_law_299 rfl (lv_at hl 0 rfl) ?_
  refine lv_iload_n hx hb dL_law_300 rfl (lv_at hl 3 rfl) ?_
  refine lv_iconst (v := 1) hx hb dL_law_301 (by decide) ?_
  refine lv_iadd hx hb dL_law_302 ?_
  refine lv_topi (fun k_1 ek_1 => ?_)
  obtain rfl : k_1 = 1 := ek_1.trans (by decide)
  refine va_sld hx hb hX hbl hbA h.2.2.2.1 (vp_in_nI (n := 1) (N := 6) (by decide) (by decide)) dL_law_303 ?_
  refine W.eq (g2 := F0 m 304 ls [.int (xs 1), .ref x]) rfl ?_
  refine m_cli (wr := (mW G o r)) h (m_rV (ci := 11) (q0 := 0) (As := [.int (xs 1)]) (rest := []) C0 h (c_X11_fault l G x (ad 0) (ad 2) (ad 3) (xs 1)) k_X11_fault q_886 q_887 q_885 rfl rfl rfl [0, 1] (by decide) rfl hl.1 rfl rfl (Nat.le_of_ble_eq_true rfl) dL_law_304 ⟨Nat.le_of_ble_eq_true rfl, Nat.le_of_ble_eq_true rfl⟩ ⟨Nat.le_of_ble_eq_true rfl, Nat.le_of_ble_eq_true rfl⟩) [0, 1] [86, 87, 88, 89, 90, 91, 92, 93, 94] rfl rfl (by decide) (by decide) (fun r_4 u_2 H locs hp_3 h => ?_)
  have h : Wd G A s _ _ (mW G o r) := h
  refine lv_aload_n hx hb dL_law_307 rfl (lv_at hl 2 rfl) ?_
  refine lv_aload_n hx hb dL_law_308 rfl (lv_at hl 0 rfl) ?_
  refine lv_iload_n hx hb dL_law_309 rfl (lv_at hl 3 rfl) ?_
  refine lv_iconst (v := 1) hx hb dL_law_310 (by decide) ?_
  refine lv_iadd hx hb dL_law_311 ?_
  refine lv_topi (fun k_5 ek_5 => ?_)
  obtain rfl : k_5 = 1 := ek_5.trans (by decide)
  refine va_sld hx hb hX hbl hbA h.2.2.2.1 (vp_in_nI (n := 1) (N := 6) (by decide) (by decide)) dL_law_312 ?_
  refine W.eq (g2 := F0 m 313 ls [.int (xs 1), .ref o, .int r_4]) rfl ?_
  refine m_cli (wr := []) h (m_rV (ci := 12) (q0 := 0) (As := [.int (xs 1)]) (rest := [.int r_4]) C0 h (c_X12_fault l G o r (xs 1)) k_X12_fault q_1684 q_1685 q_1683 rfl rfl rfl [0] (by decide) rfl hl.1 rfl rfl (Nat.le_of_ble_eq_true rfl) dL_law_313 ⟨Nat.le_of_ble_eq_true rfl, Nat.le_of_ble_eq_true rfl⟩ ⟨Nat.le_of_ble_eq_true rfl, Nat.le_of_ble_eq_true rfl⟩) [0] [] rfl rfl (by decide) (by decide) (fun r_8 u_6 H locs hp_7 h => ?_)
  have h : Wd G A s _ _ [] := h
  refine lv_icmp_eq (tgt := 1727) hx hb dL_law_316 (by decide) (fun _ => ?_) (fun c_9 => absurd (hp_3.trans hp_7.symm) c_9)
  refine W.widen (k := 600000) (n := 7302250) (Nat.le_of_ble_eq_true rfl) (Nat.le_of_ble_eq_true rfl) ?_
  exact law_tail C0 hX hbl hbA hAs G h (lv_sub hl [0, 1, 2, 3] rfl)
set_option maxHeartbeats 4000000 in
set_option maxRecDepth 100000 in
theorem law_case_3 {p : Program} {l : Launch} {e : Env} {s : State} {m : MethodId} {below : List Frame} {meth : Method} {c : Code} {b : Nat} {xs : Nat → Int32} {A : Nat → Prop} (C0 : Cx p s m #[Value.ref b] meth c RL cL_law 4 (some .boolean)) (hX : va_X b 6 xs s s.heap) (hbl : b < s.heap.size) (hbA : ¬ A b) (hAs : ∀ q : Nat, A q → s.heap.size ≤ q) (G : GG) (x o : Nat) (ad : Nat → Nat → Nat) (pf : Nat → Option Nat) (hpf : pf 0 = some (ad 7 7)) (r : Nat → Nat) {H : Heap} {locs : List Loc} {ls : Array Slot} (h : Wd G A s H locs (xW G x ad pf ++ mW G o r)) (hl : lv_has ls 4 [(0, .ref b), (1, .ref x), (2, .ref o), (3, .int 0)]) : W p l e room_1 s m #[Value.ref b] below meth c H locs 1000 200000 (lw_Z below #[Value.ref b] s) (F0 m 321 ls []) := by
  obtain ⟨hx, hb, hml, hown, hts, -⟩ := id C0
  refine lv_aload_n hx hb dL_law_321 rfl (lv_at hl 1 rfl) ?_
  refine lv_aload_n hx hb dL_law_322 rfl (lv_at hl 0 rfl) ?_
  refine lv_iload_n hx hb dL_law_323 rfl (lv_at hl 3 rfl) ?_
  refine lv_iconst (v := 1) hx hb dL_law_324 (by decide) ?_
  refine lv_iadd hx hb dL_law_325 ?_
  refine lv_topi (fun k_1 ek_1 => ?_)
  obtain rfl : k_1 = 1 := ek_1.trans (by decide)
  refine va_sld hx hb hX hbl hbA h.2.2.2.1 (vp_in_nI (n := 1) (N := 6) (by decide) (by decide)) dL_law_326 ?_
  refine W.eq (g2 := F0 m 327 ls [.int (xs 1), .ref x]) rfl ?_
  refine lv_aload_n hx hb dL_law_327 rfl (lv_at hl 0 rfl) ?_
  refine lv_iload_n hx hb dL_law_328 rfl (lv_at hl 3 rfl) ?_
  refine lv_iconst (v := 2) hx hb dL_law_329 (by decide) ?_
  refine lv_iadd hx hb dL_law_330 ?_
  refine lv_topi (fun k_2 ek_2 => ?_)
  obtain rfl : k_2 = 2 := ek_2.trans (by decide)
  refine va_sld hx hb hX hbl hbA h.2.2.2.1 (vp_in_nI (n := 2) (N := 6) (by decide) (by decide)) dL_law_331 ?_
  refine W.eq (g2 := F0 m 332 ls [.int (xs 2), .int (xs 1), .ref x]) rfl ?_
  refine m_cli (wr := (mW G o r)) h (m_rV (ci := 11) (q0 := 0) (As := [.int (xs 1), .int (xs 2)]) (rest := []) C0 h (c_X11_person l G x (ad 0) (ad 1) (xs 1) (xs 2)) k_X11_person q_898 q_899 q_897 rfl rfl rfl [0, 26, 31] (by decide) rfl hl.1 rfl rfl (Nat.le_of_ble_eq_true rfl) dL_law_332 ⟨Nat.le_of_ble_eq_true rfl, Nat.le_of_ble_eq_true rfl⟩ ⟨Nat.le_of_ble_eq_true rfl, Nat.le_of_ble_eq_true rfl⟩) [0, 26, 31] [86, 87, 88, 89, 90, 91, 92, 93, 94] rfl rfl (by decide) (by decide) (fun r_5 u_3 H locs hp_4 h => ?_)
  have h : Wd G A s _ _ (mW G o r) := h
  refine lv_aload_n hx hb dL_law_335 rfl (lv_at hl 2 rfl) ?_
  refine lv_aload_n hx hb dL_law_336 rfl (lv_at hl 0 rfl) ?_
  refine lv_iload_n hx hb dL_law_337 rfl (lv_at hl 3 rfl) ?_
  refine lv_iconst (v := 1) hx hb dL_law_338 (by decide) ?_
  refine lv_iadd hx hb dL_law_339 ?_
  refine lv_topi (fun k_6 ek_6 => ?_)
  obtain rfl : k_6 = 1 := ek_6.trans (by decide)
  refine va_sld hx hb hX hbl hbA h.2.2.2.1 (vp_in_nI (n := 1) (N := 6) (by decide) (by decide)) dL_law_340 ?_
  refine W.eq (g2 := F0 m 341 ls [.int (xs 1), .ref o, .int r_5]) rfl ?_
  refine lv_aload_n hx hb dL_law_341 rfl (lv_at hl 0 rfl) ?_
  refine lv_iload_n hx hb dL_law_342 rfl (lv_at hl 3 rfl) ?_
  refine lv_iconst (v := 2) hx hb dL_law_343 (by decide) ?_
  refine lv_iadd hx hb dL_law_344 ?_
  refine lv_topi (fun k_7 ek_7 => ?_)
  obtain rfl : k_7 = 2 := ek_7.trans (by decide)
  refine va_sld hx hb hX hbl hbA h.2.2.2.1 (vp_in_nI (n := 2) (N := 6) (by decide) (by decide)) dL_law_345 ?_
  refine W.eq (g2 := F0 m 346 ls [.int (xs 2), .int (xs 1), .ref o, .int r_5]) rfl ?_
  refine m_cli (wr := []) h (m_rV (ci := 12) (q0 := 0) (As := [.int (xs 1), .int (xs 2)]) (rest := [.int r_5]) C0 h (c_X12_person l G o r (xs 1) (xs 2)) k_X12_person q_1688 q_1689 q_1687 rfl rfl rfl [0, 1] (by decide) rfl hl.1 rfl rfl (Nat.le_of_ble_eq_true rfl) dL_law_346 ⟨Nat.le_of_ble_eq_true rfl, Nat.le_of_ble_eq_true rfl⟩ ⟨Nat.le_of_ble_eq_true rfl, Nat.le_of_ble_eq_true rfl⟩) [0, 1] [] rfl rfl (by decide) (by decide) (fun r_10 u_8 H locs hp_9 h => ?_)
  have h : Wd G A s _ _ [] := h
  refine lv_icmp_eq (tgt := 1727) hx hb dL_law_349 (by decide) (fun _ => ?_) (fun c_11 => absurd (hp_4.trans hp_9.symm) c_11)
  refine W.widen (k := 600000) (n := 7302250) (Nat.le_of_ble_eq_true rfl) (Nat.le_of_ble_eq_true rfl) ?_
  exact law_tail C0 hX hbl hbA hAs G h (lv_sub hl [0, 1, 2, 3] rfl)
set_option maxHeartbeats 4000000 in
set_option maxRecDepth 100000 in
theorem law_case_4 {p : Program} {l : Launch} {e : Env} {s : State} {m : MethodId} {below : List Frame} {meth : Method} {c : Code} {b : Nat} {xs : Nat → Int32} {A : Nat → Prop} (C0 : Cx p s m #[Value.ref b] meth c RL cL_law 4 (some .boolean)) (hX : va_X b 6 xs s s.heap) (hbl : b < s.heap.size) (hbA : ¬ A b) (hAs : ∀ q : Nat, A q → s.heap.size ≤ q) (G : GG) (x o : Nat) (ad : Nat → Nat → Nat) (pf : Nat → Option Nat) (hpf : pf 0 = some (ad 7 7)) (r : Nat → Nat) {H : Heap} {locs : List Loc} {ls : Array Slot} (h : Wd G A s H locs (xW G x ad pf ++ mW G o r)) (hl : lv_has ls 4 [(0, .ref b), (1, .ref x), (2, .ref o), (3, .int 0)]) : W p l e room_1 s m #[Value.ref b] below meth c H locs 1000 200000 (lw_Z below #[Value.ref b] s) (F0 m 354 ls []) := by
  obtain ⟨hx, hb, hml, hown, hts, -⟩ := id C0
  refine lv_aload_n hx hb dL_law_354 rfl (lv_at hl 1 rfl) ?_
  refine lv_aload_n hx hb dL_law_355 rfl (lv_at hl 0 rfl) ?_
  refine lv_iload_n hx hb dL_law_356 rfl (lv_at hl 3 rfl) ?_
  refine lv_iconst (v := 1) hx hb dL_law_357 (by decide) ?_
  refine lv_iadd hx hb dL_law_358 ?_
  refine lv_topi (fun k_1 ek_1 => ?_)
  obtain rfl : k_1 = 1 := ek_1.trans (by decide)
  refine va_sld hx hb hX hbl hbA h.2.2.2.1 (vp_in_nI (n := 1) (N := 6) (by decide) (by decide)) dL_law_359 ?_
  refine W.eq (g2 := F0 m 360 ls [.int (xs 1), .ref x]) rfl ?_
  refine lv_aload_n hx hb dL_law_360 rfl (lv_at hl 0 rfl) ?_
  refine lv_iload_n hx hb dL_law_361 rfl (lv_at hl 3 rfl) ?_
  refine lv_iconst (v := 2) hx hb dL_law_362 (by decide) ?_
  refine lv_iadd hx hb dL_law_363 ?_
  refine lv_topi (fun k_2 ek_2 => ?_)
  obtain rfl : k_2 = 2 := ek_2.trans (by decide)
  refine va_sld hx hb hX hbl hbA h.2.2.2.1 (vp_in_nI (n := 2) (N := 6) (by decide) (by decide)) dL_law_364 ?_
  refine W.eq (g2 := F0 m 365 ls [.int (xs 2), .int (xs 1), .ref x]) rfl ?_
  refine m_cli (wr := (mW G o r)) h (m_rV (ci := 11) (q0 := 0) (As := [.int (xs 1), .int (xs 2)]) (rest := []) C0 h (c_X11_street l G x (ad 0) (ad 1) (xs 1) (xs 2)) k_X11_street q_906 q_907 q_905 rfl rfl rfl [0, 26, 31] (by decide) rfl hl.1 rfl rfl (Nat.le_of_ble_eq_true rfl) dL_law_365 ⟨Nat.le_of_ble_eq_true rfl, Nat.le_of_ble_eq_true rfl⟩ ⟨Nat.le_of_ble_eq_true rfl, Nat.le_of_ble_eq_true rfl⟩) [0, 26, 31] [86, 87, 88, 89, 90, 91, 92, 93, 94] rfl rfl (by decide) (by decide) (fun r_5 u_3 H locs hp_4 h => ?_)
  have h : Wd G A s _ _ (mW G o r) := h
  refine lv_aload_n hx hb dL_law_368 rfl (lv_at hl 2 rfl) ?_
  refine lv_aload_n hx hb dL_law_369 rfl (lv_at hl 0 rfl) ?_
  refine lv_iload_n hx hb dL_law_370 rfl (lv_at hl 3 rfl) ?_
  refine lv_iconst (v := 1) hx hb dL_law_371 (by decide) ?_
  refine lv_iadd hx hb dL_law_372 ?_
  refine lv_topi (fun k_6 ek_6 => ?_)
  obtain rfl : k_6 = 1 := ek_6.trans (by decide)
  refine va_sld hx hb hX hbl hbA h.2.2.2.1 (vp_in_nI (n := 1) (N := 6) (by decide) (by decide)) dL_law_373 ?_
  refine W.eq (g2 := F0 m 374 ls [.int (xs 1), .ref o, .int r_5]) rfl ?_
  refine lv_aload_n hx hb dL_law_374 rfl (lv_at hl 0 rfl) ?_
  refine lv_iload_n hx hb dL_law_375 rfl (lv_at hl 3 rfl) ?_
  refine lv_iconst (v := 2) hx hb dL_law_376 (by decide) ?_
  refine lv_iadd hx hb dL_law_377 ?_
  refine lv_topi (fun k_7 ek_7 => ?_)
  obtain rfl : k_7 = 2 := ek_7.trans (by decide)
  refine va_sld hx hb hX hbl hbA h.2.2.2.1 (vp_in_nI (n := 2) (N := 6) (by decide) (by decide)) dL_law_378 ?_
  refine W.eq (g2 := F0 m 379 ls [.int (xs 2), .int (xs 1), .ref o, .int r_5]) rfl ?_
  refine m_cli (wr := []) h (m_rV (ci := 12) (q0 := 0) (As := [.int (xs 1), .int (xs 2)]) (rest := [.int r_5]) C0 h (c_X12_street l G o r (xs 1) (xs 2)) k_X12_street q_1696 q_1697 q_1695 rfl rfl rfl [0, 1] (by decide) rfl hl.1 rfl rfl (Nat.le_of_ble_eq_true rfl) dL_law_379 ⟨Nat.le_of_ble_eq_true rfl, Nat.le_of_ble_eq_true rfl⟩ ⟨Nat.le_of_ble_eq_true rfl, Nat.le_of_ble_eq_true rfl⟩) [0, 1] [] rfl rfl (by decide) (by decide) (fun r_10 u_8 H locs hp_9 h => ?_)
  have h : Wd G A s _ _ [] := h
  refine lv_icmp_eq (tgt := 1727) hx hb dL_law_382 (by decide) (fun _ => ?_) (fun c_11 => absurd (hp_4.trans hp_9.symm) c_11)
  refine W.widen (k := 600000) (n := 7302250) (Nat.le_of_ble_eq_true rfl) (Nat.le_of_ble_eq_true rfl) ?_
  exact law_tail C0 hX hbl hbA hAs G h (lv_sub hl [0, 1, 2, 3] rfl)
set_option maxHeartbeats 4000000 in
set_option maxRecDepth 100000 in
theorem law_case_5 {p : Program} {l : Launch} {e : Env} {s : State} {m : MethodId} {below : List Frame} {meth : Method} {c : Code} {b : Nat} {xs : Nat → Int32} {A : Nat → Prop} (C0 : Cx p s m #[Value.ref b] meth c RL cL_law 4 (some .boolean)) (hX : va_X b 6 xs s s.heap) (hbl : b < s.heap.size) (hbA : ¬ A b) (hAs : ∀ q : Nat, A q → s.heap.size ≤ q) (G : GG) (x o : Nat) (ad : Nat → Nat → Nat) (pf : Nat → Option Nat) (hpf : pf 0 = some (ad 7 7)) (r : Nat → Nat) {H : Heap} {locs : List Loc} {ls : Array Slot} (h : Wd G A s H locs (xW G x ad pf ++ mW G o r)) (hl : lv_has ls 4 [(0, .ref b), (1, .ref x), (2, .ref o), (3, .int 0)]) : W p l e room_1 s m #[Value.ref b] below meth c H locs 1000 200000 (lw_Z below #[Value.ref b] s) (F0 m 387 ls []) := by
  obtain ⟨hx, hb, hml, hown, hts, -⟩ := id C0
  refine lv_aload_n hx hb dL_law_387 rfl (lv_at hl 1 rfl) ?_
  refine lv_aload_n hx hb dL_law_388 rfl (lv_at hl 0 rfl) ?_
  refine lv_iload_n hx hb dL_law_389 rfl (lv_at hl 3 rfl) ?_
  refine lv_iconst (v := 1) hx hb dL_law_390 (by decide) ?_
  refine lv_iadd hx hb dL_law_391 ?_
  refine lv_topi (fun k_1 ek_1 => ?_)
  obtain rfl : k_1 = 1 := ek_1.trans (by decide)
  refine va_sld hx hb hX hbl hbA h.2.2.2.1 (vp_in_nI (n := 1) (N := 6) (by decide) (by decide)) dL_law_392 ?_
  refine W.eq (g2 := F0 m 393 ls [.int (xs 1), .ref x]) rfl ?_
  refine lv_aload_n hx hb dL_law_393 rfl (lv_at hl 0 rfl) ?_
  refine lv_iload_n hx hb dL_law_394 rfl (lv_at hl 3 rfl) ?_
  refine lv_iconst (v := 2) hx hb dL_law_395 (by decide) ?_
  refine lv_iadd hx hb dL_law_396 ?_
  refine lv_topi (fun k_2 ek_2 => ?_)
  obtain rfl : k_2 = 2 := ek_2.trans (by decide)
  refine va_sld hx hb hX hbl hbA h.2.2.2.1 (vp_in_nI (n := 2) (N := 6) (by decide) (by decide)) dL_law_397 ?_
  refine W.eq (g2 := F0 m 398 ls [.int (xs 2), .int (xs 1), .ref x]) rfl ?_
  refine m_cli (wr := (mW G o r)) h (m_rV (ci := 11) (q0 := 0) (As := [.int (xs 1), .int (xs 2)]) (rest := []) C0 h (c_X11_crossing l G x (ad 0) (ad 1) (xs 1) (xs 2)) k_X11_crossing q_923 q_924 q_922 rfl rfl rfl [0, 26, 31] (by decide) rfl hl.1 rfl rfl (Nat.le_of_ble_eq_true rfl) dL_law_398 ⟨Nat.le_of_ble_eq_true rfl, Nat.le_of_ble_eq_true rfl⟩ ⟨Nat.le_of_ble_eq_true rfl, Nat.le_of_ble_eq_true rfl⟩) [0, 26, 31] [86, 87, 88, 89, 90, 91, 92, 93, 94] rfl rfl (by decide) (by decide) (fun r_5 u_3 H locs hp_4 h => ?_)
  have h : Wd G A s _ _ (mW G o r) := h
  refine lv_aload_n hx hb dL_law_401 rfl (lv_at hl 2 rfl) ?_
  refine lv_aload_n hx hb dL_law_402 rfl (lv_at hl 0 rfl) ?_
  refine lv_iload_n hx hb dL_law_403 rfl (lv_at hl 3 rfl) ?_
  refine lv_iconst (v := 1) hx hb dL_law_404 (by decide) ?_
  refine lv_iadd hx hb dL_law_405 ?_
  refine lv_topi (fun k_6 ek_6 => ?_)
  obtain rfl : k_6 = 1 := ek_6.trans (by decide)
  refine va_sld hx hb hX hbl hbA h.2.2.2.1 (vp_in_nI (n := 1) (N := 6) (by decide) (by decide)) dL_law_406 ?_
  refine W.eq (g2 := F0 m 407 ls [.int (xs 1), .ref o, .int r_5]) rfl ?_
  refine lv_aload_n hx hb dL_law_407 rfl (lv_at hl 0 rfl) ?_
  refine lv_iload_n hx hb dL_law_408 rfl (lv_at hl 3 rfl) ?_
  refine lv_iconst (v := 2) hx hb dL_law_409 (by decide) ?_
  refine lv_iadd hx hb dL_law_410 ?_
  refine lv_topi (fun k_7 ek_7 => ?_)
  obtain rfl : k_7 = 2 := ek_7.trans (by decide)
  refine va_sld hx hb hX hbl hbA h.2.2.2.1 (vp_in_nI (n := 2) (N := 6) (by decide) (by decide)) dL_law_411 ?_
  refine W.eq (g2 := F0 m 412 ls [.int (xs 2), .int (xs 1), .ref o, .int r_5]) rfl ?_
  refine m_cli (wr := []) h (m_rV (ci := 12) (q0 := 0) (As := [.int (xs 1), .int (xs 2)]) (rest := [.int r_5]) C0 h (c_X12_crossing l G o r (xs 1) (xs 2)) k_X12_crossing q_1719 q_1720 q_1718 rfl rfl rfl [0, 1] (by decide) rfl hl.1 rfl rfl (Nat.le_of_ble_eq_true rfl) dL_law_412 ⟨Nat.le_of_ble_eq_true rfl, Nat.le_of_ble_eq_true rfl⟩ ⟨Nat.le_of_ble_eq_true rfl, Nat.le_of_ble_eq_true rfl⟩) [0, 1] [] rfl rfl (by decide) (by decide) (fun r_10 u_8 H locs hp_9 h => ?_)
  have h : Wd G A s _ _ [] := h
  refine lv_icmp_eq (tgt := 1727) hx hb dL_law_415 (by decide) (fun _ => ?_) (fun c_11 => absurd (hp_4.trans hp_9.symm) c_11)
  refine W.widen (k := 600000) (n := 7302250) (Nat.le_of_ble_eq_true rfl) (Nat.le_of_ble_eq_true rfl) ?_
  exact law_tail C0 hX hbl hbA hAs G h (lv_sub hl [0, 1, 2, 3] rfl)
set_option maxHeartbeats 4000000 in
set_option maxRecDepth 100000 in
theorem law_case_6 {p : Program} {l : Launch} {e : Env} {s : State} {m : MethodId} {below : List Frame} {meth : Method} {c : Code} {b : Nat} {xs : Nat → Int32} {A : Nat → Prop} (C0 : Cx p s m #[Value.ref b] meth c RL cL_law 4 (some .boolean)) (hX : va_X b 6 xs s s.heap) (hbl : b < s.heap.size) (hbA : ¬ A b) (hAs : ∀ q : Nat, A q → s.heap.size ≤ q) (G : GG) (x o : Nat) (ad : Nat → Nat → Nat) (pf : Nat → Option Nat) (hpf : pf 0 = some (ad 7 7)) (r : Nat → Nat) {H : Heap} {locs : List Loc} {ls : Array Slot} (h : Wd G A s H locs (xW G x ad pf ++ mW G o r)) (hl : lv_has ls 4 [(0, .ref b), (1, .ref x), (2, .ref o), (3, .int 0)]) : W p l e room_1 s m #[Value.ref b] below meth c H locs 1000 200000 (lw_Z below #[Value.ref b] s) (F0 m 420 ls []) := by
  obtain ⟨hx, hb, hml, hown, hts, -⟩ := id C0
  refine lv_aload_n hx hb dL_law_420 rfl (lv_at hl 1 rfl) ?_
  refine lv_aload_n hx hb dL_law_421 rfl (lv_at hl 0 rfl) ?_
  refine lv_iload_n hx hb dL_law_422 rfl (lv_at hl 3 rfl) ?_
  refine lv_iconst (v := 1) hx hb dL_law_423 (by decide) ?_
  refine lv_iadd hx hb dL_law_424 ?_
  refine lv_topi (fun k_1 ek_1 => ?_)
  obtain rfl : k_1 = 1 := ek_1.trans (by decide)
  refine va_sld hx hb hX hbl hbA h.2.2.2.1 (vp_in_nI (n := 1) (N := 6) (by decide) (by decide)) dL_law_425 ?_
  refine W.eq (g2 := F0 m 426 ls [.int (xs 1), .ref x]) rfl ?_
  refine lv_aload_n hx hb dL_law_426 rfl (lv_at hl 0 rfl) ?_
  refine lv_iload_n hx hb dL_law_427 rfl (lv_at hl 3 rfl) ?_
  refine lv_iconst (v := 2) hx hb dL_law_428 (by decide) ?_
  refine lv_iadd hx hb dL_law_429 ?_
  refine lv_topi (fun k_2 ek_2 => ?_)
  obtain rfl : k_2 = 2 := ek_2.trans (by decide)
  refine va_sld hx hb hX hbl hbA h.2.2.2.1 (vp_in_nI (n := 2) (N := 6) (by decide) (by decide)) dL_law_430 ?_
  refine W.eq (g2 := F0 m 431 ls [.int (xs 2), .int (xs 1), .ref x]) rfl ?_
  refine lv_aload_n hx hb dL_law_431 rfl (lv_at hl 0 rfl) ?_
  refine lv_iload_n hx hb dL_law_432 rfl (lv_at hl 3 rfl) ?_
  refine lv_iconst (v := 3) hx hb dL_law_433 (by decide) ?_
  refine lv_iadd hx hb dL_law_434 ?_
  refine lv_topi (fun k_3 ek_3 => ?_)
  obtain rfl : k_3 = 3 := ek_3.trans (by decide)
  refine va_sld hx hb hX hbl hbA h.2.2.2.1 (vp_in_nI (n := 3) (N := 6) (by decide) (by decide)) dL_law_435 ?_
  refine W.eq (g2 := F0 m 436 ls [.int (xs 3), .int (xs 2), .int (xs 1), .ref x]) rfl ?_
  refine m_cli (wr := (mW G o r)) h (m_rV (ci := 11) (q0 := 0) (As := [.int (xs 1), .int (xs 2), .int (xs 3)]) (rest := []) C0 h (c_X11_price l G x (ad 0) (ad 1) (xs 1) (xs 2) (xs 3)) k_X11_price q_957 q_958 q_956 rfl rfl rfl [0, 26, 31] (by decide) rfl hl.1 rfl rfl (Nat.le_of_ble_eq_true rfl) dL_law_436 ⟨Nat.le_of_ble_eq_true rfl, Nat.le_of_ble_eq_true rfl⟩ ⟨Nat.le_of_ble_eq_true rfl, Nat.le_of_ble_eq_true rfl⟩) [0, 26, 31] [86, 87, 88, 89, 90, 91, 92, 93, 94] rfl rfl (by decide) (by decide) (fun r_6 u_4 H locs hp_5 h => ?_)
  have h : Wd G A s _ _ (mW G o r) := h
  refine lv_aload_n hx hb dL_law_439 rfl (lv_at hl 2 rfl) ?_
  refine lv_aload_n hx hb dL_law_440 rfl (lv_at hl 0 rfl) ?_
  refine lv_iload_n hx hb dL_law_441 rfl (lv_at hl 3 rfl) ?_
  refine lv_iconst (v := 1) hx hb dL_law_442 (by decide) ?_
  refine lv_iadd hx hb dL_law_443 ?_
  refine lv_topi (fun k_7 ek_7 => ?_)
  obtain rfl : k_7 = 1 := ek_7.trans (by decide)
  refine va_sld hx hb hX hbl hbA h.2.2.2.1 (vp_in_nI (n := 1) (N := 6) (by decide) (by decide)) dL_law_444 ?_
  refine W.eq (g2 := F0 m 445 ls [.int (xs 1), .ref o, .int r_6]) rfl ?_
  refine lv_aload_n hx hb dL_law_445 rfl (lv_at hl 0 rfl) ?_
  refine lv_iload_n hx hb dL_law_446 rfl (lv_at hl 3 rfl) ?_
  refine lv_iconst (v := 2) hx hb dL_law_447 (by decide) ?_
  refine lv_iadd hx hb dL_law_448 ?_
  refine lv_topi (fun k_8 ek_8 => ?_)
  obtain rfl : k_8 = 2 := ek_8.trans (by decide)
  refine va_sld hx hb hX hbl hbA h.2.2.2.1 (vp_in_nI (n := 2) (N := 6) (by decide) (by decide)) dL_law_449 ?_
  refine W.eq (g2 := F0 m 450 ls [.int (xs 2), .int (xs 1), .ref o, .int r_6]) rfl ?_
  refine lv_aload_n hx hb dL_law_450 rfl (lv_at hl 0 rfl) ?_
  refine lv_iload_n hx hb dL_law_451 rfl (lv_at hl 3 rfl) ?_
  refine lv_iconst (v := 3) hx hb dL_law_452 (by decide) ?_
  refine lv_iadd hx hb dL_law_453 ?_
  refine lv_topi (fun k_9 ek_9 => ?_)
  obtain rfl : k_9 = 3 := ek_9.trans (by decide)
  refine va_sld hx hb hX hbl hbA h.2.2.2.1 (vp_in_nI (n := 3) (N := 6) (by decide) (by decide)) dL_law_454 ?_
  refine W.eq (g2 := F0 m 455 ls [.int (xs 3), .int (xs 2), .int (xs 1), .ref o, .int r_6]) rfl ?_
  refine m_cli (wr := []) h (m_rV (ci := 12) (q0 := 0) (As := [.int (xs 1), .int (xs 2), .int (xs 3)]) (rest := [.int r_6]) C0 h (c_X12_price l G o r (xs 1) (xs 2) (xs 3)) k_X12_price q_1748 q_1749 q_1747 rfl rfl rfl [0, 1] (by decide) rfl hl.1 rfl rfl (Nat.le_of_ble_eq_true rfl) dL_law_455 ⟨Nat.le_of_ble_eq_true rfl, Nat.le_of_ble_eq_true rfl⟩ ⟨Nat.le_of_ble_eq_true rfl, Nat.le_of_ble_eq_true rfl⟩) [0, 1] [] rfl rfl (by decide) (by decide) (fun r_12 u_10 H locs hp_11 h => ?_)
  have h : Wd G A s _ _ [] := h
  refine lv_icmp_eq (tgt := 1727) hx hb dL_law_458 (by decide) (fun _ => ?_) (fun c_13 => absurd (hp_5.trans hp_11.symm) c_13)
  refine W.widen (k := 600000) (n := 7302250) (Nat.le_of_ble_eq_true rfl) (Nat.le_of_ble_eq_true rfl) ?_
  exact law_tail C0 hX hbl hbA hAs G h (lv_sub hl [0, 1, 2, 3] rfl)
set_option maxHeartbeats 4000000 in
set_option maxRecDepth 100000 in
theorem law_case_7 {p : Program} {l : Launch} {e : Env} {s : State} {m : MethodId} {below : List Frame} {meth : Method} {c : Code} {b : Nat} {xs : Nat → Int32} {A : Nat → Prop} (C0 : Cx p s m #[Value.ref b] meth c RL cL_law 4 (some .boolean)) (hX : va_X b 6 xs s s.heap) (hbl : b < s.heap.size) (hbA : ¬ A b) (hAs : ∀ q : Nat, A q → s.heap.size ≤ q) (G : GG) (x o : Nat) (ad : Nat → Nat → Nat) (pf : Nat → Option Nat) (hpf : pf 0 = some (ad 7 7)) (r : Nat → Nat) {H : Heap} {locs : List Loc} {ls : Array Slot} (h : Wd G A s H locs (xW G x ad pf ++ mW G o r)) (hl : lv_has ls 4 [(0, .ref b), (1, .ref x), (2, .ref o), (3, .int 0)]) : W p l e room_1 s m #[Value.ref b] below meth c H locs 1000 200000 (lw_Z below #[Value.ref b] s) (F0 m 463 ls []) := by
  obtain ⟨hx, hb, hml, hown, hts, -⟩ := id C0
  refine lv_aload_n hx hb dL_law_463 rfl (lv_at hl 1 rfl) ?_
  refine lv_aload_n hx hb dL_law_464 rfl (lv_at hl 0 rfl) ?_
  refine lv_iload_n hx hb dL_law_465 rfl (lv_at hl 3 rfl) ?_
  refine lv_iconst (v := 1) hx hb dL_law_466 (by decide) ?_
  refine lv_iadd hx hb dL_law_467 ?_
  refine lv_topi (fun k_1 ek_1 => ?_)
  obtain rfl : k_1 = 1 := ek_1.trans (by decide)
  refine va_sld hx hb hX hbl hbA h.2.2.2.1 (vp_in_nI (n := 1) (N := 6) (by decide) (by decide)) dL_law_468 ?_
  refine W.eq (g2 := F0 m 469 ls [.int (xs 1), .ref x]) rfl ?_
  refine lv_aload_n hx hb dL_law_469 rfl (lv_at hl 0 rfl) ?_
  refine lv_iload_n hx hb dL_law_470 rfl (lv_at hl 3 rfl) ?_
  refine lv_iconst (v := 2) hx hb dL_law_471 (by decide) ?_
  refine lv_iadd hx hb dL_law_472 ?_
  refine lv_topi (fun k_2 ek_2 => ?_)
  obtain rfl : k_2 = 2 := ek_2.trans (by decide)
  refine va_sld hx hb hX hbl hbA h.2.2.2.1 (vp_in_nI (n := 2) (N := 6) (by decide) (by decide)) dL_law_473 ?_
  refine W.eq (g2 := F0 m 474 ls [.int (xs 2), .int (xs 1), .ref x]) rfl ?_
  refine m_cli (wr := (mW G o r)) h (m_rV (ci := 11) (q0 := 0) (As := [.int (xs 1), .int (xs 2)]) (rest := []) C0 h (c_X11_why l G x (ad 0) (ad 1) (xs 1) (xs 2)) k_X11_why q_961 q_962 q_960 rfl rfl rfl [0, 26, 31] (by decide) rfl hl.1 rfl rfl (Nat.le_of_ble_eq_true rfl) dL_law_474 ⟨Nat.le_of_ble_eq_true rfl, Nat.le_of_ble_eq_true rfl⟩ ⟨Nat.le_of_ble_eq_true rfl, Nat.le_of_ble_eq_true rfl⟩) [0, 26, 31] [86, 87, 88, 89, 90, 91, 92, 93, 94] rfl rfl (by decide) (by decide) (fun r_5 u_3 H locs hp_4 h => ?_)
  have h : Wd G A s _ _ (mW G o r) := h
  refine lv_aload_n hx hb dL_law_477 rfl (lv_at hl 2 rfl) ?_
  refine lv_aload_n hx hb dL_law_478 rfl (lv_at hl 0 rfl) ?_
  refine lv_iload_n hx hb dL_law_479 rfl (lv_at hl 3 rfl) ?_
  refine lv_iconst (v := 1) hx hb dL_law_480 (by decide) ?_
  refine lv_iadd hx hb dL_law_481 ?_
  refine lv_topi (fun k_6 ek_6 => ?_)
  obtain rfl : k_6 = 1 := ek_6.trans (by decide)
  refine va_sld hx hb hX hbl hbA h.2.2.2.1 (vp_in_nI (n := 1) (N := 6) (by decide) (by decide)) dL_law_482 ?_
  refine W.eq (g2 := F0 m 483 ls [.int (xs 1), .ref o, .int r_5]) rfl ?_
  refine lv_aload_n hx hb dL_law_483 rfl (lv_at hl 0 rfl) ?_
  refine lv_iload_n hx hb dL_law_484 rfl (lv_at hl 3 rfl) ?_
  refine lv_iconst (v := 2) hx hb dL_law_485 (by decide) ?_
  refine lv_iadd hx hb dL_law_486 ?_
  refine lv_topi (fun k_7 ek_7 => ?_)
  obtain rfl : k_7 = 2 := ek_7.trans (by decide)
  refine va_sld hx hb hX hbl hbA h.2.2.2.1 (vp_in_nI (n := 2) (N := 6) (by decide) (by decide)) dL_law_487 ?_
  refine W.eq (g2 := F0 m 488 ls [.int (xs 2), .int (xs 1), .ref o, .int r_5]) rfl ?_
  refine m_cli (wr := []) h (m_rV (ci := 12) (q0 := 0) (As := [.int (xs 1), .int (xs 2)]) (rest := [.int r_5]) C0 h (c_X12_why l G o r (xs 1) (xs 2)) k_X12_why q_1753 q_1754 q_1752 rfl rfl rfl [0, 1] (by decide) rfl hl.1 rfl rfl (Nat.le_of_ble_eq_true rfl) dL_law_488 ⟨Nat.le_of_ble_eq_true rfl, Nat.le_of_ble_eq_true rfl⟩ ⟨Nat.le_of_ble_eq_true rfl, Nat.le_of_ble_eq_true rfl⟩) [0, 1] [] rfl rfl (by decide) (by decide) (fun r_10 u_8 H locs hp_9 h => ?_)
  have h : Wd G A s _ _ [] := h
  refine lv_icmp_eq (tgt := 1727) hx hb dL_law_491 (by decide) (fun _ => ?_) (fun c_11 => absurd (hp_4.trans hp_9.symm) c_11)
  refine W.widen (k := 600000) (n := 7302250) (Nat.le_of_ble_eq_true rfl) (Nat.le_of_ble_eq_true rfl) ?_
  exact law_tail C0 hX hbl hbA hAs G h (lv_sub hl [0, 1, 2, 3] rfl)
set_option maxHeartbeats 4000000 in
set_option maxRecDepth 100000 in
theorem law_case_8 {p : Program} {l : Launch} {e : Env} {s : State} {m : MethodId} {below : List Frame} {meth : Method} {c : Code} {b : Nat} {xs : Nat → Int32} {A : Nat → Prop} (C0 : Cx p s m #[Value.ref b] meth c RL cL_law 4 (some .boolean)) (hX : va_X b 6 xs s s.heap) (hbl : b < s.heap.size) (hbA : ¬ A b) (hAs : ∀ q : Nat, A q → s.heap.size ≤ q) (G : GG) (x o : Nat) (ad : Nat → Nat → Nat) (pf : Nat → Option Nat) (hpf : pf 0 = some (ad 7 7)) (r : Nat → Nat) {H : Heap} {locs : List Loc} {ls : Array Slot} (h : Wd G A s H locs (xW G x ad pf ++ mW G o r)) (hl : lv_has ls 4 [(0, .ref b), (1, .ref x), (2, .ref o), (3, .int 0)]) : W p l e room_1 s m #[Value.ref b] below meth c H locs 1000 200000 (lw_Z below #[Value.ref b] s) (F0 m 496 ls []) := by
  obtain ⟨hx, hb, hml, hown, hts, -⟩ := id C0
  refine lv_aload_n hx hb dL_law_496 rfl (lv_at hl 1 rfl) ?_
  refine lv_aload_n hx hb dL_law_497 rfl (lv_at hl 0 rfl) ?_
  refine lv_iload_n hx hb dL_law_498 rfl (lv_at hl 3 rfl) ?_
  refine lv_iconst (v := 1) hx hb dL_law_499 (by decide) ?_
  refine lv_iadd hx hb dL_law_500 ?_
  refine lv_topi (fun k_1 ek_1 => ?_)
  obtain rfl : k_1 = 1 := ek_1.trans (by decide)
  refine va_sld hx hb hX hbl hbA h.2.2.2.1 (vp_in_nI (n := 1) (N := 6) (by decide) (by decide)) dL_law_501 ?_
  refine W.eq (g2 := F0 m 502 ls [.int (xs 1), .ref x]) rfl ?_
  refine lv_aload_n hx hb dL_law_502 rfl (lv_at hl 0 rfl) ?_
  refine lv_iload_n hx hb dL_law_503 rfl (lv_at hl 3 rfl) ?_
  refine lv_iconst (v := 2) hx hb dL_law_504 (by decide) ?_
  refine lv_iadd hx hb dL_law_505 ?_
  refine lv_topi (fun k_2 ek_2 => ?_)
  obtain rfl : k_2 = 2 := ek_2.trans (by decide)
  refine va_sld hx hb hX hbl hbA h.2.2.2.1 (vp_in_nI (n := 2) (N := 6) (by decide) (by decide)) dL_law_506 ?_
  refine W.eq (g2 := F0 m 507 ls [.int (xs 2), .int (xs 1), .ref x]) rfl ?_
  refine m_cli (wr := (mW G o r)) h (m_rV (ci := 11) (q0 := 0) (As := [.int (xs 1), .int (xs 2)]) (rest := []) C0 h (c_X11_go l G x (ad 0) (ad 1) (xs 1) (xs 2)) k_X11_go q_980 q_981 q_979 rfl rfl rfl [0, 26, 31] (by decide) rfl hl.1 rfl rfl (Nat.le_of_ble_eq_true rfl) dL_law_507 ⟨Nat.le_of_ble_eq_true rfl, Nat.le_of_ble_eq_true rfl⟩ ⟨Nat.le_of_ble_eq_true rfl, Nat.le_of_ble_eq_true rfl⟩) [0, 26, 31] [86, 87, 88, 89, 90, 91, 92, 93, 94] rfl rfl (by decide) (by decide) (fun r_5 u_3 H locs hp_4 h => ?_)
  have h : Wd G A s _ _ (mW G o r) := h
  refine lv_aload_n hx hb dL_law_510 rfl (lv_at hl 2 rfl) ?_
  refine lv_aload_n hx hb dL_law_511 rfl (lv_at hl 0 rfl) ?_
  refine lv_iload_n hx hb dL_law_512 rfl (lv_at hl 3 rfl) ?_
  refine lv_iconst (v := 1) hx hb dL_law_513 (by decide) ?_
  refine lv_iadd hx hb dL_law_514 ?_
  refine lv_topi (fun k_6 ek_6 => ?_)
  obtain rfl : k_6 = 1 := ek_6.trans (by decide)
  refine va_sld hx hb hX hbl hbA h.2.2.2.1 (vp_in_nI (n := 1) (N := 6) (by decide) (by decide)) dL_law_515 ?_
  refine W.eq (g2 := F0 m 516 ls [.int (xs 1), .ref o, .int r_5]) rfl ?_
  refine lv_aload_n hx hb dL_law_516 rfl (lv_at hl 0 rfl) ?_
  refine lv_iload_n hx hb dL_law_517 rfl (lv_at hl 3 rfl) ?_
  refine lv_iconst (v := 2) hx hb dL_law_518 (by decide) ?_
  refine lv_iadd hx hb dL_law_519 ?_
  refine lv_topi (fun k_7 ek_7 => ?_)
  obtain rfl : k_7 = 2 := ek_7.trans (by decide)
  refine va_sld hx hb hX hbl hbA h.2.2.2.1 (vp_in_nI (n := 2) (N := 6) (by decide) (by decide)) dL_law_520 ?_
  refine W.eq (g2 := F0 m 521 ls [.int (xs 2), .int (xs 1), .ref o, .int r_5]) rfl ?_
  refine m_cli (wr := []) h (m_rV (ci := 12) (q0 := 0) (As := [.int (xs 1), .int (xs 2)]) (rest := [.int r_5]) C0 h (c_X12_go l G o r (xs 1) (xs 2)) k_X12_go q_1772 q_1773 q_1771 rfl rfl rfl [0, 1] (by decide) rfl hl.1 rfl rfl (Nat.le_of_ble_eq_true rfl) dL_law_521 ⟨Nat.le_of_ble_eq_true rfl, Nat.le_of_ble_eq_true rfl⟩ ⟨Nat.le_of_ble_eq_true rfl, Nat.le_of_ble_eq_true rfl⟩) [0, 1] [] rfl rfl (by decide) (by decide) (fun r_10 u_8 H locs hp_9 h => ?_)
  have h : Wd G A s _ _ [] := h
  refine lv_icmp_eq (tgt := 1727) hx hb dL_law_524 (by decide) (fun _ => ?_) (fun c_11 => absurd (hp_4.trans hp_9.symm) c_11)
  refine W.widen (k := 600000) (n := 7302250) (Nat.le_of_ble_eq_true rfl) (Nat.le_of_ble_eq_true rfl) ?_
  exact law_tail C0 hX hbl hbA hAs G h (lv_sub hl [0, 1, 2, 3] rfl)
set_option maxHeartbeats 4000000 in
set_option maxRecDepth 100000 in
theorem law_case_9 {p : Program} {l : Launch} {e : Env} {s : State} {m : MethodId} {below : List Frame} {meth : Method} {c : Code} {b : Nat} {xs : Nat → Int32} {A : Nat → Prop} (C0 : Cx p s m #[Value.ref b] meth c RL cL_law 4 (some .boolean)) (hX : va_X b 6 xs s s.heap) (hbl : b < s.heap.size) (hbA : ¬ A b) (hAs : ∀ q : Nat, A q → s.heap.size ≤ q) (G : GG) (x o : Nat) (ad : Nat → Nat → Nat) (pf : Nat → Option Nat) (hpf : pf 0 = some (ad 7 7)) (r : Nat → Nat) {H : Heap} {locs : List Loc} {ls : Array Slot} (h : Wd G A s H locs (xW G x ad pf ++ mW G o r)) (hl : lv_has ls 4 [(0, .ref b), (1, .ref x), (2, .ref o), (3, .int 0)]) : W p l e room_1 s m #[Value.ref b] below meth c H locs 1000 200000 (lw_Z below #[Value.ref b] s) (F0 m 529 ls []) := by
  obtain ⟨hx, hb, hml, hown, hts, -⟩ := id C0
  refine lv_aload_n hx hb dL_law_529 rfl (lv_at hl 1 rfl) ?_
  refine lv_aload_n hx hb dL_law_530 rfl (lv_at hl 0 rfl) ?_
  refine lv_iload_n hx hb dL_law_531 rfl (lv_at hl 3 rfl) ?_
  refine lv_iconst (v := 1) hx hb dL_law_532 (by decide) ?_
  refine lv_iadd hx hb dL_law_533 ?_
  refine lv_topi (fun k_1 ek_1 => ?_)
  obtain rfl : k_1 = 1 := ek_1.trans (by decide)
  refine va_sld hx hb hX hbl hbA h.2.2.2.1 (vp_in_nI (n := 1) (N := 6) (by decide) (by decide)) dL_law_534 ?_
  refine W.eq (g2 := F0 m 535 ls [.int (xs 1), .ref x]) rfl ?_
  refine lv_aload_n hx hb dL_law_535 rfl (lv_at hl 0 rfl) ?_
  refine lv_iload_n hx hb dL_law_536 rfl (lv_at hl 3 rfl) ?_
  refine lv_iconst (v := 2) hx hb dL_law_537 (by decide) ?_
  refine lv_iadd hx hb dL_law_538 ?_
  refine lv_topi (fun k_2 ek_2 => ?_)
  obtain rfl : k_2 = 2 := ek_2.trans (by decide)
  refine va_sld hx hb hX hbl hbA h.2.2.2.1 (vp_in_nI (n := 2) (N := 6) (by decide) (by decide)) dL_law_539 ?_
  refine W.eq (g2 := F0 m 540 ls [.int (xs 2), .int (xs 1), .ref x]) rfl ?_
  refine m_cli (wr := (mW G o r)) h (m_rV (ci := 11) (q0 := 0) (As := [.int (xs 1), .int (xs 2)]) (rest := []) C0 h (c_X11_judge l G x (ad 0) (ad 4) (xs 1) (xs 2)) k_X11_judge q_994 q_995 q_993 rfl rfl rfl [0, 5, 6, 7, 8, 9, 25] (by decide) rfl hl.1 rfl rfl (Nat.le_of_ble_eq_true rfl) dL_law_540 ⟨Nat.le_of_ble_eq_true rfl, Nat.le_of_ble_eq_true rfl⟩ ⟨Nat.le_of_ble_eq_true rfl, Nat.le_of_ble_eq_true rfl⟩) [0, 5, 6, 7, 8, 9, 25] [86, 87, 88, 89, 90, 91, 92, 93, 94] rfl rfl (by decide) (by decide) (fun r_5 u_3 H locs hp_4 h => ?_)
  have h : Wd G A s _ _ (mW G o r) := h
  refine lv_aload_n hx hb dL_law_543 rfl (lv_at hl 2 rfl) ?_
  refine lv_aload_n hx hb dL_law_544 rfl (lv_at hl 0 rfl) ?_
  refine lv_iload_n hx hb dL_law_545 rfl (lv_at hl 3 rfl) ?_
  refine lv_iconst (v := 1) hx hb dL_law_546 (by decide) ?_
  refine lv_iadd hx hb dL_law_547 ?_
  refine lv_topi (fun k_6 ek_6 => ?_)
  obtain rfl : k_6 = 1 := ek_6.trans (by decide)
  refine va_sld hx hb hX hbl hbA h.2.2.2.1 (vp_in_nI (n := 1) (N := 6) (by decide) (by decide)) dL_law_548 ?_
  refine W.eq (g2 := F0 m 549 ls [.int (xs 1), .ref o, .int r_5]) rfl ?_
  refine lv_aload_n hx hb dL_law_549 rfl (lv_at hl 0 rfl) ?_
  refine lv_iload_n hx hb dL_law_550 rfl (lv_at hl 3 rfl) ?_
  refine lv_iconst (v := 2) hx hb dL_law_551 (by decide) ?_
  refine lv_iadd hx hb dL_law_552 ?_
  refine lv_topi (fun k_7 ek_7 => ?_)
  obtain rfl : k_7 = 2 := ek_7.trans (by decide)
  refine va_sld hx hb hX hbl hbA h.2.2.2.1 (vp_in_nI (n := 2) (N := 6) (by decide) (by decide)) dL_law_553 ?_
  refine W.eq (g2 := F0 m 554 ls [.int (xs 2), .int (xs 1), .ref o, .int r_5]) rfl ?_
  refine m_cli (wr := []) h (m_rV (ci := 12) (q0 := 0) (As := [.int (xs 1), .int (xs 2)]) (rest := [.int r_5]) C0 h (c_X12_judge l G o r (xs 1) (xs 2)) k_X12_judge q_1791 q_1792 q_1790 rfl rfl rfl [0, 6] (by decide) rfl hl.1 rfl rfl (Nat.le_of_ble_eq_true rfl) dL_law_554 ⟨Nat.le_of_ble_eq_true rfl, Nat.le_of_ble_eq_true rfl⟩ ⟨Nat.le_of_ble_eq_true rfl, Nat.le_of_ble_eq_true rfl⟩) [0, 6] [] rfl rfl (by decide) (by decide) (fun r_10 u_8 H locs hp_9 h => ?_)
  have h : Wd G A s _ _ [] := h
  refine lv_icmp_eq (tgt := 1727) hx hb dL_law_557 (by decide) (fun _ => ?_) (fun c_11 => absurd (hp_4.trans hp_9.symm) c_11)
  refine W.widen (k := 600000) (n := 7302250) (Nat.le_of_ble_eq_true rfl) (Nat.le_of_ble_eq_true rfl) ?_
  exact law_tail C0 hX hbl hbA hAs G h (lv_sub hl [0, 1, 2, 3] rfl)
set_option maxHeartbeats 4000000 in
set_option maxRecDepth 100000 in
theorem law_case_10 {p : Program} {l : Launch} {e : Env} {s : State} {m : MethodId} {below : List Frame} {meth : Method} {c : Code} {b : Nat} {xs : Nat → Int32} {A : Nat → Prop} (C0 : Cx p s m #[Value.ref b] meth c RL cL_law 4 (some .boolean)) (hX : va_X b 6 xs s s.heap) (hbl : b < s.heap.size) (hbA : ¬ A b) (hAs : ∀ q : Nat, A q → s.heap.size ≤ q) (G : GG) (x o : Nat) (ad : Nat → Nat → Nat) (pf : Nat → Option Nat) (hpf : pf 0 = some (ad 7 7)) (r : Nat → Nat) {H : Heap} {locs : List Loc} {ls : Array Slot} (h : Wd G A s H locs (xW G x ad pf ++ mW G o r)) (hl : lv_has ls 4 [(0, .ref b), (1, .ref x), (2, .ref o), (3, .int 0)]) : W p l e room_1 s m #[Value.ref b] below meth c H locs 1000 200000 (lw_Z below #[Value.ref b] s) (F0 m 562 ls []) := by
  obtain ⟨hx, hb, hml, hown, hts, -⟩ := id C0
  refine lv_aload_n hx hb dL_law_562 rfl (lv_at hl 1 rfl) ?_
  refine lv_aload_n hx hb dL_law_563 rfl (lv_at hl 0 rfl) ?_
  refine lv_iload_n hx hb dL_law_564 rfl (lv_at hl 3 rfl) ?_
  refine lv_iconst (v := 1) hx hb dL_law_565 (by decide) ?_
  refine lv_iadd hx hb dL_law_566 ?_
  refine lv_topi (fun k_1 ek_1 => ?_)
  obtain rfl : k_1 = 1 := ek_1.trans (by decide)
  refine va_sld hx hb hX hbl hbA h.2.2.2.1 (vp_in_nI (n := 1) (N := 6) (by decide) (by decide)) dL_law_567 ?_
  refine W.eq (g2 := F0 m 568 ls [.int (xs 1), .ref x]) rfl ?_
  refine m_cli (wr := (mW G o r)) h (m_rV (ci := 11) (q0 := 0) (As := [.int (xs 1)]) (rest := []) C0 h (c_X11_walk l G x (ad 0) (ad 4) (xs 1)) k_X11_walk q_1009 q_1010 q_1008 rfl rfl rfl [0, 5, 6, 7, 8, 9] (by decide) rfl hl.1 rfl rfl (Nat.le_of_ble_eq_true rfl) dL_law_568 ⟨Nat.le_of_ble_eq_true rfl, Nat.le_of_ble_eq_true rfl⟩ ⟨Nat.le_of_ble_eq_true rfl, Nat.le_of_ble_eq_true rfl⟩) [0, 5, 6, 7, 8, 9] [86, 87, 88, 89, 90, 91, 92, 93, 94] rfl rfl (by decide) (by decide) (fun r_4 u_2 H locs hp_3 h => ?_)
  have h : Wd G A s _ _ (mW G o r) := h
  refine lv_aload_n hx hb dL_law_571 rfl (lv_at hl 2 rfl) ?_
  refine lv_aload_n hx hb dL_law_572 rfl (lv_at hl 0 rfl) ?_
  refine lv_iload_n hx hb dL_law_573 rfl (lv_at hl 3 rfl) ?_
  refine lv_iconst (v := 1) hx hb dL_law_574 (by decide) ?_
  refine lv_iadd hx hb dL_law_575 ?_
  refine lv_topi (fun k_5 ek_5 => ?_)
  obtain rfl : k_5 = 1 := ek_5.trans (by decide)
  refine va_sld hx hb hX hbl hbA h.2.2.2.1 (vp_in_nI (n := 1) (N := 6) (by decide) (by decide)) dL_law_576 ?_
  refine W.eq (g2 := F0 m 577 ls [.int (xs 1), .ref o, .int r_4]) rfl ?_
  refine m_cli (wr := []) h (m_rV (ci := 12) (q0 := 0) (As := [.int (xs 1)]) (rest := [.int r_4]) C0 h (c_X12_walk l G o r (xs 1)) k_X12_walk q_1807 q_1808 q_1806 rfl rfl rfl [0, 6] (by decide) rfl hl.1 rfl rfl (Nat.le_of_ble_eq_true rfl) dL_law_577 ⟨Nat.le_of_ble_eq_true rfl, Nat.le_of_ble_eq_true rfl⟩ ⟨Nat.le_of_ble_eq_true rfl, Nat.le_of_ble_eq_true rfl⟩) [0, 6] [] rfl rfl (by decide) (by decide) (fun r_8 u_6 H locs hp_7 h => ?_)
  have h : Wd G A s _ _ [] := h
  refine lv_icmp_eq (tgt := 1727) hx hb dL_law_580 (by decide) (fun _ => ?_) (fun c_9 => absurd (hp_3.trans hp_7.symm) c_9)
  refine W.widen (k := 600000) (n := 7302250) (Nat.le_of_ble_eq_true rfl) (Nat.le_of_ble_eq_true rfl) ?_
  exact law_tail C0 hX hbl hbA hAs G h (lv_sub hl [0, 1, 2, 3] rfl)
set_option maxHeartbeats 4000000 in
set_option maxRecDepth 100000 in
theorem law_case_11 {p : Program} {l : Launch} {e : Env} {s : State} {m : MethodId} {below : List Frame} {meth : Method} {c : Code} {b : Nat} {xs : Nat → Int32} {A : Nat → Prop} (C0 : Cx p s m #[Value.ref b] meth c RL cL_law 4 (some .boolean)) (hX : va_X b 6 xs s s.heap) (hbl : b < s.heap.size) (hbA : ¬ A b) (hAs : ∀ q : Nat, A q → s.heap.size ≤ q) (G : GG) (x o : Nat) (ad : Nat → Nat → Nat) (pf : Nat → Option Nat) (hpf : pf 0 = some (ad 7 7)) (r : Nat → Nat) {H : Heap} {locs : List Loc} {ls : Array Slot} (h : Wd G A s H locs (xW G x ad pf ++ mW G o r)) (hl : lv_has ls 4 [(0, .ref b), (1, .ref x), (2, .ref o), (3, .int 0)]) : W p l e room_1 s m #[Value.ref b] below meth c H locs 1000 200000 (lw_Z below #[Value.ref b] s) (F0 m 585 ls []) := by
  obtain ⟨hx, hb, hml, hown, hts, -⟩ := id C0
  refine lv_aload_n hx hb dL_law_585 rfl (lv_at hl 1 rfl) ?_
  refine lv_aload_n hx hb dL_law_586 rfl (lv_at hl 0 rfl) ?_
  refine lv_iload_n hx hb dL_law_587 rfl (lv_at hl 3 rfl) ?_
  refine lv_iconst (v := 1) hx hb dL_law_588 (by decide) ?_
  refine lv_iadd hx hb dL_law_589 ?_
  refine lv_topi (fun k_1 ek_1 => ?_)
  obtain rfl : k_1 = 1 := ek_1.trans (by decide)
  refine va_sld hx hb hX hbl hbA h.2.2.2.1 (vp_in_nI (n := 1) (N := 6) (by decide) (by decide)) dL_law_590 ?_
  refine W.eq (g2 := F0 m 591 ls [.int (xs 1), .ref x]) rfl ?_
  refine lv_aload_n hx hb dL_law_591 rfl (lv_at hl 0 rfl) ?_
  refine lv_iload_n hx hb dL_law_592 rfl (lv_at hl 3 rfl) ?_
  refine lv_iconst (v := 2) hx hb dL_law_593 (by decide) ?_
  refine lv_iadd hx hb dL_law_594 ?_
  refine lv_topi (fun k_2 ek_2 => ?_)
  obtain rfl : k_2 = 2 := ek_2.trans (by decide)
  refine va_sld hx hb hX hbl hbA h.2.2.2.1 (vp_in_nI (n := 2) (N := 6) (by decide) (by decide)) dL_law_595 ?_
  refine W.eq (g2 := F0 m 596 ls [.int (xs 2), .int (xs 1), .ref x]) rfl ?_
  refine m_cli (wr := (mW G o r)) h (m_rV (ci := 11) (q0 := 0) (As := [.int (xs 1), .int (xs 2)]) (rest := []) C0 h (c_X11_buy l G x (ad 0) (ad 1) (xs 1) (xs 2)) k_X11_buy q_1013 q_1014 q_1012 rfl rfl rfl [0, 26, 31] (by decide) rfl hl.1 rfl rfl (Nat.le_of_ble_eq_true rfl) dL_law_596 ⟨Nat.le_of_ble_eq_true rfl, Nat.le_of_ble_eq_true rfl⟩ ⟨Nat.le_of_ble_eq_true rfl, Nat.le_of_ble_eq_true rfl⟩) [0, 26, 31] [86, 87, 88, 89, 90, 91, 92, 93, 94] rfl rfl (by decide) (by decide) (fun r_5 u_3 H locs hp_4 h => ?_)
  have h : Wd G A s _ _ (mW G o r) := h
  refine lv_aload_n hx hb dL_law_599 rfl (lv_at hl 2 rfl) ?_
  refine lv_aload_n hx hb dL_law_600 rfl (lv_at hl 0 rfl) ?_
  refine lv_iload_n hx hb dL_law_601 rfl (lv_at hl 3 rfl) ?_
  refine lv_iconst (v := 1) hx hb dL_law_602 (by decide) ?_
  refine lv_iadd hx hb dL_law_603 ?_
  refine lv_topi (fun k_6 ek_6 => ?_)
  obtain rfl : k_6 = 1 := ek_6.trans (by decide)
  refine va_sld hx hb hX hbl hbA h.2.2.2.1 (vp_in_nI (n := 1) (N := 6) (by decide) (by decide)) dL_law_604 ?_
  refine W.eq (g2 := F0 m 605 ls [.int (xs 1), .ref o, .int r_5]) rfl ?_
  refine lv_aload_n hx hb dL_law_605 rfl (lv_at hl 0 rfl) ?_
  refine lv_iload_n hx hb dL_law_606 rfl (lv_at hl 3 rfl) ?_
  refine lv_iconst (v := 2) hx hb dL_law_607 (by decide) ?_
  refine lv_iadd hx hb dL_law_608 ?_
  refine lv_topi (fun k_7 ek_7 => ?_)
  obtain rfl : k_7 = 2 := ek_7.trans (by decide)
  refine va_sld hx hb hX hbl hbA h.2.2.2.1 (vp_in_nI (n := 2) (N := 6) (by decide) (by decide)) dL_law_609 ?_
  refine W.eq (g2 := F0 m 610 ls [.int (xs 2), .int (xs 1), .ref o, .int r_5]) rfl ?_
  refine m_cli (wr := []) h (m_rV (ci := 12) (q0 := 0) (As := [.int (xs 1), .int (xs 2)]) (rest := [.int r_5]) C0 h (c_X12_buy l G o r (xs 1) (xs 2)) k_X12_buy q_1811 q_1812 q_1810 rfl rfl rfl [0, 1] (by decide) rfl hl.1 rfl rfl (Nat.le_of_ble_eq_true rfl) dL_law_610 ⟨Nat.le_of_ble_eq_true rfl, Nat.le_of_ble_eq_true rfl⟩ ⟨Nat.le_of_ble_eq_true rfl, Nat.le_of_ble_eq_true rfl⟩) [0, 1] [] rfl rfl (by decide) (by decide) (fun r_10 u_8 H locs hp_9 h => ?_)
  have h : Wd G A s _ _ [] := h
  refine lv_icmp_eq (tgt := 1727) hx hb dL_law_613 (by decide) (fun _ => ?_) (fun c_11 => absurd (hp_4.trans hp_9.symm) c_11)
  refine W.widen (k := 600000) (n := 7302250) (Nat.le_of_ble_eq_true rfl) (Nat.le_of_ble_eq_true rfl) ?_
  exact law_tail C0 hX hbl hbA hAs G h (lv_sub hl [0, 1, 2, 3] rfl)
set_option maxHeartbeats 4000000 in
set_option maxRecDepth 100000 in
theorem law_case_12 {p : Program} {l : Launch} {e : Env} {s : State} {m : MethodId} {below : List Frame} {meth : Method} {c : Code} {b : Nat} {xs : Nat → Int32} {A : Nat → Prop} (C0 : Cx p s m #[Value.ref b] meth c RL cL_law 4 (some .boolean)) (hX : va_X b 6 xs s s.heap) (hbl : b < s.heap.size) (hbA : ¬ A b) (hAs : ∀ q : Nat, A q → s.heap.size ≤ q) (G : GG) (x o : Nat) (ad : Nat → Nat → Nat) (pf : Nat → Option Nat) (hpf : pf 0 = some (ad 7 7)) (r : Nat → Nat) {H : Heap} {locs : List Loc} {ls : Array Slot} (h : Wd G A s H locs (xW G x ad pf ++ mW G o r)) (hl : lv_has ls 4 [(0, .ref b), (1, .ref x), (2, .ref o), (3, .int 0)]) : W p l e room_1 s m #[Value.ref b] below meth c H locs 1000 200000 (lw_Z below #[Value.ref b] s) (F0 m 618 ls []) := by
  obtain ⟨hx, hb, hml, hown, hts, -⟩ := id C0
  refine lv_aload_n hx hb dL_law_618 rfl (lv_at hl 1 rfl) ?_
  refine lv_aload_n hx hb dL_law_619 rfl (lv_at hl 0 rfl) ?_
  refine lv_iload_n hx hb dL_law_620 rfl (lv_at hl 3 rfl) ?_
  refine lv_iconst (v := 1) hx hb dL_law_621 (by decide) ?_
  refine lv_iadd hx hb dL_law_622 ?_
  refine lv_topi (fun k_1 ek_1 => ?_)
  obtain rfl : k_1 = 1 := ek_1.trans (by decide)
  refine va_sld hx hb hX hbl hbA h.2.2.2.1 (vp_in_nI (n := 1) (N := 6) (by decide) (by decide)) dL_law_623 ?_
  refine W.eq (g2 := F0 m 624 ls [.int (xs 1), .ref x]) rfl ?_
  refine m_cli (wr := (mW G o r)) h (m_rV (ci := 11) (q0 := 0) (As := [.int (xs 1)]) (rest := []) C0 h (c_X11_sell l G x (ad 0) (ad 1) (xs 1)) k_X11_sell q_1022 q_1023 q_1021 rfl rfl rfl [0, 26, 31] (by decide) rfl hl.1 rfl rfl (Nat.le_of_ble_eq_true rfl) dL_law_624 ⟨Nat.le_of_ble_eq_true rfl, Nat.le_of_ble_eq_true rfl⟩ ⟨Nat.le_of_ble_eq_true rfl, Nat.le_of_ble_eq_true rfl⟩) [0, 26, 31] [86, 87, 88, 89, 90, 91, 92, 93, 94] rfl rfl (by decide) (by decide) (fun r_4 u_2 H locs hp_3 h => ?_)
  have h : Wd G A s _ _ (mW G o r) := h
  refine lv_aload_n hx hb dL_law_627 rfl (lv_at hl 2 rfl) ?_
  refine lv_aload_n hx hb dL_law_628 rfl (lv_at hl 0 rfl) ?_
  refine lv_iload_n hx hb dL_law_629 rfl (lv_at hl 3 rfl) ?_
  refine lv_iconst (v := 1) hx hb dL_law_630 (by decide) ?_
  refine lv_iadd hx hb dL_law_631 ?_
  refine lv_topi (fun k_5 ek_5 => ?_)
  obtain rfl : k_5 = 1 := ek_5.trans (by decide)
  refine va_sld hx hb hX hbl hbA h.2.2.2.1 (vp_in_nI (n := 1) (N := 6) (by decide) (by decide)) dL_law_632 ?_
  refine W.eq (g2 := F0 m 633 ls [.int (xs 1), .ref o, .int r_4]) rfl ?_
  refine m_cli (wr := []) h (m_rV (ci := 12) (q0 := 0) (As := [.int (xs 1)]) (rest := [.int r_4]) C0 h (c_X12_sell l G o r (xs 1)) k_X12_sell q_1823 q_1824 q_1822 rfl rfl rfl [0, 1] (by decide) rfl hl.1 rfl rfl (Nat.le_of_ble_eq_true rfl) dL_law_633 ⟨Nat.le_of_ble_eq_true rfl, Nat.le_of_ble_eq_true rfl⟩ ⟨Nat.le_of_ble_eq_true rfl, Nat.le_of_ble_eq_true rfl⟩) [0, 1] [] rfl rfl (by decide) (by decide) (fun r_8 u_6 H locs hp_7 h => ?_)
  have h : Wd G A s _ _ [] := h
  refine lv_icmp_eq (tgt := 1727) hx hb dL_law_636 (by decide) (fun _ => ?_) (fun c_9 => absurd (hp_3.trans hp_7.symm) c_9)
  refine W.widen (k := 600000) (n := 7302250) (Nat.le_of_ble_eq_true rfl) (Nat.le_of_ble_eq_true rfl) ?_
  exact law_tail C0 hX hbl hbA hAs G h (lv_sub hl [0, 1, 2, 3] rfl)
set_option maxHeartbeats 4000000 in
set_option maxRecDepth 100000 in
theorem law_case_13 {p : Program} {l : Launch} {e : Env} {s : State} {m : MethodId} {below : List Frame} {meth : Method} {c : Code} {b : Nat} {xs : Nat → Int32} {A : Nat → Prop} (C0 : Cx p s m #[Value.ref b] meth c RL cL_law 4 (some .boolean)) (hX : va_X b 6 xs s s.heap) (hbl : b < s.heap.size) (hbA : ¬ A b) (hAs : ∀ q : Nat, A q → s.heap.size ≤ q) (G : GG) (x o : Nat) (ad : Nat → Nat → Nat) (pf : Nat → Option Nat) (hpf : pf 0 = some (ad 7 7)) (r : Nat → Nat) {H : Heap} {locs : List Loc} {ls : Array Slot} (h : Wd G A s H locs (xW G x ad pf ++ mW G o r)) (hl : lv_has ls 4 [(0, .ref b), (1, .ref x), (2, .ref o), (3, .int 0)]) : W p l e room_1 s m #[Value.ref b] below meth c H locs 1000 200000 (lw_Z below #[Value.ref b] s) (F0 m 641 ls []) := by
  obtain ⟨hx, hb, hml, hown, hts, -⟩ := id C0
  refine lv_aload_n hx hb dL_law_641 rfl (lv_at hl 1 rfl) ?_
  refine lv_aload_n hx hb dL_law_642 rfl (lv_at hl 0 rfl) ?_
  refine lv_iload_n hx hb dL_law_643 rfl (lv_at hl 3 rfl) ?_
  refine lv_iconst (v := 1) hx hb dL_law_644 (by decide) ?_
  refine lv_iadd hx hb dL_law_645 ?_
  refine lv_topi (fun k_1 ek_1 => ?_)
  obtain rfl : k_1 = 1 := ek_1.trans (by decide)
  refine va_sld hx hb hX hbl hbA h.2.2.2.1 (vp_in_nI (n := 1) (N := 6) (by decide) (by decide)) dL_law_646 ?_
  refine W.eq (g2 := F0 m 647 ls [.int (xs 1), .ref x]) rfl ?_
  refine lv_aload_n hx hb dL_law_647 rfl (lv_at hl 0 rfl) ?_
  refine lv_iload_n hx hb dL_law_648 rfl (lv_at hl 3 rfl) ?_
  refine lv_iconst (v := 2) hx hb dL_law_649 (by decide) ?_
  refine lv_iadd hx hb dL_law_650 ?_
  refine lv_topi (fun k_2 ek_2 => ?_)
  obtain rfl : k_2 = 2 := ek_2.trans (by decide)
  refine va_sld hx hb hX hbl hbA h.2.2.2.1 (vp_in_nI (n := 2) (N := 6) (by decide) (by decide)) dL_law_651 ?_
  refine W.eq (g2 := F0 m 652 ls [.int (xs 2), .int (xs 1), .ref x]) rfl ?_
  refine lv_aload_n hx hb dL_law_652 rfl (lv_at hl 0 rfl) ?_
  refine lv_iload_n hx hb dL_law_653 rfl (lv_at hl 3 rfl) ?_
  refine lv_iconst (v := 3) hx hb dL_law_654 (by decide) ?_
  refine lv_iadd hx hb dL_law_655 ?_
  refine lv_topi (fun k_3 ek_3 => ?_)
  obtain rfl : k_3 = 3 := ek_3.trans (by decide)
  refine va_sld hx hb hX hbl hbA h.2.2.2.1 (vp_in_nI (n := 3) (N := 6) (by decide) (by decide)) dL_law_656 ?_
  refine W.eq (g2 := F0 m 657 ls [.int (xs 3), .int (xs 2), .int (xs 1), .ref x]) rfl ?_
  refine m_cli (wr := (mW G o r)) h (m_rV (ci := 11) (q0 := 0) (As := [.int (xs 1), .int (xs 2), .int (xs 3)]) (rest := []) C0 h (c_X11_hand l G x (ad 0) (ad 1) (xs 1) (xs 2) (xs 3)) k_X11_hand q_1027 q_1028 q_1026 rfl rfl rfl [0, 26, 31] (by decide) rfl hl.1 rfl rfl (Nat.le_of_ble_eq_true rfl) dL_law_657 ⟨Nat.le_of_ble_eq_true rfl, Nat.le_of_ble_eq_true rfl⟩ ⟨Nat.le_of_ble_eq_true rfl, Nat.le_of_ble_eq_true rfl⟩) [0, 26, 31] [86, 87, 88, 89, 90, 91, 92, 93, 94] rfl rfl (by decide) (by decide) (fun r_6 u_4 H locs hp_5 h => ?_)
  have h : Wd G A s _ _ (mW G o r) := h
  refine lv_aload_n hx hb dL_law_660 rfl (lv_at hl 2 rfl) ?_
  refine lv_aload_n hx hb dL_law_661 rfl (lv_at hl 0 rfl) ?_
  refine lv_iload_n hx hb dL_law_662 rfl (lv_at hl 3 rfl) ?_
  refine lv_iconst (v := 1) hx hb dL_law_663 (by decide) ?_
  refine lv_iadd hx hb dL_law_664 ?_
  refine lv_topi (fun k_7 ek_7 => ?_)
  obtain rfl : k_7 = 1 := ek_7.trans (by decide)
  refine va_sld hx hb hX hbl hbA h.2.2.2.1 (vp_in_nI (n := 1) (N := 6) (by decide) (by decide)) dL_law_665 ?_
  refine W.eq (g2 := F0 m 666 ls [.int (xs 1), .ref o, .int r_6]) rfl ?_
  refine lv_aload_n hx hb dL_law_666 rfl (lv_at hl 0 rfl) ?_
  refine lv_iload_n hx hb dL_law_667 rfl (lv_at hl 3 rfl) ?_
  refine lv_iconst (v := 2) hx hb dL_law_668 (by decide) ?_
  refine lv_iadd hx hb dL_law_669 ?_
  refine lv_topi (fun k_8 ek_8 => ?_)
  obtain rfl : k_8 = 2 := ek_8.trans (by decide)
  refine va_sld hx hb hX hbl hbA h.2.2.2.1 (vp_in_nI (n := 2) (N := 6) (by decide) (by decide)) dL_law_670 ?_
  refine W.eq (g2 := F0 m 671 ls [.int (xs 2), .int (xs 1), .ref o, .int r_6]) rfl ?_
  refine lv_aload_n hx hb dL_law_671 rfl (lv_at hl 0 rfl) ?_
  refine lv_iload_n hx hb dL_law_672 rfl (lv_at hl 3 rfl) ?_
  refine lv_iconst (v := 3) hx hb dL_law_673 (by decide) ?_
  refine lv_iadd hx hb dL_law_674 ?_
  refine lv_topi (fun k_9 ek_9 => ?_)
  obtain rfl : k_9 = 3 := ek_9.trans (by decide)
  refine va_sld hx hb hX hbl hbA h.2.2.2.1 (vp_in_nI (n := 3) (N := 6) (by decide) (by decide)) dL_law_675 ?_
  refine W.eq (g2 := F0 m 676 ls [.int (xs 3), .int (xs 2), .int (xs 1), .ref o, .int r_6]) rfl ?_
  refine m_cli (wr := []) h (m_rV (ci := 12) (q0 := 0) (As := [.int (xs 1), .int (xs 2), .int (xs 3)]) (rest := [.int r_6]) C0 h (c_X12_hand l G o r (xs 1) (xs 2) (xs 3)) k_X12_hand q_1827 q_1828 q_1826 rfl rfl rfl [0, 1] (by decide) rfl hl.1 rfl rfl (Nat.le_of_ble_eq_true rfl) dL_law_676 ⟨Nat.le_of_ble_eq_true rfl, Nat.le_of_ble_eq_true rfl⟩ ⟨Nat.le_of_ble_eq_true rfl, Nat.le_of_ble_eq_true rfl⟩) [0, 1] [] rfl rfl (by decide) (by decide) (fun r_12 u_10 H locs hp_11 h => ?_)
  have h : Wd G A s _ _ [] := h
  refine lv_icmp_eq (tgt := 1727) hx hb dL_law_679 (by decide) (fun _ => ?_) (fun c_13 => absurd (hp_5.trans hp_11.symm) c_13)
  refine W.widen (k := 600000) (n := 7302250) (Nat.le_of_ble_eq_true rfl) (Nat.le_of_ble_eq_true rfl) ?_
  exact law_tail C0 hX hbl hbA hAs G h (lv_sub hl [0, 1, 2, 3] rfl)
set_option maxHeartbeats 4000000 in
set_option maxRecDepth 100000 in
theorem law_case_14 {p : Program} {l : Launch} {e : Env} {s : State} {m : MethodId} {below : List Frame} {meth : Method} {c : Code} {b : Nat} {xs : Nat → Int32} {A : Nat → Prop} (C0 : Cx p s m #[Value.ref b] meth c RL cL_law 4 (some .boolean)) (hX : va_X b 6 xs s s.heap) (hbl : b < s.heap.size) (hbA : ¬ A b) (hAs : ∀ q : Nat, A q → s.heap.size ≤ q) (G : GG) (x o : Nat) (ad : Nat → Nat → Nat) (pf : Nat → Option Nat) (hpf : pf 0 = some (ad 7 7)) (r : Nat → Nat) {H : Heap} {locs : List Loc} {ls : Array Slot} (h : Wd G A s H locs (xW G x ad pf ++ mW G o r)) (hl : lv_has ls 4 [(0, .ref b), (1, .ref x), (2, .ref o), (3, .int 0)]) : W p l e room_1 s m #[Value.ref b] below meth c H locs 1000 200000 (lw_Z below #[Value.ref b] s) (F0 m 684 ls []) := by
  obtain ⟨hx, hb, hml, hown, hts, -⟩ := id C0
  refine lv_aload_n hx hb dL_law_684 rfl (lv_at hl 1 rfl) ?_
  refine lv_aload_n hx hb dL_law_685 rfl (lv_at hl 0 rfl) ?_
  refine lv_iload_n hx hb dL_law_686 rfl (lv_at hl 3 rfl) ?_
  refine lv_iconst (v := 1) hx hb dL_law_687 (by decide) ?_
  refine lv_iadd hx hb dL_law_688 ?_
  refine lv_topi (fun k_1 ek_1 => ?_)
  obtain rfl : k_1 = 1 := ek_1.trans (by decide)
  refine va_sld hx hb hX hbl hbA h.2.2.2.1 (vp_in_nI (n := 1) (N := 6) (by decide) (by decide)) dL_law_689 ?_
  refine W.eq (g2 := F0 m 690 ls [.int (xs 1), .ref x]) rfl ?_
  refine lv_aload_n hx hb dL_law_690 rfl (lv_at hl 0 rfl) ?_
  refine lv_iload_n hx hb dL_law_691 rfl (lv_at hl 3 rfl) ?_
  refine lv_iconst (v := 2) hx hb dL_law_692 (by decide) ?_
  refine lv_iadd hx hb dL_law_693 ?_
  refine lv_topi (fun k_2 ek_2 => ?_)
  obtain rfl : k_2 = 2 := ek_2.trans (by decide)
  refine va_sld hx hb hX hbl hbA h.2.2.2.1 (vp_in_nI (n := 2) (N := 6) (by decide) (by decide)) dL_law_694 ?_
  refine W.eq (g2 := F0 m 695 ls [.int (xs 2), .int (xs 1), .ref x]) rfl ?_
  refine m_cli (wr := (mW G o r)) h (m_rV (ci := 11) (q0 := 0) (As := [.int (xs 1), .int (xs 2)]) (rest := []) C0 h (c_X11_fog l G x (ad 0) (ad 1) (xs 1) (xs 2)) k_X11_fog q_1031 q_1032 q_1030 rfl rfl rfl [0, 26, 31] (by decide) rfl hl.1 rfl rfl (Nat.le_of_ble_eq_true rfl) dL_law_695 ⟨Nat.le_of_ble_eq_true rfl, Nat.le_of_ble_eq_true rfl⟩ ⟨Nat.le_of_ble_eq_true rfl, Nat.le_of_ble_eq_true rfl⟩) [0, 26, 31] [86, 87, 88, 89, 90, 91, 92, 93, 94] rfl rfl (by decide) (by decide) (fun r_5 u_3 H locs hp_4 h => ?_)
  have h : Wd G A s _ _ (mW G o r) := h
  refine lv_aload_n hx hb dL_law_698 rfl (lv_at hl 2 rfl) ?_
  refine lv_aload_n hx hb dL_law_699 rfl (lv_at hl 0 rfl) ?_
  refine lv_iload_n hx hb dL_law_700 rfl (lv_at hl 3 rfl) ?_
  refine lv_iconst (v := 1) hx hb dL_law_701 (by decide) ?_
  refine lv_iadd hx hb dL_law_702 ?_
  refine lv_topi (fun k_6 ek_6 => ?_)
  obtain rfl : k_6 = 1 := ek_6.trans (by decide)
  refine va_sld hx hb hX hbl hbA h.2.2.2.1 (vp_in_nI (n := 1) (N := 6) (by decide) (by decide)) dL_law_703 ?_
  refine W.eq (g2 := F0 m 704 ls [.int (xs 1), .ref o, .int r_5]) rfl ?_
  refine lv_aload_n hx hb dL_law_704 rfl (lv_at hl 0 rfl) ?_
  refine lv_iload_n hx hb dL_law_705 rfl (lv_at hl 3 rfl) ?_
  refine lv_iconst (v := 2) hx hb dL_law_706 (by decide) ?_
  refine lv_iadd hx hb dL_law_707 ?_
  refine lv_topi (fun k_7 ek_7 => ?_)
  obtain rfl : k_7 = 2 := ek_7.trans (by decide)
  refine va_sld hx hb hX hbl hbA h.2.2.2.1 (vp_in_nI (n := 2) (N := 6) (by decide) (by decide)) dL_law_708 ?_
  refine W.eq (g2 := F0 m 709 ls [.int (xs 2), .int (xs 1), .ref o, .int r_5]) rfl ?_
  refine m_cli (wr := []) h (m_rV (ci := 12) (q0 := 0) (As := [.int (xs 1), .int (xs 2)]) (rest := [.int r_5]) C0 h (c_X12_fog l G o r (xs 1) (xs 2)) k_X12_fog q_1832 q_1833 q_1831 rfl rfl rfl [0, 1] (by decide) rfl hl.1 rfl rfl (Nat.le_of_ble_eq_true rfl) dL_law_709 ⟨Nat.le_of_ble_eq_true rfl, Nat.le_of_ble_eq_true rfl⟩ ⟨Nat.le_of_ble_eq_true rfl, Nat.le_of_ble_eq_true rfl⟩) [0, 1] [] rfl rfl (by decide) (by decide) (fun r_10 u_8 H locs hp_9 h => ?_)
  have h : Wd G A s _ _ [] := h
  refine lv_icmp_eq (tgt := 1727) hx hb dL_law_712 (by decide) (fun _ => ?_) (fun c_11 => absurd (hp_4.trans hp_9.symm) c_11)
  refine W.widen (k := 600000) (n := 7302250) (Nat.le_of_ble_eq_true rfl) (Nat.le_of_ble_eq_true rfl) ?_
  exact law_tail C0 hX hbl hbA hAs G h (lv_sub hl [0, 1, 2, 3] rfl)
set_option maxHeartbeats 4000000 in
set_option maxRecDepth 100000 in
theorem law_case_15 {p : Program} {l : Launch} {e : Env} {s : State} {m : MethodId} {below : List Frame} {meth : Method} {c : Code} {b : Nat} {xs : Nat → Int32} {A : Nat → Prop} (C0 : Cx p s m #[Value.ref b] meth c RL cL_law 4 (some .boolean)) (hX : va_X b 6 xs s s.heap) (hbl : b < s.heap.size) (hbA : ¬ A b) (hAs : ∀ q : Nat, A q → s.heap.size ≤ q) (G : GG) (x o : Nat) (ad : Nat → Nat → Nat) (pf : Nat → Option Nat) (hpf : pf 0 = some (ad 7 7)) (r : Nat → Nat) {H : Heap} {locs : List Loc} {ls : Array Slot} (h : Wd G A s H locs (xW G x ad pf ++ mW G o r)) (hl : lv_has ls 4 [(0, .ref b), (1, .ref x), (2, .ref o), (3, .int 0)]) : W p l e room_1 s m #[Value.ref b] below meth c H locs 1000 200000 (lw_Z below #[Value.ref b] s) (F0 m 717 ls []) := by
  obtain ⟨hx, hb, hml, hown, hts, -⟩ := id C0
  refine lv_aload_n hx hb dL_law_717 rfl (lv_at hl 1 rfl) ?_
  refine lv_aload_n hx hb dL_law_718 rfl (lv_at hl 0 rfl) ?_
  refine lv_iload_n hx hb dL_law_719 rfl (lv_at hl 3 rfl) ?_
  refine lv_iconst (v := 1) hx hb dL_law_720 (by decide) ?_
  refine lv_iadd hx hb dL_law_721 ?_
  refine lv_topi (fun k_1 ek_1 => ?_)
  obtain rfl : k_1 = 1 := ek_1.trans (by decide)
  refine va_sld hx hb hX hbl hbA h.2.2.2.1 (vp_in_nI (n := 1) (N := 6) (by decide) (by decide)) dL_law_722 ?_
  refine W.eq (g2 := F0 m 723 ls [.int (xs 1), .ref x]) rfl ?_
  refine m_cli (wr := (mW G o r)) h (m_rV (ci := 11) (q0 := 0) (As := [.int (xs 1)]) (rest := []) C0 h (c_X11_hours l G x (ad 0) (ad 1) (ad 7) pf (ad 3) (xs 1) hpf) k_X11_hours q_1041 q_1042 q_1040 rfl rfl rfl [0, 16, 17, 18, 19, 20, 21, 22, 23, 24, 31, 32, 33, 34, 35, 36, 37, 38, 26, 3] (by decide) rfl hl.1 rfl rfl (Nat.le_of_ble_eq_true rfl) dL_law_723 ⟨Nat.le_of_ble_eq_true rfl, Nat.le_of_ble_eq_true rfl⟩ ⟨Nat.le_of_ble_eq_true rfl, Nat.le_of_ble_eq_true rfl⟩) [0, 16, 17, 18, 19, 20, 21, 22, 23, 24, 31, 32, 33, 34, 35, 36, 37, 38, 26, 3] [86, 87, 88, 89, 90, 91, 92, 93, 94] rfl rfl (by decide) (by decide) (fun r_4 u_2 H locs hp_3 h => ?_)
  have h : Wd G A s _ _ (mW G o r) := h
  refine lv_aload_n hx hb dL_law_726 rfl (lv_at hl 2 rfl) ?_
  refine lv_aload_n hx hb dL_law_727 rfl (lv_at hl 0 rfl) ?_
  refine lv_iload_n hx hb dL_law_728 rfl (lv_at hl 3 rfl) ?_
  refine lv_iconst (v := 1) hx hb dL_law_729 (by decide) ?_
  refine lv_iadd hx hb dL_law_730 ?_
  refine lv_topi (fun k_5 ek_5 => ?_)
  obtain rfl : k_5 = 1 := ek_5.trans (by decide)
  refine va_sld hx hb hX hbl hbA h.2.2.2.1 (vp_in_nI (n := 1) (N := 6) (by decide) (by decide)) dL_law_731 ?_
  refine W.eq (g2 := F0 m 732 ls [.int (xs 1), .ref o, .int r_4]) rfl ?_
  refine m_cli (wr := []) h (m_rV (ci := 12) (q0 := 0) (As := [.int (xs 1)]) (rest := [.int r_4]) C0 h (c_X12_hours l G o r (xs 1)) k_X12_hours q_1840 q_1841 q_1839 rfl rfl rfl [0, 1, 5] (by decide) rfl hl.1 rfl rfl (Nat.le_of_ble_eq_true rfl) dL_law_732 ⟨Nat.le_of_ble_eq_true rfl, Nat.le_of_ble_eq_true rfl⟩ ⟨Nat.le_of_ble_eq_true rfl, Nat.le_of_ble_eq_true rfl⟩) [0, 1, 5] [] rfl rfl (by decide) (by decide) (fun r_8 u_6 H locs hp_7 h => ?_)
  have h : Wd G A s _ _ [] := h
  refine lv_icmp_eq (tgt := 1727) hx hb dL_law_735 (by decide) (fun _ => ?_) (fun c_9 => absurd (hp_3.trans hp_7.symm) c_9)
  refine W.widen (k := 600000) (n := 7302250) (Nat.le_of_ble_eq_true rfl) (Nat.le_of_ble_eq_true rfl) ?_
  exact law_tail C0 hX hbl hbA hAs G h (lv_sub hl [0, 1, 2, 3] rfl)
set_option maxHeartbeats 4000000 in
set_option maxRecDepth 100000 in
theorem law_case_16 {p : Program} {l : Launch} {e : Env} {s : State} {m : MethodId} {below : List Frame} {meth : Method} {c : Code} {b : Nat} {xs : Nat → Int32} {A : Nat → Prop} (C0 : Cx p s m #[Value.ref b] meth c RL cL_law 4 (some .boolean)) (hX : va_X b 6 xs s s.heap) (hbl : b < s.heap.size) (hbA : ¬ A b) (hAs : ∀ q : Nat, A q → s.heap.size ≤ q) (G : GG) (x o : Nat) (ad : Nat → Nat → Nat) (pf : Nat → Option Nat) (hpf : pf 0 = some (ad 7 7)) (r : Nat → Nat) {H : Heap} {locs : List Loc} {ls : Array Slot} (h : Wd G A s H locs (xW G x ad pf ++ mW G o r)) (hl : lv_has ls 4 [(0, .ref b), (1, .ref x), (2, .ref o), (3, .int 0)]) : W p l e room_1 s m #[Value.ref b] below meth c H locs 1000 200000 (lw_Z below #[Value.ref b] s) (F0 m 740 ls []) := by
  obtain ⟨hx, hb, hml, hown, hts, -⟩ := id C0
  refine lv_aload_n hx hb dL_law_740 rfl (lv_at hl 1 rfl) ?_
  refine lv_aload_n hx hb dL_law_741 rfl (lv_at hl 0 rfl) ?_
  refine lv_iload_n hx hb dL_law_742 rfl (lv_at hl 3 rfl) ?_
  refine lv_iconst (v := 1) hx hb dL_law_743 (by decide) ?_
  refine lv_iadd hx hb dL_law_744 ?_
  refine lv_topi (fun k_1 ek_1 => ?_)
  obtain rfl : k_1 = 1 := ek_1.trans (by decide)
  refine va_sld hx hb hX hbl hbA h.2.2.2.1 (vp_in_nI (n := 1) (N := 6) (by decide) (by decide)) dL_law_745 ?_
  refine W.eq (g2 := F0 m 746 ls [.int (xs 1), .ref x]) rfl ?_
  refine m_cli (wr := (mW G o r)) h (m_rV (ci := 11) (q0 := 0) (As := [.int (xs 1)]) (rest := []) C0 h (c_X11_undo l G x (ad 0) (ad 1) (xs 1)) k_X11_undo q_1045 q_1046 q_1044 rfl rfl rfl [0, 26, 31] (by decide) rfl hl.1 rfl rfl (Nat.le_of_ble_eq_true rfl) dL_law_746 ⟨Nat.le_of_ble_eq_true rfl, Nat.le_of_ble_eq_true rfl⟩ ⟨Nat.le_of_ble_eq_true rfl, Nat.le_of_ble_eq_true rfl⟩) [0, 26, 31] [86, 87, 88, 89, 90, 91, 92, 93, 94] rfl rfl (by decide) (by decide) (fun r_4 u_2 H locs hp_3 h => ?_)
  have h : Wd G A s _ _ (mW G o r) := h
  refine lv_aload_n hx hb dL_law_749 rfl (lv_at hl 2 rfl) ?_
  refine lv_aload_n hx hb dL_law_750 rfl (lv_at hl 0 rfl) ?_
  refine lv_iload_n hx hb dL_law_751 rfl (lv_at hl 3 rfl) ?_
  refine lv_iconst (v := 1) hx hb dL_law_752 (by decide) ?_
  refine lv_iadd hx hb dL_law_753 ?_
  refine lv_topi (fun k_5 ek_5 => ?_)
  obtain rfl : k_5 = 1 := ek_5.trans (by decide)
  refine va_sld hx hb hX hbl hbA h.2.2.2.1 (vp_in_nI (n := 1) (N := 6) (by decide) (by decide)) dL_law_754 ?_
  refine W.eq (g2 := F0 m 755 ls [.int (xs 1), .ref o, .int r_4]) rfl ?_
  refine m_cli (wr := []) h (m_rV (ci := 12) (q0 := 0) (As := [.int (xs 1)]) (rest := [.int r_4]) C0 h (c_X12_undo l G o r (xs 1)) k_X12_undo q_1844 q_1845 q_1843 rfl rfl rfl [0, 1] (by decide) rfl hl.1 rfl rfl (Nat.le_of_ble_eq_true rfl) dL_law_755 ⟨Nat.le_of_ble_eq_true rfl, Nat.le_of_ble_eq_true rfl⟩ ⟨Nat.le_of_ble_eq_true rfl, Nat.le_of_ble_eq_true rfl⟩) [0, 1] [] rfl rfl (by decide) (by decide) (fun r_8 u_6 H locs hp_7 h => ?_)
  have h : Wd G A s _ _ [] := h
  refine lv_icmp_eq (tgt := 1727) hx hb dL_law_758 (by decide) (fun _ => ?_) (fun c_9 => absurd (hp_3.trans hp_7.symm) c_9)
  refine W.widen (k := 600000) (n := 7302250) (Nat.le_of_ble_eq_true rfl) (Nat.le_of_ble_eq_true rfl) ?_
  exact law_tail C0 hX hbl hbA hAs G h (lv_sub hl [0, 1, 2, 3] rfl)
set_option maxHeartbeats 4000000 in
set_option maxRecDepth 100000 in
theorem law_case_17 {p : Program} {l : Launch} {e : Env} {s : State} {m : MethodId} {below : List Frame} {meth : Method} {c : Code} {b : Nat} {xs : Nat → Int32} {A : Nat → Prop} (C0 : Cx p s m #[Value.ref b] meth c RL cL_law 4 (some .boolean)) (hX : va_X b 6 xs s s.heap) (hbl : b < s.heap.size) (hbA : ¬ A b) (hAs : ∀ q : Nat, A q → s.heap.size ≤ q) (G : GG) (x o : Nat) (ad : Nat → Nat → Nat) (pf : Nat → Option Nat) (hpf : pf 0 = some (ad 7 7)) (r : Nat → Nat) {H : Heap} {locs : List Loc} {ls : Array Slot} (h : Wd G A s H locs (xW G x ad pf ++ mW G o r)) (hl : lv_has ls 4 [(0, .ref b), (1, .ref x), (2, .ref o), (3, .int 0)]) : W p l e room_1 s m #[Value.ref b] below meth c H locs 1000 200000 (lw_Z below #[Value.ref b] s) (F0 m 763 ls []) := by
  obtain ⟨hx, hb, hml, hown, hts, -⟩ := id C0
  refine lv_aload_n hx hb dL_law_763 rfl (lv_at hl 1 rfl) ?_
  refine lv_aload_n hx hb dL_law_764 rfl (lv_at hl 0 rfl) ?_
  refine lv_iload_n hx hb dL_law_765 rfl (lv_at hl 3 rfl) ?_
  refine lv_iconst (v := 1) hx hb dL_law_766 (by decide) ?_
  refine lv_iadd hx hb dL_law_767 ?_
  refine lv_topi (fun k_1 ek_1 => ?_)
  obtain rfl : k_1 = 1 := ek_1.trans (by decide)
  refine va_sld hx hb hX hbl hbA h.2.2.2.1 (vp_in_nI (n := 1) (N := 6) (by decide) (by decide)) dL_law_768 ?_
  refine W.eq (g2 := F0 m 769 ls [.int (xs 1), .ref x]) rfl ?_
  refine lv_aload_n hx hb dL_law_769 rfl (lv_at hl 0 rfl) ?_
  refine lv_iload_n hx hb dL_law_770 rfl (lv_at hl 3 rfl) ?_
  refine lv_iconst (v := 2) hx hb dL_law_771 (by decide) ?_
  refine lv_iadd hx hb dL_law_772 ?_
  refine lv_topi (fun k_2 ek_2 => ?_)
  obtain rfl : k_2 = 2 := ek_2.trans (by decide)
  refine va_sld hx hb hX hbl hbA h.2.2.2.1 (vp_in_nI (n := 2) (N := 6) (by decide) (by decide)) dL_law_773 ?_
  refine W.eq (g2 := F0 m 774 ls [.int (xs 2), .int (xs 1), .ref x]) rfl ?_
  refine m_cli (wr := (mW G o r)) h (m_rV (ci := 11) (q0 := 0) (As := [.int (xs 1), .int (xs 2)]) (rest := []) C0 h (c_X11_week l G x (ad 0) (ad 1) (xs 1) (xs 2)) k_X11_week q_1049 q_1050 q_1048 rfl rfl rfl [0, 26, 31] (by decide) rfl hl.1 rfl rfl (Nat.le_of_ble_eq_true rfl) dL_law_774 ⟨Nat.le_of_ble_eq_true rfl, Nat.le_of_ble_eq_true rfl⟩ ⟨Nat.le_of_ble_eq_true rfl, Nat.le_of_ble_eq_true rfl⟩) [0, 26, 31] [86, 87, 88, 89, 90, 91, 92, 93, 94] rfl rfl (by decide) (by decide) (fun r_5 u_3 H locs hp_4 h => ?_)
  have h : Wd G A s _ _ (mW G o r) := h
  refine lv_aload_n hx hb dL_law_777 rfl (lv_at hl 2 rfl) ?_
  refine lv_aload_n hx hb dL_law_778 rfl (lv_at hl 0 rfl) ?_
  refine lv_iload_n hx hb dL_law_779 rfl (lv_at hl 3 rfl) ?_
  refine lv_iconst (v := 1) hx hb dL_law_780 (by decide) ?_
  refine lv_iadd hx hb dL_law_781 ?_
  refine lv_topi (fun k_6 ek_6 => ?_)
  obtain rfl : k_6 = 1 := ek_6.trans (by decide)
  refine va_sld hx hb hX hbl hbA h.2.2.2.1 (vp_in_nI (n := 1) (N := 6) (by decide) (by decide)) dL_law_782 ?_
  refine W.eq (g2 := F0 m 783 ls [.int (xs 1), .ref o, .int r_5]) rfl ?_
  refine lv_aload_n hx hb dL_law_783 rfl (lv_at hl 0 rfl) ?_
  refine lv_iload_n hx hb dL_law_784 rfl (lv_at hl 3 rfl) ?_
  refine lv_iconst (v := 2) hx hb dL_law_785 (by decide) ?_
  refine lv_iadd hx hb dL_law_786 ?_
  refine lv_topi (fun k_7 ek_7 => ?_)
  obtain rfl : k_7 = 2 := ek_7.trans (by decide)
  refine va_sld hx hb hX hbl hbA h.2.2.2.1 (vp_in_nI (n := 2) (N := 6) (by decide) (by decide)) dL_law_787 ?_
  refine W.eq (g2 := F0 m 788 ls [.int (xs 2), .int (xs 1), .ref o, .int r_5]) rfl ?_
  refine m_cli (wr := []) h (m_rV (ci := 12) (q0 := 0) (As := [.int (xs 1), .int (xs 2)]) (rest := [.int r_5]) C0 h (c_X12_week l G o r (xs 1) (xs 2)) k_X12_week q_1849 q_1850 q_1848 rfl rfl rfl [0, 1] (by decide) rfl hl.1 rfl rfl (Nat.le_of_ble_eq_true rfl) dL_law_788 ⟨Nat.le_of_ble_eq_true rfl, Nat.le_of_ble_eq_true rfl⟩ ⟨Nat.le_of_ble_eq_true rfl, Nat.le_of_ble_eq_true rfl⟩) [0, 1] [] rfl rfl (by decide) (by decide) (fun r_10 u_8 H locs hp_9 h => ?_)
  have h : Wd G A s _ _ [] := h
  refine lv_icmp_eq (tgt := 1727) hx hb dL_law_791 (by decide) (fun _ => ?_) (fun c_11 => absurd (hp_4.trans hp_9.symm) c_11)
  refine W.widen (k := 600000) (n := 7302250) (Nat.le_of_ble_eq_true rfl) (Nat.le_of_ble_eq_true rfl) ?_
  exact law_tail C0 hX hbl hbA hAs G h (lv_sub hl [0, 1, 2, 3] rfl)
set_option maxHeartbeats 4000000 in
set_option maxRecDepth 100000 in
theorem law_case_18 {p : Program} {l : Launch} {e : Env} {s : State} {m : MethodId} {below : List Frame} {meth : Method} {c : Code} {b : Nat} {xs : Nat → Int32} {A : Nat → Prop} (C0 : Cx p s m #[Value.ref b] meth c RL cL_law 4 (some .boolean)) (hX : va_X b 6 xs s s.heap) (hbl : b < s.heap.size) (hbA : ¬ A b) (hAs : ∀ q : Nat, A q → s.heap.size ≤ q) (G : GG) (x o : Nat) (ad : Nat → Nat → Nat) (pf : Nat → Option Nat) (hpf : pf 0 = some (ad 7 7)) (r : Nat → Nat) {H : Heap} {locs : List Loc} {ls : Array Slot} (h : Wd G A s H locs (xW G x ad pf ++ mW G o r)) (hl : lv_has ls 4 [(0, .ref b), (1, .ref x), (2, .ref o), (3, .int 0)]) : W p l e room_1 s m #[Value.ref b] below meth c H locs 1000 200000 (lw_Z below #[Value.ref b] s) (F0 m 796 ls []) := by
  obtain ⟨hx, hb, hml, hown, hts, -⟩ := id C0
  refine lv_aload_n hx hb dL_law_796 rfl (lv_at hl 1 rfl) ?_
  refine lv_aload_n hx hb dL_law_797 rfl (lv_at hl 0 rfl) ?_
  refine lv_iload_n hx hb dL_law_798 rfl (lv_at hl 3 rfl) ?_
  refine lv_iconst (v := 1) hx hb dL_law_799 (by decide) ?_
  refine lv_iadd hx hb dL_law_800 ?_
  refine lv_topi (fun k_1 ek_1 => ?_)
  obtain rfl : k_1 = 1 := ek_1.trans (by decide)
  refine va_sld hx hb hX hbl hbA h.2.2.2.1 (vp_in_nI (n := 1) (N := 6) (by decide) (by decide)) dL_law_801 ?_
  refine W.eq (g2 := F0 m 802 ls [.int (xs 1), .ref x]) rfl ?_
  refine lv_aload_n hx hb dL_law_802 rfl (lv_at hl 0 rfl) ?_
  refine lv_iload_n hx hb dL_law_803 rfl (lv_at hl 3 rfl) ?_
  refine lv_iconst (v := 2) hx hb dL_law_804 (by decide) ?_
  refine lv_iadd hx hb dL_law_805 ?_
  refine lv_topi (fun k_2 ek_2 => ?_)
  obtain rfl : k_2 = 2 := ek_2.trans (by decide)
  refine va_sld hx hb hX hbl hbA h.2.2.2.1 (vp_in_nI (n := 2) (N := 6) (by decide) (by decide)) dL_law_806 ?_
  refine W.eq (g2 := F0 m 807 ls [.int (xs 2), .int (xs 1), .ref x]) rfl ?_
  refine lv_aload_n hx hb dL_law_807 rfl (lv_at hl 0 rfl) ?_
  refine lv_iload_n hx hb dL_law_808 rfl (lv_at hl 3 rfl) ?_
  refine lv_iconst (v := 3) hx hb dL_law_809 (by decide) ?_
  refine lv_iadd hx hb dL_law_810 ?_
  refine lv_topi (fun k_3 ek_3 => ?_)
  obtain rfl : k_3 = 3 := ek_3.trans (by decide)
  refine va_sld hx hb hX hbl hbA h.2.2.2.1 (vp_in_nI (n := 3) (N := 6) (by decide) (by decide)) dL_law_811 ?_
  refine W.eq (g2 := F0 m 812 ls [.int (xs 3), .int (xs 2), .int (xs 1), .ref x]) rfl ?_
  refine m_cli (wr := (mW G o r)) h (m_rV (ci := 11) (q0 := 0) (As := [.int (xs 1), .int (xs 2), .int (xs 3)]) (rest := []) C0 h (c_X11_way l G x (ad 0) (ad 1) (xs 1) (xs 2) (xs 3)) k_X11_way q_1067 q_1068 q_1066 rfl rfl rfl [0, 26, 31] (by decide) rfl hl.1 rfl rfl (Nat.le_of_ble_eq_true rfl) dL_law_812 ⟨Nat.le_of_ble_eq_true rfl, Nat.le_of_ble_eq_true rfl⟩ ⟨Nat.le_of_ble_eq_true rfl, Nat.le_of_ble_eq_true rfl⟩) [0, 26, 31] [86, 87, 88, 89, 90, 91, 92, 93, 94] rfl rfl (by decide) (by decide) (fun r_6 u_4 H locs hp_5 h => ?_)
  have h : Wd G A s _ _ (mW G o r) := h
  refine lv_aload_n hx hb dL_law_815 rfl (lv_at hl 2 rfl) ?_
  refine lv_aload_n hx hb dL_law_816 rfl (lv_at hl 0 rfl) ?_
  refine lv_iload_n hx hb dL_law_817 rfl (lv_at hl 3 rfl) ?_
  refine lv_iconst (v := 1) hx hb dL_law_818 (by decide) ?_
  refine lv_iadd hx hb dL_law_819 ?_
  refine lv_topi (fun k_7 ek_7 => ?_)
  obtain rfl : k_7 = 1 := ek_7.trans (by decide)
  refine va_sld hx hb hX hbl hbA h.2.2.2.1 (vp_in_nI (n := 1) (N := 6) (by decide) (by decide)) dL_law_820 ?_
  refine W.eq (g2 := F0 m 821 ls [.int (xs 1), .ref o, .int r_6]) rfl ?_
  refine lv_aload_n hx hb dL_law_821 rfl (lv_at hl 0 rfl) ?_
  refine lv_iload_n hx hb dL_law_822 rfl (lv_at hl 3 rfl) ?_
  refine lv_iconst (v := 2) hx hb dL_law_823 (by decide) ?_
  refine lv_iadd hx hb dL_law_824 ?_
  refine lv_topi (fun k_8 ek_8 => ?_)
  obtain rfl : k_8 = 2 := ek_8.trans (by decide)
  refine va_sld hx hb hX hbl hbA h.2.2.2.1 (vp_in_nI (n := 2) (N := 6) (by decide) (by decide)) dL_law_825 ?_
  refine W.eq (g2 := F0 m 826 ls [.int (xs 2), .int (xs 1), .ref o, .int r_6]) rfl ?_
  refine lv_aload_n hx hb dL_law_826 rfl (lv_at hl 0 rfl) ?_
  refine lv_iload_n hx hb dL_law_827 rfl (lv_at hl 3 rfl) ?_
  refine lv_iconst (v := 3) hx hb dL_law_828 (by decide) ?_
  refine lv_iadd hx hb dL_law_829 ?_
  refine lv_topi (fun k_9 ek_9 => ?_)
  obtain rfl : k_9 = 3 := ek_9.trans (by decide)
  refine va_sld hx hb hX hbl hbA h.2.2.2.1 (vp_in_nI (n := 3) (N := 6) (by decide) (by decide)) dL_law_830 ?_
  refine W.eq (g2 := F0 m 831 ls [.int (xs 3), .int (xs 2), .int (xs 1), .ref o, .int r_6]) rfl ?_
  refine m_cli (wr := []) h (m_rV (ci := 12) (q0 := 0) (As := [.int (xs 1), .int (xs 2), .int (xs 3)]) (rest := [.int r_6]) C0 h (c_X12_way l G o r (xs 1) (xs 2) (xs 3)) k_X12_way q_1863 q_1864 q_1862 rfl rfl rfl [0, 1] (by decide) rfl hl.1 rfl rfl (Nat.le_of_ble_eq_true rfl) dL_law_831 ⟨Nat.le_of_ble_eq_true rfl, Nat.le_of_ble_eq_true rfl⟩ ⟨Nat.le_of_ble_eq_true rfl, Nat.le_of_ble_eq_true rfl⟩) [0, 1] [] rfl rfl (by decide) (by decide) (fun r_12 u_10 H locs hp_11 h => ?_)
  have h : Wd G A s _ _ [] := h
  refine lv_icmp_eq (tgt := 1727) hx hb dL_law_834 (by decide) (fun _ => ?_) (fun c_13 => absurd (hp_5.trans hp_11.symm) c_13)
  refine W.widen (k := 600000) (n := 7302250) (Nat.le_of_ble_eq_true rfl) (Nat.le_of_ble_eq_true rfl) ?_
  exact law_tail C0 hX hbl hbA hAs G h (lv_sub hl [0, 1, 2, 3] rfl)
set_option maxHeartbeats 4000000 in
set_option maxRecDepth 100000 in
theorem law_case_19 {p : Program} {l : Launch} {e : Env} {s : State} {m : MethodId} {below : List Frame} {meth : Method} {c : Code} {b : Nat} {xs : Nat → Int32} {A : Nat → Prop} (C0 : Cx p s m #[Value.ref b] meth c RL cL_law 4 (some .boolean)) (hX : va_X b 6 xs s s.heap) (hbl : b < s.heap.size) (hbA : ¬ A b) (hAs : ∀ q : Nat, A q → s.heap.size ≤ q) (G : GG) (x o : Nat) (ad : Nat → Nat → Nat) (pf : Nat → Option Nat) (hpf : pf 0 = some (ad 7 7)) (r : Nat → Nat) {H : Heap} {locs : List Loc} {ls : Array Slot} (h : Wd G A s H locs (xW G x ad pf ++ mW G o r)) (hl : lv_has ls 4 [(0, .ref b), (1, .ref x), (2, .ref o), (3, .int 0)]) : W p l e room_1 s m #[Value.ref b] below meth c H locs 1000 200000 (lw_Z below #[Value.ref b] s) (F0 m 839 ls []) := by
  obtain ⟨hx, hb, hml, hown, hts, -⟩ := id C0
  refine lv_aload_n hx hb dL_law_839 rfl (lv_at hl 1 rfl) ?_
  refine lv_aload_n hx hb dL_law_840 rfl (lv_at hl 0 rfl) ?_
  refine lv_iload_n hx hb dL_law_841 rfl (lv_at hl 3 rfl) ?_
  refine lv_iconst (v := 1) hx hb dL_law_842 (by decide) ?_
  refine lv_iadd hx hb dL_law_843 ?_
  refine lv_topi (fun k_1 ek_1 => ?_)
  obtain rfl : k_1 = 1 := ek_1.trans (by decide)
  refine va_sld hx hb hX hbl hbA h.2.2.2.1 (vp_in_nI (n := 1) (N := 6) (by decide) (by decide)) dL_law_844 ?_
  refine W.eq (g2 := F0 m 845 ls [.int (xs 1), .ref x]) rfl ?_
  refine lv_aload_n hx hb dL_law_845 rfl (lv_at hl 0 rfl) ?_
  refine lv_iload_n hx hb dL_law_846 rfl (lv_at hl 3 rfl) ?_
  refine lv_iconst (v := 2) hx hb dL_law_847 (by decide) ?_
  refine lv_iadd hx hb dL_law_848 ?_
  refine lv_topi (fun k_2 ek_2 => ?_)
  obtain rfl : k_2 = 2 := ek_2.trans (by decide)
  refine va_sld hx hb hX hbl hbA h.2.2.2.1 (vp_in_nI (n := 2) (N := 6) (by decide) (by decide)) dL_law_849 ?_
  refine W.eq (g2 := F0 m 850 ls [.int (xs 2), .int (xs 1), .ref x]) rfl ?_
  refine lv_aload_n hx hb dL_law_850 rfl (lv_at hl 0 rfl) ?_
  refine lv_iload_n hx hb dL_law_851 rfl (lv_at hl 3 rfl) ?_
  refine lv_iconst (v := 3) hx hb dL_law_852 (by decide) ?_
  refine lv_iadd hx hb dL_law_853 ?_
  refine lv_topi (fun k_3 ek_3 => ?_)
  obtain rfl : k_3 = 3 := ek_3.trans (by decide)
  refine va_sld hx hb hX hbl hbA h.2.2.2.1 (vp_in_nI (n := 3) (N := 6) (by decide) (by decide)) dL_law_854 ?_
  refine W.eq (g2 := F0 m 855 ls [.int (xs 3), .int (xs 2), .int (xs 1), .ref x]) rfl ?_
  refine lv_aload_n hx hb dL_law_855 rfl (lv_at hl 0 rfl) ?_
  refine lv_iload_n hx hb dL_law_856 rfl (lv_at hl 3 rfl) ?_
  refine lv_iconst (v := 4) hx hb dL_law_857 (by decide) ?_
  refine lv_iadd hx hb dL_law_858 ?_
  refine lv_topi (fun k_4 ek_4 => ?_)
  obtain rfl : k_4 = 4 := ek_4.trans (by decide)
  refine va_sld hx hb hX hbl hbA h.2.2.2.1 (vp_in_nI (n := 4) (N := 6) (by decide) (by decide)) dL_law_859 ?_
  refine W.eq (g2 := F0 m 860 ls [.int (xs 4), .int (xs 3), .int (xs 2), .int (xs 1), .ref x]) rfl ?_
  refine m_cli (wr := (mW G o r)) h (m_rV (ci := 11) (q0 := 0) (As := [.int (xs 1), .int (xs 2), .int (xs 3), .int (xs 4)]) (rest := []) C0 h (c_X11_turn l G x (ad 0) (ad 1) (xs 1) (xs 2) (xs 3) (xs 4)) k_X11_turn q_1145 q_1146 q_1144 rfl rfl rfl [0, 26, 31] (by decide) rfl hl.1 rfl rfl (Nat.le_of_ble_eq_true rfl) dL_law_860 ⟨Nat.le_of_ble_eq_true rfl, Nat.le_of_ble_eq_true rfl⟩ ⟨Nat.le_of_ble_eq_true rfl, Nat.le_of_ble_eq_true rfl⟩) [0, 26, 31] [86, 87, 88, 89, 90, 91, 92, 93, 94] rfl rfl (by decide) (by decide) (fun r_7 u_5 H locs hp_6 h => ?_)
  have h : Wd G A s _ _ (mW G o r) := h
  refine lv_aload_n hx hb dL_law_863 rfl (lv_at hl 2 rfl) ?_
  refine lv_aload_n hx hb dL_law_864 rfl (lv_at hl 0 rfl) ?_
  refine lv_iload_n hx hb dL_law_865 rfl (lv_at hl 3 rfl) ?_
  refine lv_iconst (v := 1) hx hb dL_law_866 (by decide) ?_
  refine lv_iadd hx hb dL_law_867 ?_
  refine lv_topi (fun k_8 ek_8 => ?_)
  obtain rfl : k_8 = 1 := ek_8.trans (by decide)
  refine va_sld hx hb hX hbl hbA h.2.2.2.1 (vp_in_nI (n := 1) (N := 6) (by decide) (by decide)) dL_law_868 ?_
  refine W.eq (g2 := F0 m 869 ls [.int (xs 1), .ref o, .int r_7]) rfl ?_
  refine lv_aload_n hx hb dL_law_869 rfl (lv_at hl 0 rfl) ?_
  refine lv_iload_n hx hb dL_law_870 rfl (lv_at hl 3 rfl) ?_
  refine lv_iconst (v := 2) hx hb dL_law_871 (by decide) ?_
  refine lv_iadd hx hb dL_law_872 ?_
  refine lv_topi (fun k_9 ek_9 => ?_)
  obtain rfl : k_9 = 2 := ek_9.trans (by decide)
  refine va_sld hx hb hX hbl hbA h.2.2.2.1 (vp_in_nI (n := 2) (N := 6) (by decide) (by decide)) dL_law_873 ?_
  refine W.eq (g2 := F0 m 874 ls [.int (xs 2), .int (xs 1), .ref o, .int r_7]) rfl ?_
  refine lv_aload_n hx hb dL_law_874 rfl (lv_at hl 0 rfl) ?_
  refine lv_iload_n hx hb dL_law_875 rfl (lv_at hl 3 rfl) ?_
  refine lv_iconst (v := 3) hx hb dL_law_876 (by decide) ?_
  refine lv_iadd hx hb dL_law_877 ?_
  refine lv_topi (fun k_10 ek_10 => ?_)
  obtain rfl : k_10 = 3 := ek_10.trans (by decide)
  refine va_sld hx hb hX hbl hbA h.2.2.2.1 (vp_in_nI (n := 3) (N := 6) (by decide) (by decide)) dL_law_878 ?_
  refine W.eq (g2 := F0 m 879 ls [.int (xs 3), .int (xs 2), .int (xs 1), .ref o, .int r_7]) rfl ?_
  refine lv_aload_n hx hb dL_law_879 rfl (lv_at hl 0 rfl) ?_
  refine lv_iload_n hx hb dL_law_880 rfl (lv_at hl 3 rfl) ?_
  refine lv_iconst (v := 4) hx hb dL_law_881 (by decide) ?_
  refine lv_iadd hx hb dL_law_882 ?_
  refine lv_topi (fun k_11 ek_11 => ?_)
  obtain rfl : k_11 = 4 := ek_11.trans (by decide)
  refine va_sld hx hb hX hbl hbA h.2.2.2.1 (vp_in_nI (n := 4) (N := 6) (by decide) (by decide)) dL_law_883 ?_
  refine W.eq (g2 := F0 m 884 ls [.int (xs 4), .int (xs 3), .int (xs 2), .int (xs 1), .ref o, .int r_7]) rfl ?_
  refine m_cli (wr := []) h (m_rV (ci := 12) (q0 := 0) (As := [.int (xs 1), .int (xs 2), .int (xs 3), .int (xs 4)]) (rest := [.int r_7]) C0 h (c_X12_turn l G o r (xs 1) (xs 2) (xs 3) (xs 4)) k_X12_turn q_1901 q_1902 q_1900 rfl rfl rfl [0, 1] (by decide) rfl hl.1 rfl rfl (Nat.le_of_ble_eq_true rfl) dL_law_884 ⟨Nat.le_of_ble_eq_true rfl, Nat.le_of_ble_eq_true rfl⟩ ⟨Nat.le_of_ble_eq_true rfl, Nat.le_of_ble_eq_true rfl⟩) [0, 1] [] rfl rfl (by decide) (by decide) (fun r_14 u_12 H locs hp_13 h => ?_)
  have h : Wd G A s _ _ [] := h
  refine lv_icmp_eq (tgt := 1727) hx hb dL_law_887 (by decide) (fun _ => ?_) (fun c_15 => absurd (hp_6.trans hp_13.symm) c_15)
  refine W.widen (k := 600000) (n := 7302250) (Nat.le_of_ble_eq_true rfl) (Nat.le_of_ble_eq_true rfl) ?_
  exact law_tail C0 hX hbl hbA hAs G h (lv_sub hl [0, 1, 2, 3] rfl)
set_option maxHeartbeats 4000000 in
set_option maxRecDepth 100000 in
theorem law_case_20 {p : Program} {l : Launch} {e : Env} {s : State} {m : MethodId} {below : List Frame} {meth : Method} {c : Code} {b : Nat} {xs : Nat → Int32} {A : Nat → Prop} (C0 : Cx p s m #[Value.ref b] meth c RL cL_law 4 (some .boolean)) (hX : va_X b 6 xs s s.heap) (hbl : b < s.heap.size) (hbA : ¬ A b) (hAs : ∀ q : Nat, A q → s.heap.size ≤ q) (G : GG) (x o : Nat) (ad : Nat → Nat → Nat) (pf : Nat → Option Nat) (hpf : pf 0 = some (ad 7 7)) (r : Nat → Nat) {H : Heap} {locs : List Loc} {ls : Array Slot} (h : Wd G A s H locs (xW G x ad pf ++ mW G o r)) (hl : lv_has ls 4 [(0, .ref b), (1, .ref x), (2, .ref o), (3, .int 0)]) : W p l e room_1 s m #[Value.ref b] below meth c H locs 1000 200000 (lw_Z below #[Value.ref b] s) (F0 m 892 ls []) := by
  obtain ⟨hx, hb, hml, hown, hts, -⟩ := id C0
  refine lv_aload_n hx hb dL_law_892 rfl (lv_at hl 1 rfl) ?_
  refine lv_aload_n hx hb dL_law_893 rfl (lv_at hl 0 rfl) ?_
  refine lv_iload_n hx hb dL_law_894 rfl (lv_at hl 3 rfl) ?_
  refine lv_iconst (v := 1) hx hb dL_law_895 (by decide) ?_
  refine lv_iadd hx hb dL_law_896 ?_
  refine lv_topi (fun k_1 ek_1 => ?_)
  obtain rfl : k_1 = 1 := ek_1.trans (by decide)
  refine va_sld hx hb hX hbl hbA h.2.2.2.1 (vp_in_nI (n := 1) (N := 6) (by decide) (by decide)) dL_law_897 ?_
  refine W.eq (g2 := F0 m 898 ls [.int (xs 1), .ref x]) rfl ?_
  refine lv_aload_n hx hb dL_law_898 rfl (lv_at hl 0 rfl) ?_
  refine lv_iload_n hx hb dL_law_899 rfl (lv_at hl 3 rfl) ?_
  refine lv_iconst (v := 2) hx hb dL_law_900 (by decide) ?_
  refine lv_iadd hx hb dL_law_901 ?_
  refine lv_topi (fun k_2 ek_2 => ?_)
  obtain rfl : k_2 = 2 := ek_2.trans (by decide)
  refine va_sld hx hb hX hbl hbA h.2.2.2.1 (vp_in_nI (n := 2) (N := 6) (by decide) (by decide)) dL_law_902 ?_
  refine W.eq (g2 := F0 m 903 ls [.int (xs 2), .int (xs 1), .ref x]) rfl ?_
  refine lv_aload_n hx hb dL_law_903 rfl (lv_at hl 0 rfl) ?_
  refine lv_iload_n hx hb dL_law_904 rfl (lv_at hl 3 rfl) ?_
  refine lv_iconst (v := 3) hx hb dL_law_905 (by decide) ?_
  refine lv_iadd hx hb dL_law_906 ?_
  refine lv_topi (fun k_3 ek_3 => ?_)
  obtain rfl : k_3 = 3 := ek_3.trans (by decide)
  refine va_sld hx hb hX hbl hbA h.2.2.2.1 (vp_in_nI (n := 3) (N := 6) (by decide) (by decide)) dL_law_907 ?_
  refine W.eq (g2 := F0 m 908 ls [.int (xs 3), .int (xs 2), .int (xs 1), .ref x]) rfl ?_
  refine m_cli (wr := (mW G o r)) h (m_rV (ci := 11) (q0 := 0) (As := [.int (xs 1), .int (xs 2), .int (xs 3)]) (rest := []) C0 h (c_X11_fewest l G x (ad 0) (ad 1) (xs 1) (xs 2) (xs 3)) k_X11_fewest q_1199 q_1200 q_1198 rfl rfl rfl [0, 26, 31] (by decide) rfl hl.1 rfl rfl (Nat.le_of_ble_eq_true rfl) dL_law_908 ⟨Nat.le_of_ble_eq_true rfl, Nat.le_of_ble_eq_true rfl⟩ ⟨Nat.le_of_ble_eq_true rfl, Nat.le_of_ble_eq_true rfl⟩) [0, 26, 31] [86, 87, 88, 89, 90, 91, 92, 93, 94] rfl rfl (by decide) (by decide) (fun r_6 u_4 H locs hp_5 h => ?_)
  have h : Wd G A s _ _ (mW G o r) := h
  refine lv_aload_n hx hb dL_law_911 rfl (lv_at hl 2 rfl) ?_
  refine lv_aload_n hx hb dL_law_912 rfl (lv_at hl 0 rfl) ?_
  refine lv_iload_n hx hb dL_law_913 rfl (lv_at hl 3 rfl) ?_
  refine lv_iconst (v := 1) hx hb dL_law_914 (by decide) ?_
  refine lv_iadd hx hb dL_law_915 ?_
  refine lv_topi (fun k_7 ek_7 => ?_)
  obtain rfl : k_7 = 1 := ek_7.trans (by decide)
  refine va_sld hx hb hX hbl hbA h.2.2.2.1 (vp_in_nI (n := 1) (N := 6) (by decide) (by decide)) dL_law_916 ?_
  refine W.eq (g2 := F0 m 917 ls [.int (xs 1), .ref o, .int r_6]) rfl ?_
  refine lv_aload_n hx hb dL_law_917 rfl (lv_at hl 0 rfl) ?_
  refine lv_iload_n hx hb dL_law_918 rfl (lv_at hl 3 rfl) ?_
  refine lv_iconst (v := 2) hx hb dL_law_919 (by decide) ?_
  refine lv_iadd hx hb dL_law_920 ?_
  refine lv_topi (fun k_8 ek_8 => ?_)
  obtain rfl : k_8 = 2 := ek_8.trans (by decide)
  refine va_sld hx hb hX hbl hbA h.2.2.2.1 (vp_in_nI (n := 2) (N := 6) (by decide) (by decide)) dL_law_921 ?_
  refine W.eq (g2 := F0 m 922 ls [.int (xs 2), .int (xs 1), .ref o, .int r_6]) rfl ?_
  refine lv_aload_n hx hb dL_law_922 rfl (lv_at hl 0 rfl) ?_
  refine lv_iload_n hx hb dL_law_923 rfl (lv_at hl 3 rfl) ?_
  refine lv_iconst (v := 3) hx hb dL_law_924 (by decide) ?_
  refine lv_iadd hx hb dL_law_925 ?_
  refine lv_topi (fun k_9 ek_9 => ?_)
  obtain rfl : k_9 = 3 := ek_9.trans (by decide)
  refine va_sld hx hb hX hbl hbA h.2.2.2.1 (vp_in_nI (n := 3) (N := 6) (by decide) (by decide)) dL_law_926 ?_
  refine W.eq (g2 := F0 m 927 ls [.int (xs 3), .int (xs 2), .int (xs 1), .ref o, .int r_6]) rfl ?_
  refine m_cli (wr := []) h (m_rV (ci := 12) (q0 := 0) (As := [.int (xs 1), .int (xs 2), .int (xs 3)]) (rest := [.int r_6]) C0 h (c_X12_fewest l G o r (xs 1) (xs 2) (xs 3)) k_X12_fewest q_1921 q_1922 q_1920 rfl rfl rfl [0, 1] (by decide) rfl hl.1 rfl rfl (Nat.le_of_ble_eq_true rfl) dL_law_927 ⟨Nat.le_of_ble_eq_true rfl, Nat.le_of_ble_eq_true rfl⟩ ⟨Nat.le_of_ble_eq_true rfl, Nat.le_of_ble_eq_true rfl⟩) [0, 1] [] rfl rfl (by decide) (by decide) (fun r_12 u_10 H locs hp_11 h => ?_)
  have h : Wd G A s _ _ [] := h
  refine lv_icmp_eq (tgt := 1727) hx hb dL_law_930 (by decide) (fun _ => ?_) (fun c_13 => absurd (hp_5.trans hp_11.symm) c_13)
  refine W.widen (k := 600000) (n := 7302250) (Nat.le_of_ble_eq_true rfl) (Nat.le_of_ble_eq_true rfl) ?_
  exact law_tail C0 hX hbl hbA hAs G h (lv_sub hl [0, 1, 2, 3] rfl)
set_option maxHeartbeats 4000000 in
set_option maxRecDepth 100000 in
theorem law_case_21 {p : Program} {l : Launch} {e : Env} {s : State} {m : MethodId} {below : List Frame} {meth : Method} {c : Code} {b : Nat} {xs : Nat → Int32} {A : Nat → Prop} (C0 : Cx p s m #[Value.ref b] meth c RL cL_law 4 (some .boolean)) (hX : va_X b 6 xs s s.heap) (hbl : b < s.heap.size) (hbA : ¬ A b) (hAs : ∀ q : Nat, A q → s.heap.size ≤ q) (G : GG) (x o : Nat) (ad : Nat → Nat → Nat) (pf : Nat → Option Nat) (hpf : pf 0 = some (ad 7 7)) (r : Nat → Nat) {H : Heap} {locs : List Loc} {ls : Array Slot} (h : Wd G A s H locs (xW G x ad pf ++ mW G o r)) (hl : lv_has ls 4 [(0, .ref b), (1, .ref x), (2, .ref o), (3, .int 0)]) : W p l e room_1 s m #[Value.ref b] below meth c H locs 1000 200000 (lw_Z below #[Value.ref b] s) (F0 m 935 ls []) := by
  obtain ⟨hx, hb, hml, hown, hts, -⟩ := id C0
  refine lv_aload_n hx hb dL_law_935 rfl (lv_at hl 1 rfl) ?_
  refine lv_aload_n hx hb dL_law_936 rfl (lv_at hl 0 rfl) ?_
  refine lv_iload_n hx hb dL_law_937 rfl (lv_at hl 3 rfl) ?_
  refine lv_iconst (v := 1) hx hb dL_law_938 (by decide) ?_
  refine lv_iadd hx hb dL_law_939 ?_
  refine lv_topi (fun k_1 ek_1 => ?_)
  obtain rfl : k_1 = 1 := ek_1.trans (by decide)
  refine va_sld hx hb hX hbl hbA h.2.2.2.1 (vp_in_nI (n := 1) (N := 6) (by decide) (by decide)) dL_law_940 ?_
  refine W.eq (g2 := F0 m 941 ls [.int (xs 1), .ref x]) rfl ?_
  refine lv_aload_n hx hb dL_law_941 rfl (lv_at hl 0 rfl) ?_
  refine lv_iload_n hx hb dL_law_942 rfl (lv_at hl 3 rfl) ?_
  refine lv_iconst (v := 2) hx hb dL_law_943 (by decide) ?_
  refine lv_iadd hx hb dL_law_944 ?_
  refine lv_topi (fun k_2 ek_2 => ?_)
  obtain rfl : k_2 = 2 := ek_2.trans (by decide)
  refine va_sld hx hb hX hbl hbA h.2.2.2.1 (vp_in_nI (n := 2) (N := 6) (by decide) (by decide)) dL_law_945 ?_
  refine W.eq (g2 := F0 m 946 ls [.int (xs 2), .int (xs 1), .ref x]) rfl ?_
  refine lv_aload_n hx hb dL_law_946 rfl (lv_at hl 0 rfl) ?_
  refine lv_iload_n hx hb dL_law_947 rfl (lv_at hl 3 rfl) ?_
  refine lv_iconst (v := 3) hx hb dL_law_948 (by decide) ?_
  refine lv_iadd hx hb dL_law_949 ?_
  refine lv_topi (fun k_3 ek_3 => ?_)
  obtain rfl : k_3 = 3 := ek_3.trans (by decide)
  refine va_sld hx hb hX hbl hbA h.2.2.2.1 (vp_in_nI (n := 3) (N := 6) (by decide) (by decide)) dL_law_950 ?_
  refine W.eq (g2 := F0 m 951 ls [.int (xs 3), .int (xs 2), .int (xs 1), .ref x]) rfl ?_
  refine m_cli (wr := (mW G o r)) h (m_rV (ci := 11) (q0 := 0) (As := [.int (xs 1), .int (xs 2), .int (xs 3)]) (rest := []) C0 h (c_X11_cheapest l G x (ad 0) (ad 1) (xs 1) (xs 2) (xs 3)) k_X11_cheapest q_1207 q_1208 q_1206 rfl rfl rfl [0, 26, 31] (by decide) rfl hl.1 rfl rfl (Nat.le_of_ble_eq_true rfl) dL_law_951 ⟨Nat.le_of_ble_eq_true rfl, Nat.le_of_ble_eq_true rfl⟩ ⟨Nat.le_of_ble_eq_true rfl, Nat.le_of_ble_eq_true rfl⟩) [0, 26, 31] [86, 87, 88, 89, 90, 91, 92, 93, 94] rfl rfl (by decide) (by decide) (fun r_6 u_4 H locs hp_5 h => ?_)
  have h : Wd G A s _ _ (mW G o r) := h
  refine lv_aload_n hx hb dL_law_954 rfl (lv_at hl 2 rfl) ?_
  refine lv_aload_n hx hb dL_law_955 rfl (lv_at hl 0 rfl) ?_
  refine lv_iload_n hx hb dL_law_956 rfl (lv_at hl 3 rfl) ?_
  refine lv_iconst (v := 1) hx hb dL_law_957 (by decide) ?_
  refine lv_iadd hx hb dL_law_958 ?_
  refine lv_topi (fun k_7 ek_7 => ?_)
  obtain rfl : k_7 = 1 := ek_7.trans (by decide)
  refine va_sld hx hb hX hbl hbA h.2.2.2.1 (vp_in_nI (n := 1) (N := 6) (by decide) (by decide)) dL_law_959 ?_
  refine W.eq (g2 := F0 m 960 ls [.int (xs 1), .ref o, .int r_6]) rfl ?_
  refine lv_aload_n hx hb dL_law_960 rfl (lv_at hl 0 rfl) ?_
  refine lv_iload_n hx hb dL_law_961 rfl (lv_at hl 3 rfl) ?_
  refine lv_iconst (v := 2) hx hb dL_law_962 (by decide) ?_
  refine lv_iadd hx hb dL_law_963 ?_
  refine lv_topi (fun k_8 ek_8 => ?_)
  obtain rfl : k_8 = 2 := ek_8.trans (by decide)
  refine va_sld hx hb hX hbl hbA h.2.2.2.1 (vp_in_nI (n := 2) (N := 6) (by decide) (by decide)) dL_law_964 ?_
  refine W.eq (g2 := F0 m 965 ls [.int (xs 2), .int (xs 1), .ref o, .int r_6]) rfl ?_
  refine lv_aload_n hx hb dL_law_965 rfl (lv_at hl 0 rfl) ?_
  refine lv_iload_n hx hb dL_law_966 rfl (lv_at hl 3 rfl) ?_
  refine lv_iconst (v := 3) hx hb dL_law_967 (by decide) ?_
  refine lv_iadd hx hb dL_law_968 ?_
  refine lv_topi (fun k_9 ek_9 => ?_)
  obtain rfl : k_9 = 3 := ek_9.trans (by decide)
  refine va_sld hx hb hX hbl hbA h.2.2.2.1 (vp_in_nI (n := 3) (N := 6) (by decide) (by decide)) dL_law_969 ?_
  refine W.eq (g2 := F0 m 970 ls [.int (xs 3), .int (xs 2), .int (xs 1), .ref o, .int r_6]) rfl ?_
  refine m_cli (wr := []) h (m_rV (ci := 12) (q0 := 0) (As := [.int (xs 1), .int (xs 2), .int (xs 3)]) (rest := [.int r_6]) C0 h (c_X12_cheapest l G o r (xs 1) (xs 2) (xs 3)) k_X12_cheapest q_1932 q_1933 q_1931 rfl rfl rfl [0, 1] (by decide) rfl hl.1 rfl rfl (Nat.le_of_ble_eq_true rfl) dL_law_970 ⟨Nat.le_of_ble_eq_true rfl, Nat.le_of_ble_eq_true rfl⟩ ⟨Nat.le_of_ble_eq_true rfl, Nat.le_of_ble_eq_true rfl⟩) [0, 1] [] rfl rfl (by decide) (by decide) (fun r_12 u_10 H locs hp_11 h => ?_)
  have h : Wd G A s _ _ [] := h
  refine lv_icmp_eq (tgt := 1727) hx hb dL_law_973 (by decide) (fun _ => ?_) (fun c_13 => absurd (hp_5.trans hp_11.symm) c_13)
  refine W.widen (k := 600000) (n := 7302250) (Nat.le_of_ble_eq_true rfl) (Nat.le_of_ble_eq_true rfl) ?_
  exact law_tail C0 hX hbl hbA hAs G h (lv_sub hl [0, 1, 2, 3] rfl)
set_option maxHeartbeats 4000000 in
set_option maxRecDepth 100000 in
theorem law_case_22 {p : Program} {l : Launch} {e : Env} {s : State} {m : MethodId} {below : List Frame} {meth : Method} {c : Code} {b : Nat} {xs : Nat → Int32} {A : Nat → Prop} (C0 : Cx p s m #[Value.ref b] meth c RL cL_law 4 (some .boolean)) (hX : va_X b 6 xs s s.heap) (hbl : b < s.heap.size) (hbA : ¬ A b) (hAs : ∀ q : Nat, A q → s.heap.size ≤ q) (G : GG) (x o : Nat) (ad : Nat → Nat → Nat) (pf : Nat → Option Nat) (hpf : pf 0 = some (ad 7 7)) (r : Nat → Nat) {H : Heap} {locs : List Loc} {ls : Array Slot} (h : Wd G A s H locs (xW G x ad pf ++ mW G o r)) (hl : lv_has ls 4 [(0, .ref b), (1, .ref x), (2, .ref o), (3, .int 0)]) : W p l e room_1 s m #[Value.ref b] below meth c H locs 1000 200000 (lw_Z below #[Value.ref b] s) (F0 m 978 ls []) := by
  obtain ⟨hx, hb, hml, hown, hts, -⟩ := id C0
  refine lv_aload_n hx hb dL_law_978 rfl (lv_at hl 1 rfl) ?_
  refine lv_aload_n hx hb dL_law_979 rfl (lv_at hl 0 rfl) ?_
  refine lv_iload_n hx hb dL_law_980 rfl (lv_at hl 3 rfl) ?_
  refine lv_iconst (v := 1) hx hb dL_law_981 (by decide) ?_
  refine lv_iadd hx hb dL_law_982 ?_
  refine lv_topi (fun k_1 ek_1 => ?_)
  obtain rfl : k_1 = 1 := ek_1.trans (by decide)
  refine va_sld hx hb hX hbl hbA h.2.2.2.1 (vp_in_nI (n := 1) (N := 6) (by decide) (by decide)) dL_law_983 ?_
  refine W.eq (g2 := F0 m 984 ls [.int (xs 1), .ref x]) rfl ?_
  refine lv_aload_n hx hb dL_law_984 rfl (lv_at hl 0 rfl) ?_
  refine lv_iload_n hx hb dL_law_985 rfl (lv_at hl 3 rfl) ?_
  refine lv_iconst (v := 2) hx hb dL_law_986 (by decide) ?_
  refine lv_iadd hx hb dL_law_987 ?_
  refine lv_topi (fun k_2 ek_2 => ?_)
  obtain rfl : k_2 = 2 := ek_2.trans (by decide)
  refine va_sld hx hb hX hbl hbA h.2.2.2.1 (vp_in_nI (n := 2) (N := 6) (by decide) (by decide)) dL_law_988 ?_
  refine W.eq (g2 := F0 m 989 ls [.int (xs 2), .int (xs 1), .ref x]) rfl ?_
  refine lv_aload_n hx hb dL_law_989 rfl (lv_at hl 0 rfl) ?_
  refine lv_iload_n hx hb dL_law_990 rfl (lv_at hl 3 rfl) ?_
  refine lv_iconst (v := 3) hx hb dL_law_991 (by decide) ?_
  refine lv_iadd hx hb dL_law_992 ?_
  refine lv_topi (fun k_3 ek_3 => ?_)
  obtain rfl : k_3 = 3 := ek_3.trans (by decide)
  refine va_sld hx hb hX hbl hbA h.2.2.2.1 (vp_in_nI (n := 3) (N := 6) (by decide) (by decide)) dL_law_993 ?_
  refine W.eq (g2 := F0 m 994 ls [.int (xs 3), .int (xs 2), .int (xs 1), .ref x]) rfl ?_
  refine lv_aload_n hx hb dL_law_994 rfl (lv_at hl 0 rfl) ?_
  refine lv_iload_n hx hb dL_law_995 rfl (lv_at hl 3 rfl) ?_
  refine lv_iconst (v := 4) hx hb dL_law_996 (by decide) ?_
  refine lv_iadd hx hb dL_law_997 ?_
  refine lv_topi (fun k_4 ek_4 => ?_)
  obtain rfl : k_4 = 4 := ek_4.trans (by decide)
  refine va_sld hx hb hX hbl hbA h.2.2.2.1 (vp_in_nI (n := 4) (N := 6) (by decide) (by decide)) dL_law_998 ?_
  refine W.eq (g2 := F0 m 999 ls [.int (xs 4), .int (xs 3), .int (xs 2), .int (xs 1), .ref x]) rfl ?_
  refine m_cll (wr := (mW G o r)) h (m_rV (ci := 11) (q0 := 0) (As := [.int (xs 1), .int (xs 2), .int (xs 3), .int (xs 4)]) (rest := []) C0 h (c_X11_ways l G x (ad 0) (ad 1) (xs 1) (xs 2) (xs 3) (xs 4)) k_X11_ways q_1226 q_1227 q_1225 rfl rfl rfl [0, 26, 31] (by decide) rfl hl.1 rfl rfl (Nat.le_of_ble_eq_true rfl) dL_law_999 ⟨Nat.le_of_ble_eq_true rfl, Nat.le_of_ble_eq_true rfl⟩ ⟨Nat.le_of_ble_eq_true rfl, Nat.le_of_ble_eq_true rfl⟩) [0, 26, 31] [86, 87, 88, 89, 90, 91, 92, 93, 94] rfl rfl (by decide) (by decide) (fun r_7 u_5 H locs hp_6 h => ?_)
  have h : Wd G A s _ _ (mW G o r) := h
  refine lv_aload_n hx hb dL_law_1002 rfl (lv_at hl 2 rfl) ?_
  refine lv_aload_n hx hb dL_law_1003 rfl (lv_at hl 0 rfl) ?_
  refine lv_iload_n hx hb dL_law_1004 rfl (lv_at hl 3 rfl) ?_
  refine lv_iconst (v := 1) hx hb dL_law_1005 (by decide) ?_
  refine lv_iadd hx hb dL_law_1006 ?_
  refine lv_topi (fun k_8 ek_8 => ?_)
  obtain rfl : k_8 = 1 := ek_8.trans (by decide)
  refine va_sld hx hb hX hbl hbA h.2.2.2.1 (vp_in_nI (n := 1) (N := 6) (by decide) (by decide)) dL_law_1007 ?_
  refine W.eq (g2 := F0 m 1008 ls [.int (xs 1), .ref o, .long r_7]) rfl ?_
  refine lv_aload_n hx hb dL_law_1008 rfl (lv_at hl 0 rfl) ?_
  refine lv_iload_n hx hb dL_law_1009 rfl (lv_at hl 3 rfl) ?_
  refine lv_iconst (v := 2) hx hb dL_law_1010 (by decide) ?_
  refine lv_iadd hx hb dL_law_1011 ?_
  refine lv_topi (fun k_9 ek_9 => ?_)
  obtain rfl : k_9 = 2 := ek_9.trans (by decide)
  refine va_sld hx hb hX hbl hbA h.2.2.2.1 (vp_in_nI (n := 2) (N := 6) (by decide) (by decide)) dL_law_1012 ?_
  refine W.eq (g2 := F0 m 1013 ls [.int (xs 2), .int (xs 1), .ref o, .long r_7]) rfl ?_
  refine lv_aload_n hx hb dL_law_1013 rfl (lv_at hl 0 rfl) ?_
  refine lv_iload_n hx hb dL_law_1014 rfl (lv_at hl 3 rfl) ?_
  refine lv_iconst (v := 3) hx hb dL_law_1015 (by decide) ?_
  refine lv_iadd hx hb dL_law_1016 ?_
  refine lv_topi (fun k_10 ek_10 => ?_)
  obtain rfl : k_10 = 3 := ek_10.trans (by decide)
  refine va_sld hx hb hX hbl hbA h.2.2.2.1 (vp_in_nI (n := 3) (N := 6) (by decide) (by decide)) dL_law_1017 ?_
  refine W.eq (g2 := F0 m 1018 ls [.int (xs 3), .int (xs 2), .int (xs 1), .ref o, .long r_7]) rfl ?_
  refine lv_aload_n hx hb dL_law_1018 rfl (lv_at hl 0 rfl) ?_
  refine lv_iload_n hx hb dL_law_1019 rfl (lv_at hl 3 rfl) ?_
  refine lv_iconst (v := 4) hx hb dL_law_1020 (by decide) ?_
  refine lv_iadd hx hb dL_law_1021 ?_
  refine lv_topi (fun k_11 ek_11 => ?_)
  obtain rfl : k_11 = 4 := ek_11.trans (by decide)
  refine va_sld hx hb hX hbl hbA h.2.2.2.1 (vp_in_nI (n := 4) (N := 6) (by decide) (by decide)) dL_law_1022 ?_
  refine W.eq (g2 := F0 m 1023 ls [.int (xs 4), .int (xs 3), .int (xs 2), .int (xs 1), .ref o, .long r_7]) rfl ?_
  refine m_cll (wr := []) h (m_rV (ci := 12) (q0 := 0) (As := [.int (xs 1), .int (xs 2), .int (xs 3), .int (xs 4)]) (rest := [.long r_7]) C0 h (c_X12_ways l G o r (xs 1) (xs 2) (xs 3) (xs 4)) k_X12_ways q_1936 q_1937 q_1935 rfl rfl rfl [0, 1] (by decide) rfl hl.1 rfl rfl (Nat.le_of_ble_eq_true rfl) dL_law_1023 ⟨Nat.le_of_ble_eq_true rfl, Nat.le_of_ble_eq_true rfl⟩ ⟨Nat.le_of_ble_eq_true rfl, Nat.le_of_ble_eq_true rfl⟩) [0, 1] [] rfl rfl (by decide) (by decide) (fun r_14 u_12 H locs hp_13 h => ?_)
  have h : Wd G A s _ _ [] := h
  refine W.lcmp hx hb dL_law_1026 ?_
  refine lv_if_eq (tgt := 1727) hx hb dL_law_1027 (by decide) (fun _ => ?_) (fun c_15 => absurd ((lg_cmp_eq _ _).mpr (hp_6.trans hp_13.symm)) c_15)
  refine W.widen (k := 600000) (n := 7302250) (Nat.le_of_ble_eq_true rfl) (Nat.le_of_ble_eq_true rfl) ?_
  exact law_tail C0 hX hbl hbA hAs G h (lv_sub hl [0, 1, 2, 3] rfl)
set_option maxHeartbeats 4000000 in
set_option maxRecDepth 100000 in
theorem law_case_23 {p : Program} {l : Launch} {e : Env} {s : State} {m : MethodId} {below : List Frame} {meth : Method} {c : Code} {b : Nat} {xs : Nat → Int32} {A : Nat → Prop} (C0 : Cx p s m #[Value.ref b] meth c RL cL_law 4 (some .boolean)) (hX : va_X b 6 xs s s.heap) (hbl : b < s.heap.size) (hbA : ¬ A b) (hAs : ∀ q : Nat, A q → s.heap.size ≤ q) (G : GG) (x o : Nat) (ad : Nat → Nat → Nat) (pf : Nat → Option Nat) (hpf : pf 0 = some (ad 7 7)) (r : Nat → Nat) {H : Heap} {locs : List Loc} {ls : Array Slot} (h : Wd G A s H locs (xW G x ad pf ++ mW G o r)) (hl : lv_has ls 4 [(0, .ref b), (1, .ref x), (2, .ref o), (3, .int 0)]) : W p l e room_1 s m #[Value.ref b] below meth c H locs 1000 200000 (lw_Z below #[Value.ref b] s) (F0 m 1032 ls []) := by
  obtain ⟨hx, hb, hml, hown, hts, -⟩ := id C0
  refine lv_aload_n hx hb dL_law_1032 rfl (lv_at hl 1 rfl) ?_
  refine lv_aload_n hx hb dL_law_1033 rfl (lv_at hl 0 rfl) ?_
  refine lv_iload_n hx hb dL_law_1034 rfl (lv_at hl 3 rfl) ?_
  refine lv_iconst (v := 1) hx hb dL_law_1035 (by decide) ?_
  refine lv_iadd hx hb dL_law_1036 ?_
  refine lv_topi (fun k_1 ek_1 => ?_)
  obtain rfl : k_1 = 1 := ek_1.trans (by decide)
  refine va_sld hx hb hX hbl hbA h.2.2.2.1 (vp_in_nI (n := 1) (N := 6) (by decide) (by decide)) dL_law_1037 ?_
  refine W.eq (g2 := F0 m 1038 ls [.int (xs 1), .ref x]) rfl ?_
  refine lv_aload_n hx hb dL_law_1038 rfl (lv_at hl 0 rfl) ?_
  refine lv_iload_n hx hb dL_law_1039 rfl (lv_at hl 3 rfl) ?_
  refine lv_iconst (v := 2) hx hb dL_law_1040 (by decide) ?_
  refine lv_iadd hx hb dL_law_1041 ?_
  refine lv_topi (fun k_2 ek_2 => ?_)
  obtain rfl : k_2 = 2 := ek_2.trans (by decide)
  refine va_sld hx hb hX hbl hbA h.2.2.2.1 (vp_in_nI (n := 2) (N := 6) (by decide) (by decide)) dL_law_1042 ?_
  refine W.eq (g2 := F0 m 1043 ls [.int (xs 2), .int (xs 1), .ref x]) rfl ?_
  refine m_cli (wr := (mW G o r)) h (m_rV (ci := 11) (q0 := 0) (As := [.int (xs 1), .int (xs 2)]) (rest := []) C0 h (c_X11_reach l G x (ad 0) (ad 1) (xs 1) (xs 2)) k_X11_reach q_1245 q_1246 q_1244 rfl rfl rfl [0, 26, 31] (by decide) rfl hl.1 rfl rfl (Nat.le_of_ble_eq_true rfl) dL_law_1043 ⟨Nat.le_of_ble_eq_true rfl, Nat.le_of_ble_eq_true rfl⟩ ⟨Nat.le_of_ble_eq_true rfl, Nat.le_of_ble_eq_true rfl⟩) [0, 26, 31] [86, 87, 88, 89, 90, 91, 92, 93, 94] rfl rfl (by decide) (by decide) (fun r_5 u_3 H locs hp_4 h => ?_)
  have h : Wd G A s _ _ (mW G o r) := h
  refine lv_aload_n hx hb dL_law_1046 rfl (lv_at hl 2 rfl) ?_
  refine lv_aload_n hx hb dL_law_1047 rfl (lv_at hl 0 rfl) ?_
  refine lv_iload_n hx hb dL_law_1048 rfl (lv_at hl 3 rfl) ?_
  refine lv_iconst (v := 1) hx hb dL_law_1049 (by decide) ?_
  refine lv_iadd hx hb dL_law_1050 ?_
  refine lv_topi (fun k_6 ek_6 => ?_)
  obtain rfl : k_6 = 1 := ek_6.trans (by decide)
  refine va_sld hx hb hX hbl hbA h.2.2.2.1 (vp_in_nI (n := 1) (N := 6) (by decide) (by decide)) dL_law_1051 ?_
  refine W.eq (g2 := F0 m 1052 ls [.int (xs 1), .ref o, .int r_5]) rfl ?_
  refine lv_aload_n hx hb dL_law_1052 rfl (lv_at hl 0 rfl) ?_
  refine lv_iload_n hx hb dL_law_1053 rfl (lv_at hl 3 rfl) ?_
  refine lv_iconst (v := 2) hx hb dL_law_1054 (by decide) ?_
  refine lv_iadd hx hb dL_law_1055 ?_
  refine lv_topi (fun k_7 ek_7 => ?_)
  obtain rfl : k_7 = 2 := ek_7.trans (by decide)
  refine va_sld hx hb hX hbl hbA h.2.2.2.1 (vp_in_nI (n := 2) (N := 6) (by decide) (by decide)) dL_law_1056 ?_
  refine W.eq (g2 := F0 m 1057 ls [.int (xs 2), .int (xs 1), .ref o, .int r_5]) rfl ?_
  refine m_cli (wr := []) h (m_rV (ci := 12) (q0 := 0) (As := [.int (xs 1), .int (xs 2)]) (rest := [.int r_5]) C0 h (c_X12_reach l G o r (xs 1) (xs 2)) k_X12_reach q_1947 q_1948 q_1946 rfl rfl rfl [0, 1] (by decide) rfl hl.1 rfl rfl (Nat.le_of_ble_eq_true rfl) dL_law_1057 ⟨Nat.le_of_ble_eq_true rfl, Nat.le_of_ble_eq_true rfl⟩ ⟨Nat.le_of_ble_eq_true rfl, Nat.le_of_ble_eq_true rfl⟩) [0, 1] [] rfl rfl (by decide) (by decide) (fun r_10 u_8 H locs hp_9 h => ?_)
  have h : Wd G A s _ _ [] := h
  refine lv_icmp_eq (tgt := 1727) hx hb dL_law_1060 (by decide) (fun _ => ?_) (fun c_11 => absurd (hp_4.trans hp_9.symm) c_11)
  refine W.widen (k := 600000) (n := 7302250) (Nat.le_of_ble_eq_true rfl) (Nat.le_of_ble_eq_true rfl) ?_
  exact law_tail C0 hX hbl hbA hAs G h (lv_sub hl [0, 1, 2, 3] rfl)
set_option maxHeartbeats 4000000 in
set_option maxRecDepth 100000 in
theorem law_case_24 {p : Program} {l : Launch} {e : Env} {s : State} {m : MethodId} {below : List Frame} {meth : Method} {c : Code} {b : Nat} {xs : Nat → Int32} {A : Nat → Prop} (C0 : Cx p s m #[Value.ref b] meth c RL cL_law 4 (some .boolean)) (hX : va_X b 6 xs s s.heap) (hbl : b < s.heap.size) (hbA : ¬ A b) (hAs : ∀ q : Nat, A q → s.heap.size ≤ q) (G : GG) (x o : Nat) (ad : Nat → Nat → Nat) (pf : Nat → Option Nat) (hpf : pf 0 = some (ad 7 7)) (r : Nat → Nat) {H : Heap} {locs : List Loc} {ls : Array Slot} (h : Wd G A s H locs (xW G x ad pf ++ mW G o r)) (hl : lv_has ls 4 [(0, .ref b), (1, .ref x), (2, .ref o), (3, .int 0)]) : W p l e room_1 s m #[Value.ref b] below meth c H locs 1000 200000 (lw_Z below #[Value.ref b] s) (F0 m 1065 ls []) := by
  obtain ⟨hx, hb, hml, hown, hts, -⟩ := id C0
  refine lv_aload_n hx hb dL_law_1065 rfl (lv_at hl 1 rfl) ?_
  refine lv_aload_n hx hb dL_law_1066 rfl (lv_at hl 0 rfl) ?_
  refine lv_iload_n hx hb dL_law_1067 rfl (lv_at hl 3 rfl) ?_
  refine lv_iconst (v := 1) hx hb dL_law_1068 (by decide) ?_
  refine lv_iadd hx hb dL_law_1069 ?_
  refine lv_topi (fun k_1 ek_1 => ?_)
  obtain rfl : k_1 = 1 := ek_1.trans (by decide)
  refine va_sld hx hb hX hbl hbA h.2.2.2.1 (vp_in_nI (n := 1) (N := 6) (by decide) (by decide)) dL_law_1070 ?_
  refine W.eq (g2 := F0 m 1071 ls [.int (xs 1), .ref x]) rfl ?_
  refine m_cli (wr := (mW G o r)) h (m_rV (ci := 11) (q0 := 0) (As := [.int (xs 1)]) (rest := []) C0 h (c_X11_enough l G x (ad 0) (ad 1) (xs 1)) k_X11_enough q_1258 q_1259 q_1257 rfl rfl rfl [0, 26, 31] (by decide) rfl hl.1 rfl rfl (Nat.le_of_ble_eq_true rfl) dL_law_1071 ⟨Nat.le_of_ble_eq_true rfl, Nat.le_of_ble_eq_true rfl⟩ ⟨Nat.le_of_ble_eq_true rfl, Nat.le_of_ble_eq_true rfl⟩) [0, 26, 31] [86, 87, 88, 89, 90, 91, 92, 93, 94] rfl rfl (by decide) (by decide) (fun r_4 u_2 H locs hp_3 h => ?_)
  have h : Wd G A s _ _ (mW G o r) := h
  refine lv_aload_n hx hb dL_law_1074 rfl (lv_at hl 2 rfl) ?_
  refine lv_aload_n hx hb dL_law_1075 rfl (lv_at hl 0 rfl) ?_
  refine lv_iload_n hx hb dL_law_1076 rfl (lv_at hl 3 rfl) ?_
  refine lv_iconst (v := 1) hx hb dL_law_1077 (by decide) ?_
  refine lv_iadd hx hb dL_law_1078 ?_
  refine lv_topi (fun k_5 ek_5 => ?_)
  obtain rfl : k_5 = 1 := ek_5.trans (by decide)
  refine va_sld hx hb hX hbl hbA h.2.2.2.1 (vp_in_nI (n := 1) (N := 6) (by decide) (by decide)) dL_law_1079 ?_
  refine W.eq (g2 := F0 m 1080 ls [.int (xs 1), .ref o, .int r_4]) rfl ?_
  refine m_cli (wr := []) h (m_rV (ci := 12) (q0 := 0) (As := [.int (xs 1)]) (rest := [.int r_4]) C0 h (c_X12_enough l G o r (xs 1)) k_X12_enough q_1951 q_1952 q_1950 rfl rfl rfl [0, 1] (by decide) rfl hl.1 rfl rfl (Nat.le_of_ble_eq_true rfl) dL_law_1080 ⟨Nat.le_of_ble_eq_true rfl, Nat.le_of_ble_eq_true rfl⟩ ⟨Nat.le_of_ble_eq_true rfl, Nat.le_of_ble_eq_true rfl⟩) [0, 1] [] rfl rfl (by decide) (by decide) (fun r_8 u_6 H locs hp_7 h => ?_)
  have h : Wd G A s _ _ [] := h
  refine lv_icmp_eq (tgt := 1727) hx hb dL_law_1083 (by decide) (fun _ => ?_) (fun c_9 => absurd (hp_3.trans hp_7.symm) c_9)
  refine W.widen (k := 600000) (n := 7302250) (Nat.le_of_ble_eq_true rfl) (Nat.le_of_ble_eq_true rfl) ?_
  exact law_tail C0 hX hbl hbA hAs G h (lv_sub hl [0, 1, 2, 3] rfl)
set_option maxHeartbeats 4000000 in
set_option maxRecDepth 100000 in
theorem law_case_25 {p : Program} {l : Launch} {e : Env} {s : State} {m : MethodId} {below : List Frame} {meth : Method} {c : Code} {b : Nat} {xs : Nat → Int32} {A : Nat → Prop} (C0 : Cx p s m #[Value.ref b] meth c RL cL_law 4 (some .boolean)) (hX : va_X b 6 xs s s.heap) (hbl : b < s.heap.size) (hbA : ¬ A b) (hAs : ∀ q : Nat, A q → s.heap.size ≤ q) (G : GG) (x o : Nat) (ad : Nat → Nat → Nat) (pf : Nat → Option Nat) (hpf : pf 0 = some (ad 7 7)) (r : Nat → Nat) {H : Heap} {locs : List Loc} {ls : Array Slot} (h : Wd G A s H locs (xW G x ad pf ++ mW G o r)) (hl : lv_has ls 4 [(0, .ref b), (1, .ref x), (2, .ref o), (3, .int 0)]) : W p l e room_1 s m #[Value.ref b] below meth c H locs 1000 200000 (lw_Z below #[Value.ref b] s) (F0 m 1088 ls []) := by
  obtain ⟨hx, hb, hml, hown, hts, -⟩ := id C0
  refine lv_aload_n hx hb dL_law_1088 rfl (lv_at hl 1 rfl) ?_
  refine lv_aload_n hx hb dL_law_1089 rfl (lv_at hl 0 rfl) ?_
  refine lv_iload_n hx hb dL_law_1090 rfl (lv_at hl 3 rfl) ?_
  refine lv_iconst (v := 1) hx hb dL_law_1091 (by decide) ?_
  refine lv_iadd hx hb dL_law_1092 ?_
  refine lv_topi (fun k_1 ek_1 => ?_)
  obtain rfl : k_1 = 1 := ek_1.trans (by decide)
  refine va_sld hx hb hX hbl hbA h.2.2.2.1 (vp_in_nI (n := 1) (N := 6) (by decide) (by decide)) dL_law_1093 ?_
  refine W.eq (g2 := F0 m 1094 ls [.int (xs 1), .ref x]) rfl ?_
  refine lv_aload_n hx hb dL_law_1094 rfl (lv_at hl 0 rfl) ?_
  refine lv_iload_n hx hb dL_law_1095 rfl (lv_at hl 3 rfl) ?_
  refine lv_iconst (v := 2) hx hb dL_law_1096 (by decide) ?_
  refine lv_iadd hx hb dL_law_1097 ?_
  refine lv_topi (fun k_2 ek_2 => ?_)
  obtain rfl : k_2 = 2 := ek_2.trans (by decide)
  refine va_sld hx hb hX hbl hbA h.2.2.2.1 (vp_in_nI (n := 2) (N := 6) (by decide) (by decide)) dL_law_1098 ?_
  refine W.eq (g2 := F0 m 1099 ls [.int (xs 2), .int (xs 1), .ref x]) rfl ?_
  refine m_cli (wr := (mW G o r)) h (m_rV (ci := 11) (q0 := 0) (As := [.int (xs 1), .int (xs 2)]) (rest := []) C0 h (c_X11_byRights l G x (ad 0) (ad 1) (xs 1) (xs 2)) k_X11_byRights q_1266 q_1267 q_1265 rfl rfl rfl [0, 26, 31] (by decide) rfl hl.1 rfl rfl (Nat.le_of_ble_eq_true rfl) dL_law_1099 ⟨Nat.le_of_ble_eq_true rfl, Nat.le_of_ble_eq_true rfl⟩ ⟨Nat.le_of_ble_eq_true rfl, Nat.le_of_ble_eq_true rfl⟩) [0, 26, 31] [86, 87, 88, 89, 90, 91, 92, 93, 94] rfl rfl (by decide) (by decide) (fun r_5 u_3 H locs hp_4 h => ?_)
  have h : Wd G A s _ _ (mW G o r) := h
  refine lv_aload_n hx hb dL_law_1102 rfl (lv_at hl 2 rfl) ?_
  refine lv_aload_n hx hb dL_law_1103 rfl (lv_at hl 0 rfl) ?_
  refine lv_iload_n hx hb dL_law_1104 rfl (lv_at hl 3 rfl) ?_
  refine lv_iconst (v := 1) hx hb dL_law_1105 (by decide) ?_
  refine lv_iadd hx hb dL_law_1106 ?_
  refine lv_topi (fun k_6 ek_6 => ?_)
  obtain rfl : k_6 = 1 := ek_6.trans (by decide)
  refine va_sld hx hb hX hbl hbA h.2.2.2.1 (vp_in_nI (n := 1) (N := 6) (by decide) (by decide)) dL_law_1107 ?_
  refine W.eq (g2 := F0 m 1108 ls [.int (xs 1), .ref o, .int r_5]) rfl ?_
  refine lv_aload_n hx hb dL_law_1108 rfl (lv_at hl 0 rfl) ?_
  refine lv_iload_n hx hb dL_law_1109 rfl (lv_at hl 3 rfl) ?_
  refine lv_iconst (v := 2) hx hb dL_law_1110 (by decide) ?_
  refine lv_iadd hx hb dL_law_1111 ?_
  refine lv_topi (fun k_7 ek_7 => ?_)
  obtain rfl : k_7 = 2 := ek_7.trans (by decide)
  refine va_sld hx hb hX hbl hbA h.2.2.2.1 (vp_in_nI (n := 2) (N := 6) (by decide) (by decide)) dL_law_1112 ?_
  refine W.eq (g2 := F0 m 1113 ls [.int (xs 2), .int (xs 1), .ref o, .int r_5]) rfl ?_
  refine m_cli (wr := []) h (m_rV (ci := 12) (q0 := 0) (As := [.int (xs 1), .int (xs 2)]) (rest := [.int r_5]) C0 h (c_X12_byRights l G o r (xs 1) (xs 2)) k_X12_byRights q_1955 q_1956 q_1954 rfl rfl rfl [0, 1] (by decide) rfl hl.1 rfl rfl (Nat.le_of_ble_eq_true rfl) dL_law_1113 ⟨Nat.le_of_ble_eq_true rfl, Nat.le_of_ble_eq_true rfl⟩ ⟨Nat.le_of_ble_eq_true rfl, Nat.le_of_ble_eq_true rfl⟩) [0, 1] [] rfl rfl (by decide) (by decide) (fun r_10 u_8 H locs hp_9 h => ?_)
  have h : Wd G A s _ _ [] := h
  refine lv_icmp_eq (tgt := 1727) hx hb dL_law_1116 (by decide) (fun _ => ?_) (fun c_11 => absurd (hp_4.trans hp_9.symm) c_11)
  refine W.widen (k := 600000) (n := 7302250) (Nat.le_of_ble_eq_true rfl) (Nat.le_of_ble_eq_true rfl) ?_
  exact law_tail C0 hX hbl hbA hAs G h (lv_sub hl [0, 1, 2, 3] rfl)
set_option maxHeartbeats 4000000 in
set_option maxRecDepth 100000 in
theorem law_case_26 {p : Program} {l : Launch} {e : Env} {s : State} {m : MethodId} {below : List Frame} {meth : Method} {c : Code} {b : Nat} {xs : Nat → Int32} {A : Nat → Prop} (C0 : Cx p s m #[Value.ref b] meth c RL cL_law 4 (some .boolean)) (hX : va_X b 6 xs s s.heap) (hbl : b < s.heap.size) (hbA : ¬ A b) (hAs : ∀ q : Nat, A q → s.heap.size ≤ q) (G : GG) (x o : Nat) (ad : Nat → Nat → Nat) (pf : Nat → Option Nat) (hpf : pf 0 = some (ad 7 7)) (r : Nat → Nat) {H : Heap} {locs : List Loc} {ls : Array Slot} (h : Wd G A s H locs (xW G x ad pf ++ mW G o r)) (hl : lv_has ls 4 [(0, .ref b), (1, .ref x), (2, .ref o), (3, .int 0)]) : W p l e room_1 s m #[Value.ref b] below meth c H locs 1000 200000 (lw_Z below #[Value.ref b] s) (F0 m 1121 ls []) := by
  obtain ⟨hx, hb, hml, hown, hts, -⟩ := id C0
  refine lv_aload_n hx hb dL_law_1121 rfl (lv_at hl 1 rfl) ?_
  refine lv_aload_n hx hb dL_law_1122 rfl (lv_at hl 0 rfl) ?_
  refine lv_iload_n hx hb dL_law_1123 rfl (lv_at hl 3 rfl) ?_
  refine lv_iconst (v := 1) hx hb dL_law_1124 (by decide) ?_
  refine lv_iadd hx hb dL_law_1125 ?_
  refine lv_topi (fun k_1 ek_1 => ?_)
  obtain rfl : k_1 = 1 := ek_1.trans (by decide)
  refine va_sld hx hb hX hbl hbA h.2.2.2.1 (vp_in_nI (n := 1) (N := 6) (by decide) (by decide)) dL_law_1126 ?_
  refine W.eq (g2 := F0 m 1127 ls [.int (xs 1), .ref x]) rfl ?_
  refine lv_aload_n hx hb dL_law_1127 rfl (lv_at hl 0 rfl) ?_
  refine lv_iload_n hx hb dL_law_1128 rfl (lv_at hl 3 rfl) ?_
  refine lv_iconst (v := 2) hx hb dL_law_1129 (by decide) ?_
  refine lv_iadd hx hb dL_law_1130 ?_
  refine lv_topi (fun k_2 ek_2 => ?_)
  obtain rfl : k_2 = 2 := ek_2.trans (by decide)
  refine va_sld hx hb hX hbl hbA h.2.2.2.1 (vp_in_nI (n := 2) (N := 6) (by decide) (by decide)) dL_law_1131 ?_
  refine W.eq (g2 := F0 m 1132 ls [.int (xs 2), .int (xs 1), .ref x]) rfl ?_
  refine lv_aload_n hx hb dL_law_1132 rfl (lv_at hl 0 rfl) ?_
  refine lv_iload_n hx hb dL_law_1133 rfl (lv_at hl 3 rfl) ?_
  refine lv_iconst (v := 3) hx hb dL_law_1134 (by decide) ?_
  refine lv_iadd hx hb dL_law_1135 ?_
  refine lv_topi (fun k_3 ek_3 => ?_)
  obtain rfl : k_3 = 3 := ek_3.trans (by decide)
  refine va_sld hx hb hX hbl hbA h.2.2.2.1 (vp_in_nI (n := 3) (N := 6) (by decide) (by decide)) dL_law_1136 ?_
  refine W.eq (g2 := F0 m 1137 ls [.int (xs 3), .int (xs 2), .int (xs 1), .ref x]) rfl ?_
  refine m_cli (wr := (mW G o r)) h (m_rV (ci := 11) (q0 := 0) (As := [.int (xs 1), .int (xs 2), .int (xs 3)]) (rest := []) C0 h (c_X11_round l G x (ad 0) (ad 1) (xs 1) (xs 2) (xs 3)) k_X11_round q_1275 q_1276 q_1274 rfl rfl rfl [0, 26, 31] (by decide) rfl hl.1 rfl rfl (Nat.le_of_ble_eq_true rfl) dL_law_1137 ⟨Nat.le_of_ble_eq_true rfl, Nat.le_of_ble_eq_true rfl⟩ ⟨Nat.le_of_ble_eq_true rfl, Nat.le_of_ble_eq_true rfl⟩) [0, 26, 31] [86, 87, 88, 89, 90, 91, 92, 93, 94] rfl rfl (by decide) (by decide) (fun r_6 u_4 H locs hp_5 h => ?_)
  have h : Wd G A s _ _ (mW G o r) := h
  refine lv_aload_n hx hb dL_law_1140 rfl (lv_at hl 2 rfl) ?_
  refine lv_aload_n hx hb dL_law_1141 rfl (lv_at hl 0 rfl) ?_
  refine lv_iload_n hx hb dL_law_1142 rfl (lv_at hl 3 rfl) ?_
  refine lv_iconst (v := 1) hx hb dL_law_1143 (by decide) ?_
  refine lv_iadd hx hb dL_law_1144 ?_
  refine lv_topi (fun k_7 ek_7 => ?_)
  obtain rfl : k_7 = 1 := ek_7.trans (by decide)
  refine va_sld hx hb hX hbl hbA h.2.2.2.1 (vp_in_nI (n := 1) (N := 6) (by decide) (by decide)) dL_law_1145 ?_
  refine W.eq (g2 := F0 m 1146 ls [.int (xs 1), .ref o, .int r_6]) rfl ?_
  refine lv_aload_n hx hb dL_law_1146 rfl (lv_at hl 0 rfl) ?_
  refine lv_iload_n hx hb dL_law_1147 rfl (lv_at hl 3 rfl) ?_
  refine lv_iconst (v := 2) hx hb dL_law_1148 (by decide) ?_
  refine lv_iadd hx hb dL_law_1149 ?_
  refine lv_topi (fun k_8 ek_8 => ?_)
  obtain rfl : k_8 = 2 := ek_8.trans (by decide)
  refine va_sld hx hb hX hbl hbA h.2.2.2.1 (vp_in_nI (n := 2) (N := 6) (by decide) (by decide)) dL_law_1150 ?_
  refine W.eq (g2 := F0 m 1151 ls [.int (xs 2), .int (xs 1), .ref o, .int r_6]) rfl ?_
  refine lv_aload_n hx hb dL_law_1151 rfl (lv_at hl 0 rfl) ?_
  refine lv_iload_n hx hb dL_law_1152 rfl (lv_at hl 3 rfl) ?_
  refine lv_iconst (v := 3) hx hb dL_law_1153 (by decide) ?_
  refine lv_iadd hx hb dL_law_1154 ?_
  refine lv_topi (fun k_9 ek_9 => ?_)
  obtain rfl : k_9 = 3 := ek_9.trans (by decide)
  refine va_sld hx hb hX hbl hbA h.2.2.2.1 (vp_in_nI (n := 3) (N := 6) (by decide) (by decide)) dL_law_1155 ?_
  refine W.eq (g2 := F0 m 1156 ls [.int (xs 3), .int (xs 2), .int (xs 1), .ref o, .int r_6]) rfl ?_
  refine m_cli (wr := []) h (m_rV (ci := 12) (q0 := 0) (As := [.int (xs 1), .int (xs 2), .int (xs 3)]) (rest := [.int r_6]) C0 h (c_X12_round l G o r (xs 1) (xs 2) (xs 3)) k_X12_round q_1959 q_1960 q_1958 rfl rfl rfl [0, 1] (by decide) rfl hl.1 rfl rfl (Nat.le_of_ble_eq_true rfl) dL_law_1156 ⟨Nat.le_of_ble_eq_true rfl, Nat.le_of_ble_eq_true rfl⟩ ⟨Nat.le_of_ble_eq_true rfl, Nat.le_of_ble_eq_true rfl⟩) [0, 1] [] rfl rfl (by decide) (by decide) (fun r_12 u_10 H locs hp_11 h => ?_)
  have h : Wd G A s _ _ [] := h
  refine lv_icmp_eq (tgt := 1727) hx hb dL_law_1159 (by decide) (fun _ => ?_) (fun c_13 => absurd (hp_5.trans hp_11.symm) c_13)
  refine W.widen (k := 600000) (n := 7302250) (Nat.le_of_ble_eq_true rfl) (Nat.le_of_ble_eq_true rfl) ?_
  exact law_tail C0 hX hbl hbA hAs G h (lv_sub hl [0, 1, 2, 3] rfl)
set_option maxHeartbeats 4000000 in
set_option maxRecDepth 100000 in
theorem law_case_27 {p : Program} {l : Launch} {e : Env} {s : State} {m : MethodId} {below : List Frame} {meth : Method} {c : Code} {b : Nat} {xs : Nat → Int32} {A : Nat → Prop} (C0 : Cx p s m #[Value.ref b] meth c RL cL_law 4 (some .boolean)) (hX : va_X b 6 xs s s.heap) (hbl : b < s.heap.size) (hbA : ¬ A b) (hAs : ∀ q : Nat, A q → s.heap.size ≤ q) (G : GG) (x o : Nat) (ad : Nat → Nat → Nat) (pf : Nat → Option Nat) (hpf : pf 0 = some (ad 7 7)) (r : Nat → Nat) {H : Heap} {locs : List Loc} {ls : Array Slot} (h : Wd G A s H locs (xW G x ad pf ++ mW G o r)) (hl : lv_has ls 4 [(0, .ref b), (1, .ref x), (2, .ref o), (3, .int 0)]) : W p l e room_1 s m #[Value.ref b] below meth c H locs 1000 200000 (lw_Z below #[Value.ref b] s) (F0 m 1164 ls []) := by
  obtain ⟨hx, hb, hml, hown, hts, -⟩ := id C0
  refine lv_aload_n hx hb dL_law_1164 rfl (lv_at hl 1 rfl) ?_
  refine lv_aload_n hx hb dL_law_1165 rfl (lv_at hl 0 rfl) ?_
  refine lv_iload_n hx hb dL_law_1166 rfl (lv_at hl 3 rfl) ?_
  refine lv_iconst (v := 1) hx hb dL_law_1167 (by decide) ?_
  refine lv_iadd hx hb dL_law_1168 ?_
  refine lv_topi (fun k_1 ek_1 => ?_)
  obtain rfl : k_1 = 1 := ek_1.trans (by decide)
  refine va_sld hx hb hX hbl hbA h.2.2.2.1 (vp_in_nI (n := 1) (N := 6) (by decide) (by decide)) dL_law_1169 ?_
  refine W.eq (g2 := F0 m 1170 ls [.int (xs 1), .ref x]) rfl ?_
  refine lv_aload_n hx hb dL_law_1170 rfl (lv_at hl 0 rfl) ?_
  refine lv_iload_n hx hb dL_law_1171 rfl (lv_at hl 3 rfl) ?_
  refine lv_iconst (v := 2) hx hb dL_law_1172 (by decide) ?_
  refine lv_iadd hx hb dL_law_1173 ?_
  refine lv_topi (fun k_2 ek_2 => ?_)
  obtain rfl : k_2 = 2 := ek_2.trans (by decide)
  refine va_sld hx hb hX hbl hbA h.2.2.2.1 (vp_in_nI (n := 2) (N := 6) (by decide) (by decide)) dL_law_1174 ?_
  refine W.eq (g2 := F0 m 1175 ls [.int (xs 2), .int (xs 1), .ref x]) rfl ?_
  refine lv_aload_n hx hb dL_law_1175 rfl (lv_at hl 0 rfl) ?_
  refine lv_iload_n hx hb dL_law_1176 rfl (lv_at hl 3 rfl) ?_
  refine lv_iconst (v := 3) hx hb dL_law_1177 (by decide) ?_
  refine lv_iadd hx hb dL_law_1178 ?_
  refine lv_topi (fun k_3 ek_3 => ?_)
  obtain rfl : k_3 = 3 := ek_3.trans (by decide)
  refine va_sld hx hb hX hbl hbA h.2.2.2.1 (vp_in_nI (n := 3) (N := 6) (by decide) (by decide)) dL_law_1179 ?_
  refine W.eq (g2 := F0 m 1180 ls [.int (xs 3), .int (xs 2), .int (xs 1), .ref x]) rfl ?_
  refine lv_aload_n hx hb dL_law_1180 rfl (lv_at hl 0 rfl) ?_
  refine lv_iload_n hx hb dL_law_1181 rfl (lv_at hl 3 rfl) ?_
  refine lv_iconst (v := 4) hx hb dL_law_1182 (by decide) ?_
  refine lv_iadd hx hb dL_law_1183 ?_
  refine lv_topi (fun k_4 ek_4 => ?_)
  obtain rfl : k_4 = 4 := ek_4.trans (by decide)
  refine va_sld hx hb hX hbl hbA h.2.2.2.1 (vp_in_nI (n := 4) (N := 6) (by decide) (by decide)) dL_law_1184 ?_
  refine W.eq (g2 := F0 m 1185 ls [.int (xs 4), .int (xs 3), .int (xs 2), .int (xs 1), .ref x]) rfl ?_
  refine m_cli (wr := (mW G o r)) h (m_rV (ci := 11) (q0 := 0) (As := [.int (xs 1), .int (xs 2), .int (xs 3), .int (xs 4)]) (rest := []) C0 h (c_X11_makeFree l G x (ad 0) (ad 1) (xs 1) (xs 2) (xs 3) (xs 4)) k_X11_makeFree q_1317 q_1318 q_1316 rfl rfl rfl [0, 26, 31] (by decide) rfl hl.1 rfl rfl (Nat.le_of_ble_eq_true rfl) dL_law_1185 ⟨Nat.le_of_ble_eq_true rfl, Nat.le_of_ble_eq_true rfl⟩ ⟨Nat.le_of_ble_eq_true rfl, Nat.le_of_ble_eq_true rfl⟩) [0, 26, 31] [86, 87, 88, 89, 90, 91, 92, 93, 94] rfl rfl (by decide) (by decide) (fun r_7 u_5 H locs hp_6 h => ?_)
  have h : Wd G A s _ _ (mW G o r) := h
  refine lv_aload_n hx hb dL_law_1188 rfl (lv_at hl 2 rfl) ?_
  refine lv_aload_n hx hb dL_law_1189 rfl (lv_at hl 0 rfl) ?_
  refine lv_iload_n hx hb dL_law_1190 rfl (lv_at hl 3 rfl) ?_
  refine lv_iconst (v := 1) hx hb dL_law_1191 (by decide) ?_
  refine lv_iadd hx hb dL_law_1192 ?_
  refine lv_topi (fun k_8 ek_8 => ?_)
  obtain rfl : k_8 = 1 := ek_8.trans (by decide)
  refine va_sld hx hb hX hbl hbA h.2.2.2.1 (vp_in_nI (n := 1) (N := 6) (by decide) (by decide)) dL_law_1193 ?_
  refine W.eq (g2 := F0 m 1194 ls [.int (xs 1), .ref o, .int r_7]) rfl ?_
  refine lv_aload_n hx hb dL_law_1194 rfl (lv_at hl 0 rfl) ?_
  refine lv_iload_n hx hb dL_law_1195 rfl (lv_at hl 3 rfl) ?_
  refine lv_iconst (v := 2) hx hb dL_law_1196 (by decide) ?_
  refine lv_iadd hx hb dL_law_1197 ?_
  refine lv_topi (fun k_9 ek_9 => ?_)
  obtain rfl : k_9 = 2 := ek_9.trans (by decide)
  refine va_sld hx hb hX hbl hbA h.2.2.2.1 (vp_in_nI (n := 2) (N := 6) (by decide) (by decide)) dL_law_1198 ?_
  refine W.eq (g2 := F0 m 1199 ls [.int (xs 2), .int (xs 1), .ref o, .int r_7]) rfl ?_
  refine lv_aload_n hx hb dL_law_1199 rfl (lv_at hl 0 rfl) ?_
  refine lv_iload_n hx hb dL_law_1200 rfl (lv_at hl 3 rfl) ?_
  refine lv_iconst (v := 3) hx hb dL_law_1201 (by decide) ?_
  refine lv_iadd hx hb dL_law_1202 ?_
  refine lv_topi (fun k_10 ek_10 => ?_)
  obtain rfl : k_10 = 3 := ek_10.trans (by decide)
  refine va_sld hx hb hX hbl hbA h.2.2.2.1 (vp_in_nI (n := 3) (N := 6) (by decide) (by decide)) dL_law_1203 ?_
  refine W.eq (g2 := F0 m 1204 ls [.int (xs 3), .int (xs 2), .int (xs 1), .ref o, .int r_7]) rfl ?_
  refine lv_aload_n hx hb dL_law_1204 rfl (lv_at hl 0 rfl) ?_
  refine lv_iload_n hx hb dL_law_1205 rfl (lv_at hl 3 rfl) ?_
  refine lv_iconst (v := 4) hx hb dL_law_1206 (by decide) ?_
  refine lv_iadd hx hb dL_law_1207 ?_
  refine lv_topi (fun k_11 ek_11 => ?_)
  obtain rfl : k_11 = 4 := ek_11.trans (by decide)
  refine va_sld hx hb hX hbl hbA h.2.2.2.1 (vp_in_nI (n := 4) (N := 6) (by decide) (by decide)) dL_law_1208 ?_
  refine W.eq (g2 := F0 m 1209 ls [.int (xs 4), .int (xs 3), .int (xs 2), .int (xs 1), .ref o, .int r_7]) rfl ?_
  refine m_cli (wr := []) h (m_rV (ci := 12) (q0 := 0) (As := [.int (xs 1), .int (xs 2), .int (xs 3), .int (xs 4)]) (rest := [.int r_7]) C0 h (c_X12_makeFree l G o r (xs 1) (xs 2) (xs 3) (xs 4)) k_X12_makeFree q_1973 q_1974 q_1972 rfl rfl rfl [0, 1] (by decide) rfl hl.1 rfl rfl (Nat.le_of_ble_eq_true rfl) dL_law_1209 ⟨Nat.le_of_ble_eq_true rfl, Nat.le_of_ble_eq_true rfl⟩ ⟨Nat.le_of_ble_eq_true rfl, Nat.le_of_ble_eq_true rfl⟩) [0, 1] [] rfl rfl (by decide) (by decide) (fun r_14 u_12 H locs hp_13 h => ?_)
  have h : Wd G A s _ _ [] := h
  refine lv_icmp_eq (tgt := 1727) hx hb dL_law_1212 (by decide) (fun _ => ?_) (fun c_15 => absurd (hp_6.trans hp_13.symm) c_15)
  refine W.widen (k := 600000) (n := 7302250) (Nat.le_of_ble_eq_true rfl) (Nat.le_of_ble_eq_true rfl) ?_
  exact law_tail C0 hX hbl hbA hAs G h (lv_sub hl [0, 1, 2, 3] rfl)
set_option maxHeartbeats 4000000 in
set_option maxRecDepth 100000 in
theorem law_case_28 {p : Program} {l : Launch} {e : Env} {s : State} {m : MethodId} {below : List Frame} {meth : Method} {c : Code} {b : Nat} {xs : Nat → Int32} {A : Nat → Prop} (C0 : Cx p s m #[Value.ref b] meth c RL cL_law 4 (some .boolean)) (hX : va_X b 6 xs s s.heap) (hbl : b < s.heap.size) (hbA : ¬ A b) (hAs : ∀ q : Nat, A q → s.heap.size ≤ q) (G : GG) (x o : Nat) (ad : Nat → Nat → Nat) (pf : Nat → Option Nat) (hpf : pf 0 = some (ad 7 7)) (r : Nat → Nat) {H : Heap} {locs : List Loc} {ls : Array Slot} (h : Wd G A s H locs (xW G x ad pf ++ mW G o r)) (hl : lv_has ls 4 [(0, .ref b), (1, .ref x), (2, .ref o), (3, .int 0)]) : W p l e room_1 s m #[Value.ref b] below meth c H locs 1000 200000 (lw_Z below #[Value.ref b] s) (F0 m 1217 ls []) := by
  obtain ⟨hx, hb, hml, hown, hts, -⟩ := id C0
  refine lv_aload_n hx hb dL_law_1217 rfl (lv_at hl 1 rfl) ?_
  refine lv_aload_n hx hb dL_law_1218 rfl (lv_at hl 0 rfl) ?_
  refine lv_iload_n hx hb dL_law_1219 rfl (lv_at hl 3 rfl) ?_
  refine lv_iconst (v := 1) hx hb dL_law_1220 (by decide) ?_
  refine lv_iadd hx hb dL_law_1221 ?_
  refine lv_topi (fun k_1 ek_1 => ?_)
  obtain rfl : k_1 = 1 := ek_1.trans (by decide)
  refine va_sld hx hb hX hbl hbA h.2.2.2.1 (vp_in_nI (n := 1) (N := 6) (by decide) (by decide)) dL_law_1222 ?_
  refine W.eq (g2 := F0 m 1223 ls [.int (xs 1), .ref x]) rfl ?_
  refine lv_aload_n hx hb dL_law_1223 rfl (lv_at hl 0 rfl) ?_
  refine lv_iload_n hx hb dL_law_1224 rfl (lv_at hl 3 rfl) ?_
  refine lv_iconst (v := 2) hx hb dL_law_1225 (by decide) ?_
  refine lv_iadd hx hb dL_law_1226 ?_
  refine lv_topi (fun k_2 ek_2 => ?_)
  obtain rfl : k_2 = 2 := ek_2.trans (by decide)
  refine va_sld hx hb hX hbl hbA h.2.2.2.1 (vp_in_nI (n := 2) (N := 6) (by decide) (by decide)) dL_law_1227 ?_
  refine W.eq (g2 := F0 m 1228 ls [.int (xs 2), .int (xs 1), .ref x]) rfl ?_
  refine lv_aload_n hx hb dL_law_1228 rfl (lv_at hl 0 rfl) ?_
  refine lv_iload_n hx hb dL_law_1229 rfl (lv_at hl 3 rfl) ?_
  refine lv_iconst (v := 3) hx hb dL_law_1230 (by decide) ?_
  refine lv_iadd hx hb dL_law_1231 ?_
  refine lv_topi (fun k_3 ek_3 => ?_)
  obtain rfl : k_3 = 3 := ek_3.trans (by decide)
  refine va_sld hx hb hX hbl hbA h.2.2.2.1 (vp_in_nI (n := 3) (N := 6) (by decide) (by decide)) dL_law_1232 ?_
  refine W.eq (g2 := F0 m 1233 ls [.int (xs 3), .int (xs 2), .int (xs 1), .ref x]) rfl ?_
  refine m_cli (wr := (mW G o r)) h (m_rV (ci := 11) (q0 := 0) (As := [.int (xs 1), .int (xs 2), .int (xs 3)]) (rest := []) C0 h (c_X11_bestCorner l G x (ad 0) (ad 1) (xs 1) (xs 2) (xs 3)) k_X11_bestCorner q_1327 q_1328 q_1326 rfl rfl rfl [0, 26, 31] (by decide) rfl hl.1 rfl rfl (Nat.le_of_ble_eq_true rfl) dL_law_1233 ⟨Nat.le_of_ble_eq_true rfl, Nat.le_of_ble_eq_true rfl⟩ ⟨Nat.le_of_ble_eq_true rfl, Nat.le_of_ble_eq_true rfl⟩) [0, 26, 31] [86, 87, 88, 89, 90, 91, 92, 93, 94] rfl rfl (by decide) (by decide) (fun r_6 u_4 H locs hp_5 h => ?_)
  have h : Wd G A s _ _ (mW G o r) := h
  refine lv_aload_n hx hb dL_law_1236 rfl (lv_at hl 2 rfl) ?_
  refine lv_aload_n hx hb dL_law_1237 rfl (lv_at hl 0 rfl) ?_
  refine lv_iload_n hx hb dL_law_1238 rfl (lv_at hl 3 rfl) ?_
  refine lv_iconst (v := 1) hx hb dL_law_1239 (by decide) ?_
  refine lv_iadd hx hb dL_law_1240 ?_
  refine lv_topi (fun k_7 ek_7 => ?_)
  obtain rfl : k_7 = 1 := ek_7.trans (by decide)
  refine va_sld hx hb hX hbl hbA h.2.2.2.1 (vp_in_nI (n := 1) (N := 6) (by decide) (by decide)) dL_law_1241 ?_
  refine W.eq (g2 := F0 m 1242 ls [.int (xs 1), .ref o, .int r_6]) rfl ?_
  refine lv_aload_n hx hb dL_law_1242 rfl (lv_at hl 0 rfl) ?_
  refine lv_iload_n hx hb dL_law_1243 rfl (lv_at hl 3 rfl) ?_
  refine lv_iconst (v := 2) hx hb dL_law_1244 (by decide) ?_
  refine lv_iadd hx hb dL_law_1245 ?_
  refine lv_topi (fun k_8 ek_8 => ?_)
  obtain rfl : k_8 = 2 := ek_8.trans (by decide)
  refine va_sld hx hb hX hbl hbA h.2.2.2.1 (vp_in_nI (n := 2) (N := 6) (by decide) (by decide)) dL_law_1246 ?_
  refine W.eq (g2 := F0 m 1247 ls [.int (xs 2), .int (xs 1), .ref o, .int r_6]) rfl ?_
  refine lv_aload_n hx hb dL_law_1247 rfl (lv_at hl 0 rfl) ?_
  refine lv_iload_n hx hb dL_law_1248 rfl (lv_at hl 3 rfl) ?_
  refine lv_iconst (v := 3) hx hb dL_law_1249 (by decide) ?_
  refine lv_iadd hx hb dL_law_1250 ?_
  refine lv_topi (fun k_9 ek_9 => ?_)
  obtain rfl : k_9 = 3 := ek_9.trans (by decide)
  refine va_sld hx hb hX hbl hbA h.2.2.2.1 (vp_in_nI (n := 3) (N := 6) (by decide) (by decide)) dL_law_1251 ?_
  refine W.eq (g2 := F0 m 1252 ls [.int (xs 3), .int (xs 2), .int (xs 1), .ref o, .int r_6]) rfl ?_
  refine m_cli (wr := []) h (m_rV (ci := 12) (q0 := 0) (As := [.int (xs 1), .int (xs 2), .int (xs 3)]) (rest := [.int r_6]) C0 h (c_X12_bestCorner l G o r (xs 1) (xs 2) (xs 3)) k_X12_bestCorner q_1985 q_1986 q_1984 rfl rfl rfl [0, 1] (by decide) rfl hl.1 rfl rfl (Nat.le_of_ble_eq_true rfl) dL_law_1252 ⟨Nat.le_of_ble_eq_true rfl, Nat.le_of_ble_eq_true rfl⟩ ⟨Nat.le_of_ble_eq_true rfl, Nat.le_of_ble_eq_true rfl⟩) [0, 1] [] rfl rfl (by decide) (by decide) (fun r_12 u_10 H locs hp_11 h => ?_)
  have h : Wd G A s _ _ [] := h
  refine lv_icmp_eq (tgt := 1727) hx hb dL_law_1255 (by decide) (fun _ => ?_) (fun c_13 => absurd (hp_5.trans hp_11.symm) c_13)
  refine W.widen (k := 600000) (n := 7302250) (Nat.le_of_ble_eq_true rfl) (Nat.le_of_ble_eq_true rfl) ?_
  exact law_tail C0 hX hbl hbA hAs G h (lv_sub hl [0, 1, 2, 3] rfl)
set_option maxHeartbeats 4000000 in
set_option maxRecDepth 100000 in
theorem law_case_29 {p : Program} {l : Launch} {e : Env} {s : State} {m : MethodId} {below : List Frame} {meth : Method} {c : Code} {b : Nat} {xs : Nat → Int32} {A : Nat → Prop} (C0 : Cx p s m #[Value.ref b] meth c RL cL_law 4 (some .boolean)) (hX : va_X b 6 xs s s.heap) (hbl : b < s.heap.size) (hbA : ¬ A b) (hAs : ∀ q : Nat, A q → s.heap.size ≤ q) (G : GG) (x o : Nat) (ad : Nat → Nat → Nat) (pf : Nat → Option Nat) (hpf : pf 0 = some (ad 7 7)) (r : Nat → Nat) {H : Heap} {locs : List Loc} {ls : Array Slot} (h : Wd G A s H locs (xW G x ad pf ++ mW G o r)) (hl : lv_has ls 4 [(0, .ref b), (1, .ref x), (2, .ref o), (3, .int 0)]) : W p l e room_1 s m #[Value.ref b] below meth c H locs 1000 200000 (lw_Z below #[Value.ref b] s) (F0 m 1260 ls []) := by
  obtain ⟨hx, hb, hml, hown, hts, -⟩ := id C0
  refine lv_aload_n hx hb dL_law_1260 rfl (lv_at hl 1 rfl) ?_
  refine lv_aload_n hx hb dL_law_1261 rfl (lv_at hl 0 rfl) ?_
  refine lv_iload_n hx hb dL_law_1262 rfl (lv_at hl 3 rfl) ?_
  refine lv_iconst (v := 1) hx hb dL_law_1263 (by decide) ?_
  refine lv_iadd hx hb dL_law_1264 ?_
  refine lv_topi (fun k_1 ek_1 => ?_)
  obtain rfl : k_1 = 1 := ek_1.trans (by decide)
  refine va_sld hx hb hX hbl hbA h.2.2.2.1 (vp_in_nI (n := 1) (N := 6) (by decide) (by decide)) dL_law_1265 ?_
  refine W.eq (g2 := F0 m 1266 ls [.int (xs 1), .ref x]) rfl ?_
  refine lv_aload_n hx hb dL_law_1266 rfl (lv_at hl 0 rfl) ?_
  refine lv_iload_n hx hb dL_law_1267 rfl (lv_at hl 3 rfl) ?_
  refine lv_iconst (v := 2) hx hb dL_law_1268 (by decide) ?_
  refine lv_iadd hx hb dL_law_1269 ?_
  refine lv_topi (fun k_2 ek_2 => ?_)
  obtain rfl : k_2 = 2 := ek_2.trans (by decide)
  refine va_sld hx hb hX hbl hbA h.2.2.2.1 (vp_in_nI (n := 2) (N := 6) (by decide) (by decide)) dL_law_1270 ?_
  refine W.eq (g2 := F0 m 1271 ls [.int (xs 2), .int (xs 1), .ref x]) rfl ?_
  refine lv_aload_n hx hb dL_law_1271 rfl (lv_at hl 0 rfl) ?_
  refine lv_iload_n hx hb dL_law_1272 rfl (lv_at hl 3 rfl) ?_
  refine lv_iconst (v := 3) hx hb dL_law_1273 (by decide) ?_
  refine lv_iadd hx hb dL_law_1274 ?_
  refine lv_topi (fun k_3 ek_3 => ?_)
  obtain rfl : k_3 = 3 := ek_3.trans (by decide)
  refine va_sld hx hb hX hbl hbA h.2.2.2.1 (vp_in_nI (n := 3) (N := 6) (by decide) (by decide)) dL_law_1275 ?_
  refine W.eq (g2 := F0 m 1276 ls [.int (xs 3), .int (xs 2), .int (xs 1), .ref x]) rfl ?_
  refine m_cli (wr := (mW G o r)) h (m_rV (ci := 11) (q0 := 0) (As := [.int (xs 1), .int (xs 2), .int (xs 3)]) (rest := []) C0 h (c_X11_dealing l G x (ad 0) (ad 1) (xs 1) (xs 2) (xs 3)) k_X11_dealing q_1331 q_1332 q_1330 rfl rfl rfl [0, 26, 31] (by decide) rfl hl.1 rfl rfl (Nat.le_of_ble_eq_true rfl) dL_law_1276 ⟨Nat.le_of_ble_eq_true rfl, Nat.le_of_ble_eq_true rfl⟩ ⟨Nat.le_of_ble_eq_true rfl, Nat.le_of_ble_eq_true rfl⟩) [0, 26, 31] [86, 87, 88, 89, 90, 91, 92, 93, 94] rfl rfl (by decide) (by decide) (fun r_6 u_4 H locs hp_5 h => ?_)
  have h : Wd G A s _ _ (mW G o r) := h
  refine lv_aload_n hx hb dL_law_1279 rfl (lv_at hl 2 rfl) ?_
  refine lv_aload_n hx hb dL_law_1280 rfl (lv_at hl 0 rfl) ?_
  refine lv_iload_n hx hb dL_law_1281 rfl (lv_at hl 3 rfl) ?_
  refine lv_iconst (v := 1) hx hb dL_law_1282 (by decide) ?_
  refine lv_iadd hx hb dL_law_1283 ?_
  refine lv_topi (fun k_7 ek_7 => ?_)
  obtain rfl : k_7 = 1 := ek_7.trans (by decide)
  refine va_sld hx hb hX hbl hbA h.2.2.2.1 (vp_in_nI (n := 1) (N := 6) (by decide) (by decide)) dL_law_1284 ?_
  refine W.eq (g2 := F0 m 1285 ls [.int (xs 1), .ref o, .int r_6]) rfl ?_
  refine lv_aload_n hx hb dL_law_1285 rfl (lv_at hl 0 rfl) ?_
  refine lv_iload_n hx hb dL_law_1286 rfl (lv_at hl 3 rfl) ?_
  refine lv_iconst (v := 2) hx hb dL_law_1287 (by decide) ?_
  refine lv_iadd hx hb dL_law_1288 ?_
  refine lv_topi (fun k_8 ek_8 => ?_)
  obtain rfl : k_8 = 2 := ek_8.trans (by decide)
  refine va_sld hx hb hX hbl hbA h.2.2.2.1 (vp_in_nI (n := 2) (N := 6) (by decide) (by decide)) dL_law_1289 ?_
  refine W.eq (g2 := F0 m 1290 ls [.int (xs 2), .int (xs 1), .ref o, .int r_6]) rfl ?_
  refine lv_aload_n hx hb dL_law_1290 rfl (lv_at hl 0 rfl) ?_
  refine lv_iload_n hx hb dL_law_1291 rfl (lv_at hl 3 rfl) ?_
  refine lv_iconst (v := 3) hx hb dL_law_1292 (by decide) ?_
  refine lv_iadd hx hb dL_law_1293 ?_
  refine lv_topi (fun k_9 ek_9 => ?_)
  obtain rfl : k_9 = 3 := ek_9.trans (by decide)
  refine va_sld hx hb hX hbl hbA h.2.2.2.1 (vp_in_nI (n := 3) (N := 6) (by decide) (by decide)) dL_law_1294 ?_
  refine W.eq (g2 := F0 m 1295 ls [.int (xs 3), .int (xs 2), .int (xs 1), .ref o, .int r_6]) rfl ?_
  refine m_cli (wr := []) h (m_rV (ci := 12) (q0 := 0) (As := [.int (xs 1), .int (xs 2), .int (xs 3)]) (rest := [.int r_6]) C0 h (c_X12_dealing l G o r (xs 1) (xs 2) (xs 3)) k_X12_dealing q_1990 q_1991 q_1989 rfl rfl rfl [0, 1] (by decide) rfl hl.1 rfl rfl (Nat.le_of_ble_eq_true rfl) dL_law_1295 ⟨Nat.le_of_ble_eq_true rfl, Nat.le_of_ble_eq_true rfl⟩ ⟨Nat.le_of_ble_eq_true rfl, Nat.le_of_ble_eq_true rfl⟩) [0, 1] [] rfl rfl (by decide) (by decide) (fun r_12 u_10 H locs hp_11 h => ?_)
  have h : Wd G A s _ _ [] := h
  refine lv_icmp_eq (tgt := 1727) hx hb dL_law_1298 (by decide) (fun _ => ?_) (fun c_13 => absurd (hp_5.trans hp_11.symm) c_13)
  refine W.widen (k := 600000) (n := 7302250) (Nat.le_of_ble_eq_true rfl) (Nat.le_of_ble_eq_true rfl) ?_
  exact law_tail C0 hX hbl hbA hAs G h (lv_sub hl [0, 1, 2, 3] rfl)
set_option maxHeartbeats 4000000 in
set_option maxRecDepth 100000 in
theorem law_case_30 {p : Program} {l : Launch} {e : Env} {s : State} {m : MethodId} {below : List Frame} {meth : Method} {c : Code} {b : Nat} {xs : Nat → Int32} {A : Nat → Prop} (C0 : Cx p s m #[Value.ref b] meth c RL cL_law 4 (some .boolean)) (hX : va_X b 6 xs s s.heap) (hbl : b < s.heap.size) (hbA : ¬ A b) (hAs : ∀ q : Nat, A q → s.heap.size ≤ q) (G : GG) (x o : Nat) (ad : Nat → Nat → Nat) (pf : Nat → Option Nat) (hpf : pf 0 = some (ad 7 7)) (r : Nat → Nat) {H : Heap} {locs : List Loc} {ls : Array Slot} (h : Wd G A s H locs (xW G x ad pf ++ mW G o r)) (hl : lv_has ls 4 [(0, .ref b), (1, .ref x), (2, .ref o), (3, .int 0)]) : W p l e room_1 s m #[Value.ref b] below meth c H locs 1000 200000 (lw_Z below #[Value.ref b] s) (F0 m 1303 ls []) := by
  obtain ⟨hx, hb, hml, hown, hts, -⟩ := id C0
  refine lv_aload_n hx hb dL_law_1303 rfl (lv_at hl 1 rfl) ?_
  refine m_cli (wr := (mW G o r)) h (m_rV (ci := 11) (q0 := 0) (As := []) (rest := []) C0 h (c_X11_cheap l G x (ad 0) (ad 1)) k_X11_cheap q_1335 q_1336 q_1334 rfl rfl rfl [0, 26, 31] (by decide) rfl hl.1 rfl rfl (Nat.le_of_ble_eq_true rfl) dL_law_1304 ⟨Nat.le_of_ble_eq_true rfl, Nat.le_of_ble_eq_true rfl⟩ ⟨Nat.le_of_ble_eq_true rfl, Nat.le_of_ble_eq_true rfl⟩) [0, 26, 31] [86, 87, 88, 89, 90, 91, 92, 93, 94] rfl rfl (by decide) (by decide) (fun r_3 u_1 H locs hp_2 h => ?_)
  have h : Wd G A s _ _ (mW G o r) := h
  refine lv_aload_n hx hb dL_law_1307 rfl (lv_at hl 2 rfl) ?_
  refine m_cli (wr := []) h (m_rV (ci := 12) (q0 := 0) (As := []) (rest := [.int r_3]) C0 h (c_X12_cheap l G o r) k_X12_cheap q_1994 q_1995 q_1993 rfl rfl rfl [0, 1] (by decide) rfl hl.1 rfl rfl (Nat.le_of_ble_eq_true rfl) dL_law_1308 ⟨Nat.le_of_ble_eq_true rfl, Nat.le_of_ble_eq_true rfl⟩ ⟨Nat.le_of_ble_eq_true rfl, Nat.le_of_ble_eq_true rfl⟩) [0, 1] [] rfl rfl (by decide) (by decide) (fun r_6 u_4 H locs hp_5 h => ?_)
  have h : Wd G A s _ _ [] := h
  refine lv_icmp_eq (tgt := 1727) hx hb dL_law_1311 (by decide) (fun _ => ?_) (fun c_7 => absurd (hp_2.trans hp_5.symm) c_7)
  refine W.widen (k := 600000) (n := 7302250) (Nat.le_of_ble_eq_true rfl) (Nat.le_of_ble_eq_true rfl) ?_
  exact law_tail C0 hX hbl hbA hAs G h (lv_sub hl [0, 1, 2, 3] rfl)
set_option maxHeartbeats 4000000 in
set_option maxRecDepth 100000 in
theorem law_case_31 {p : Program} {l : Launch} {e : Env} {s : State} {m : MethodId} {below : List Frame} {meth : Method} {c : Code} {b : Nat} {xs : Nat → Int32} {A : Nat → Prop} (C0 : Cx p s m #[Value.ref b] meth c RL cL_law 4 (some .boolean)) (hX : va_X b 6 xs s s.heap) (hbl : b < s.heap.size) (hbA : ¬ A b) (hAs : ∀ q : Nat, A q → s.heap.size ≤ q) (G : GG) (x o : Nat) (ad : Nat → Nat → Nat) (pf : Nat → Option Nat) (hpf : pf 0 = some (ad 7 7)) (r : Nat → Nat) {H : Heap} {locs : List Loc} {ls : Array Slot} (h : Wd G A s H locs (xW G x ad pf ++ mW G o r)) (hl : lv_has ls 4 [(0, .ref b), (1, .ref x), (2, .ref o), (3, .int 0)]) : W p l e room_1 s m #[Value.ref b] below meth c H locs 1000 200000 (lw_Z below #[Value.ref b] s) (F0 m 1316 ls []) := by
  obtain ⟨hx, hb, hml, hown, hts, -⟩ := id C0
  refine lv_aload_n hx hb dL_law_1316 rfl (lv_at hl 1 rfl) ?_
  refine lv_aload_n hx hb dL_law_1317 rfl (lv_at hl 0 rfl) ?_
  refine lv_iload_n hx hb dL_law_1318 rfl (lv_at hl 3 rfl) ?_
  refine lv_iconst (v := 1) hx hb dL_law_1319 (by decide) ?_
  refine lv_iadd hx hb dL_law_1320 ?_
  refine lv_topi (fun k_1 ek_1 => ?_)
  obtain rfl : k_1 = 1 := ek_1.trans (by decide)
  refine va_sld hx hb hX hbl hbA h.2.2.2.1 (vp_in_nI (n := 1) (N := 6) (by decide) (by decide)) dL_law_1321 ?_
  refine W.eq (g2 := F0 m 1322 ls [.int (xs 1), .ref x]) rfl ?_
  refine m_cli (wr := (mW G o r)) h (m_rV (ci := 11) (q0 := 0) (As := [.int (xs 1)]) (rest := []) C0 h (c_X11_affords l G x (ad 0) (ad 1) (xs 1)) k_X11_affords q_1339 q_1340 q_1338 rfl rfl rfl [0, 26, 31] (by decide) rfl hl.1 rfl rfl (Nat.le_of_ble_eq_true rfl) dL_law_1322 ⟨Nat.le_of_ble_eq_true rfl, Nat.le_of_ble_eq_true rfl⟩ ⟨Nat.le_of_ble_eq_true rfl, Nat.le_of_ble_eq_true rfl⟩) [0, 26, 31] [86, 87, 88, 89, 90, 91, 92, 93, 94] rfl rfl (by decide) (by decide) (fun r_4 u_2 H locs hp_3 h => ?_)
  have h : Wd G A s _ _ (mW G o r) := h
  refine lv_aload_n hx hb dL_law_1325 rfl (lv_at hl 2 rfl) ?_
  refine lv_aload_n hx hb dL_law_1326 rfl (lv_at hl 0 rfl) ?_
  refine lv_iload_n hx hb dL_law_1327 rfl (lv_at hl 3 rfl) ?_
  refine lv_iconst (v := 1) hx hb dL_law_1328 (by decide) ?_
  refine lv_iadd hx hb dL_law_1329 ?_
  refine lv_topi (fun k_5 ek_5 => ?_)
  obtain rfl : k_5 = 1 := ek_5.trans (by decide)
  refine va_sld hx hb hX hbl hbA h.2.2.2.1 (vp_in_nI (n := 1) (N := 6) (by decide) (by decide)) dL_law_1330 ?_
  refine W.eq (g2 := F0 m 1331 ls [.int (xs 1), .ref o, .int r_4]) rfl ?_
  refine m_cli (wr := []) h (m_rV (ci := 12) (q0 := 0) (As := [.int (xs 1)]) (rest := [.int r_4]) C0 h (c_X12_affords l G o r (xs 1)) k_X12_affords q_1998 q_1999 q_1997 rfl rfl rfl [0, 1] (by decide) rfl hl.1 rfl rfl (Nat.le_of_ble_eq_true rfl) dL_law_1331 ⟨Nat.le_of_ble_eq_true rfl, Nat.le_of_ble_eq_true rfl⟩ ⟨Nat.le_of_ble_eq_true rfl, Nat.le_of_ble_eq_true rfl⟩) [0, 1] [] rfl rfl (by decide) (by decide) (fun r_8 u_6 H locs hp_7 h => ?_)
  have h : Wd G A s _ _ [] := h
  refine lv_icmp_eq (tgt := 1727) hx hb dL_law_1334 (by decide) (fun _ => ?_) (fun c_9 => absurd (hp_3.trans hp_7.symm) c_9)
  refine W.widen (k := 600000) (n := 7302250) (Nat.le_of_ble_eq_true rfl) (Nat.le_of_ble_eq_true rfl) ?_
  exact law_tail C0 hX hbl hbA hAs G h (lv_sub hl [0, 1, 2, 3] rfl)
set_option maxHeartbeats 4000000 in
set_option maxRecDepth 100000 in
theorem law_case_32 {p : Program} {l : Launch} {e : Env} {s : State} {m : MethodId} {below : List Frame} {meth : Method} {c : Code} {b : Nat} {xs : Nat → Int32} {A : Nat → Prop} (C0 : Cx p s m #[Value.ref b] meth c RL cL_law 4 (some .boolean)) (hX : va_X b 6 xs s s.heap) (hbl : b < s.heap.size) (hbA : ¬ A b) (hAs : ∀ q : Nat, A q → s.heap.size ≤ q) (G : GG) (x o : Nat) (ad : Nat → Nat → Nat) (pf : Nat → Option Nat) (hpf : pf 0 = some (ad 7 7)) (r : Nat → Nat) {H : Heap} {locs : List Loc} {ls : Array Slot} (h : Wd G A s H locs (xW G x ad pf ++ mW G o r)) (hl : lv_has ls 4 [(0, .ref b), (1, .ref x), (2, .ref o), (3, .int 0)]) : W p l e room_1 s m #[Value.ref b] below meth c H locs 1000 200000 (lw_Z below #[Value.ref b] s) (F0 m 1339 ls []) := by
  obtain ⟨hx, hb, hml, hown, hts, -⟩ := id C0
  refine lv_aload_n hx hb dL_law_1339 rfl (lv_at hl 1 rfl) ?_
  refine lv_aload_n hx hb dL_law_1340 rfl (lv_at hl 0 rfl) ?_
  refine lv_iload_n hx hb dL_law_1341 rfl (lv_at hl 3 rfl) ?_
  refine lv_iconst (v := 1) hx hb dL_law_1342 (by decide) ?_
  refine lv_iadd hx hb dL_law_1343 ?_
  refine lv_topi (fun k_1 ek_1 => ?_)
  obtain rfl : k_1 = 1 := ek_1.trans (by decide)
  refine va_sld hx hb hX hbl hbA h.2.2.2.1 (vp_in_nI (n := 1) (N := 6) (by decide) (by decide)) dL_law_1344 ?_
  refine W.eq (g2 := F0 m 1345 ls [.int (xs 1), .ref x]) rfl ?_
  refine lv_aload_n hx hb dL_law_1345 rfl (lv_at hl 0 rfl) ?_
  refine lv_iload_n hx hb dL_law_1346 rfl (lv_at hl 3 rfl) ?_
  refine lv_iconst (v := 2) hx hb dL_law_1347 (by decide) ?_
  refine lv_iadd hx hb dL_law_1348 ?_
  refine lv_topi (fun k_2 ek_2 => ?_)
  obtain rfl : k_2 = 2 := ek_2.trans (by decide)
  refine va_sld hx hb hX hbl hbA h.2.2.2.1 (vp_in_nI (n := 2) (N := 6) (by decide) (by decide)) dL_law_1349 ?_
  refine W.eq (g2 := F0 m 1350 ls [.int (xs 2), .int (xs 1), .ref x]) rfl ?_
  refine lv_aload_n hx hb dL_law_1350 rfl (lv_at hl 0 rfl) ?_
  refine lv_iload_n hx hb dL_law_1351 rfl (lv_at hl 3 rfl) ?_
  refine lv_iconst (v := 3) hx hb dL_law_1352 (by decide) ?_
  refine lv_iadd hx hb dL_law_1353 ?_
  refine lv_topi (fun k_3 ek_3 => ?_)
  obtain rfl : k_3 = 3 := ek_3.trans (by decide)
  refine va_sld hx hb hX hbl hbA h.2.2.2.1 (vp_in_nI (n := 3) (N := 6) (by decide) (by decide)) dL_law_1354 ?_
  refine W.eq (g2 := F0 m 1355 ls [.int (xs 3), .int (xs 2), .int (xs 1), .ref x]) rfl ?_
  refine m_cli (wr := (mW G o r)) h (m_rV (ci := 11) (q0 := 0) (As := [.int (xs 1), .int (xs 2), .int (xs 3)]) (rest := []) C0 h (c_X11_found l G x (ad 0) (ad 1) (xs 1) (xs 2) (xs 3)) k_X11_found q_1343 q_1344 q_1342 rfl rfl rfl [0, 26, 31] (by decide) rfl hl.1 rfl rfl (Nat.le_of_ble_eq_true rfl) dL_law_1355 ⟨Nat.le_of_ble_eq_true rfl, Nat.le_of_ble_eq_true rfl⟩ ⟨Nat.le_of_ble_eq_true rfl, Nat.le_of_ble_eq_true rfl⟩) [0, 26, 31] [86, 87, 88, 89, 90, 91, 92, 93, 94] rfl rfl (by decide) (by decide) (fun r_6 u_4 H locs hp_5 h => ?_)
  have h : Wd G A s _ _ (mW G o r) := h
  refine lv_aload_n hx hb dL_law_1358 rfl (lv_at hl 2 rfl) ?_
  refine lv_aload_n hx hb dL_law_1359 rfl (lv_at hl 0 rfl) ?_
  refine lv_iload_n hx hb dL_law_1360 rfl (lv_at hl 3 rfl) ?_
  refine lv_iconst (v := 1) hx hb dL_law_1361 (by decide) ?_
  refine lv_iadd hx hb dL_law_1362 ?_
  refine lv_topi (fun k_7 ek_7 => ?_)
  obtain rfl : k_7 = 1 := ek_7.trans (by decide)
  refine va_sld hx hb hX hbl hbA h.2.2.2.1 (vp_in_nI (n := 1) (N := 6) (by decide) (by decide)) dL_law_1363 ?_
  refine W.eq (g2 := F0 m 1364 ls [.int (xs 1), .ref o, .int r_6]) rfl ?_
  refine lv_aload_n hx hb dL_law_1364 rfl (lv_at hl 0 rfl) ?_
  refine lv_iload_n hx hb dL_law_1365 rfl (lv_at hl 3 rfl) ?_
  refine lv_iconst (v := 2) hx hb dL_law_1366 (by decide) ?_
  refine lv_iadd hx hb dL_law_1367 ?_
  refine lv_topi (fun k_8 ek_8 => ?_)
  obtain rfl : k_8 = 2 := ek_8.trans (by decide)
  refine va_sld hx hb hX hbl hbA h.2.2.2.1 (vp_in_nI (n := 2) (N := 6) (by decide) (by decide)) dL_law_1368 ?_
  refine W.eq (g2 := F0 m 1369 ls [.int (xs 2), .int (xs 1), .ref o, .int r_6]) rfl ?_
  refine lv_aload_n hx hb dL_law_1369 rfl (lv_at hl 0 rfl) ?_
  refine lv_iload_n hx hb dL_law_1370 rfl (lv_at hl 3 rfl) ?_
  refine lv_iconst (v := 3) hx hb dL_law_1371 (by decide) ?_
  refine lv_iadd hx hb dL_law_1372 ?_
  refine lv_topi (fun k_9 ek_9 => ?_)
  obtain rfl : k_9 = 3 := ek_9.trans (by decide)
  refine va_sld hx hb hX hbl hbA h.2.2.2.1 (vp_in_nI (n := 3) (N := 6) (by decide) (by decide)) dL_law_1373 ?_
  refine W.eq (g2 := F0 m 1374 ls [.int (xs 3), .int (xs 2), .int (xs 1), .ref o, .int r_6]) rfl ?_
  refine m_cli (wr := []) h (m_rV (ci := 12) (q0 := 0) (As := [.int (xs 1), .int (xs 2), .int (xs 3)]) (rest := [.int r_6]) C0 h (c_X12_found l G o r (xs 1) (xs 2) (xs 3)) k_X12_found q_2002 q_2003 q_2001 rfl rfl rfl [0, 1] (by decide) rfl hl.1 rfl rfl (Nat.le_of_ble_eq_true rfl) dL_law_1374 ⟨Nat.le_of_ble_eq_true rfl, Nat.le_of_ble_eq_true rfl⟩ ⟨Nat.le_of_ble_eq_true rfl, Nat.le_of_ble_eq_true rfl⟩) [0, 1] [] rfl rfl (by decide) (by decide) (fun r_12 u_10 H locs hp_11 h => ?_)
  have h : Wd G A s _ _ [] := h
  refine lv_icmp_eq (tgt := 1727) hx hb dL_law_1377 (by decide) (fun _ => ?_) (fun c_13 => absurd (hp_5.trans hp_11.symm) c_13)
  refine W.widen (k := 600000) (n := 7302250) (Nat.le_of_ble_eq_true rfl) (Nat.le_of_ble_eq_true rfl) ?_
  exact law_tail C0 hX hbl hbA hAs G h (lv_sub hl [0, 1, 2, 3] rfl)
set_option maxHeartbeats 4000000 in
set_option maxRecDepth 100000 in
theorem law_case_33 {p : Program} {l : Launch} {e : Env} {s : State} {m : MethodId} {below : List Frame} {meth : Method} {c : Code} {b : Nat} {xs : Nat → Int32} {A : Nat → Prop} (C0 : Cx p s m #[Value.ref b] meth c RL cL_law 4 (some .boolean)) (hX : va_X b 6 xs s s.heap) (hbl : b < s.heap.size) (hbA : ¬ A b) (hAs : ∀ q : Nat, A q → s.heap.size ≤ q) (G : GG) (x o : Nat) (ad : Nat → Nat → Nat) (pf : Nat → Option Nat) (hpf : pf 0 = some (ad 7 7)) (r : Nat → Nat) {H : Heap} {locs : List Loc} {ls : Array Slot} (h : Wd G A s H locs (xW G x ad pf ++ mW G o r)) (hl : lv_has ls 4 [(0, .ref b), (1, .ref x), (2, .ref o), (3, .int 0)]) : W p l e room_1 s m #[Value.ref b] below meth c H locs 1000 200000 (lw_Z below #[Value.ref b] s) (F0 m 1382 ls []) := by
  obtain ⟨hx, hb, hml, hown, hts, -⟩ := id C0
  refine lv_aload_n hx hb dL_law_1382 rfl (lv_at hl 1 rfl) ?_
  refine lv_aload_n hx hb dL_law_1383 rfl (lv_at hl 0 rfl) ?_
  refine lv_iload_n hx hb dL_law_1384 rfl (lv_at hl 3 rfl) ?_
  refine lv_iconst (v := 1) hx hb dL_law_1385 (by decide) ?_
  refine lv_iadd hx hb dL_law_1386 ?_
  refine lv_topi (fun k_1 ek_1 => ?_)
  obtain rfl : k_1 = 1 := ek_1.trans (by decide)
  refine va_sld hx hb hX hbl hbA h.2.2.2.1 (vp_in_nI (n := 1) (N := 6) (by decide) (by decide)) dL_law_1387 ?_
  refine W.eq (g2 := F0 m 1388 ls [.int (xs 1), .ref x]) rfl ?_
  refine lv_aload_n hx hb dL_law_1388 rfl (lv_at hl 0 rfl) ?_
  refine lv_iload_n hx hb dL_law_1389 rfl (lv_at hl 3 rfl) ?_
  refine lv_iconst (v := 2) hx hb dL_law_1390 (by decide) ?_
  refine lv_iadd hx hb dL_law_1391 ?_
  refine lv_topi (fun k_2 ek_2 => ?_)
  obtain rfl : k_2 = 2 := ek_2.trans (by decide)
  refine va_sld hx hb hX hbl hbA h.2.2.2.1 (vp_in_nI (n := 2) (N := 6) (by decide) (by decide)) dL_law_1392 ?_
  refine W.eq (g2 := F0 m 1393 ls [.int (xs 2), .int (xs 1), .ref x]) rfl ?_
  refine lv_aload_n hx hb dL_law_1393 rfl (lv_at hl 0 rfl) ?_
  refine lv_iload_n hx hb dL_law_1394 rfl (lv_at hl 3 rfl) ?_
  refine lv_iconst (v := 3) hx hb dL_law_1395 (by decide) ?_
  refine lv_iadd hx hb dL_law_1396 ?_
  refine lv_topi (fun k_3 ek_3 => ?_)
  obtain rfl : k_3 = 3 := ek_3.trans (by decide)
  refine va_sld hx hb hX hbl hbA h.2.2.2.1 (vp_in_nI (n := 3) (N := 6) (by decide) (by decide)) dL_law_1397 ?_
  refine W.eq (g2 := F0 m 1398 ls [.int (xs 3), .int (xs 2), .int (xs 1), .ref x]) rfl ?_
  refine lv_aload_n hx hb dL_law_1398 rfl (lv_at hl 0 rfl) ?_
  refine lv_iload_n hx hb dL_law_1399 rfl (lv_at hl 3 rfl) ?_
  refine lv_iconst (v := 4) hx hb dL_law_1400 (by decide) ?_
  refine lv_iadd hx hb dL_law_1401 ?_
  refine lv_topi (fun k_4 ek_4 => ?_)
  obtain rfl : k_4 = 4 := ek_4.trans (by decide)
  refine va_sld hx hb hX hbl hbA h.2.2.2.1 (vp_in_nI (n := 4) (N := 6) (by decide) (by decide)) dL_law_1402 ?_
  refine W.eq (g2 := F0 m 1403 ls [.int (xs 4), .int (xs 3), .int (xs 2), .int (xs 1), .ref x]) rfl ?_
  refine m_cli (wr := (mW G o r)) h (m_rV (ci := 11) (q0 := 0) (As := [.int (xs 1), .int (xs 2), .int (xs 3), .int (xs 4)]) (rest := []) C0 h (c_X11_chase l G x (ad 0) (ad 1) (xs 1) (xs 2) (xs 3) (xs 4)) k_X11_chase q_1356 q_1357 q_1355 rfl rfl rfl [0, 26, 31] (by decide) rfl hl.1 rfl rfl (Nat.le_of_ble_eq_true rfl) dL_law_1403 ⟨Nat.le_of_ble_eq_true rfl, Nat.le_of_ble_eq_true rfl⟩ ⟨Nat.le_of_ble_eq_true rfl, Nat.le_of_ble_eq_true rfl⟩) [0, 26, 31] [86, 87, 88, 89, 90, 91, 92, 93, 94] rfl rfl (by decide) (by decide) (fun r_7 u_5 H locs hp_6 h => ?_)
  have h : Wd G A s _ _ (mW G o r) := h
  refine lv_aload_n hx hb dL_law_1406 rfl (lv_at hl 2 rfl) ?_
  refine lv_aload_n hx hb dL_law_1407 rfl (lv_at hl 0 rfl) ?_
  refine lv_iload_n hx hb dL_law_1408 rfl (lv_at hl 3 rfl) ?_
  refine lv_iconst (v := 1) hx hb dL_law_1409 (by decide) ?_
  refine lv_iadd hx hb dL_law_1410 ?_
  refine lv_topi (fun k_8 ek_8 => ?_)
  obtain rfl : k_8 = 1 := ek_8.trans (by decide)
  refine va_sld hx hb hX hbl hbA h.2.2.2.1 (vp_in_nI (n := 1) (N := 6) (by decide) (by decide)) dL_law_1411 ?_
  refine W.eq (g2 := F0 m 1412 ls [.int (xs 1), .ref o, .int r_7]) rfl ?_
  refine lv_aload_n hx hb dL_law_1412 rfl (lv_at hl 0 rfl) ?_
  refine lv_iload_n hx hb dL_law_1413 rfl (lv_at hl 3 rfl) ?_
  refine lv_iconst (v := 2) hx hb dL_law_1414 (by decide) ?_
  refine lv_iadd hx hb dL_law_1415 ?_
  refine lv_topi (fun k_9 ek_9 => ?_)
  obtain rfl : k_9 = 2 := ek_9.trans (by decide)
  refine va_sld hx hb hX hbl hbA h.2.2.2.1 (vp_in_nI (n := 2) (N := 6) (by decide) (by decide)) dL_law_1416 ?_
  refine W.eq (g2 := F0 m 1417 ls [.int (xs 2), .int (xs 1), .ref o, .int r_7]) rfl ?_
  refine lv_aload_n hx hb dL_law_1417 rfl (lv_at hl 0 rfl) ?_
  refine lv_iload_n hx hb dL_law_1418 rfl (lv_at hl 3 rfl) ?_
  refine lv_iconst (v := 3) hx hb dL_law_1419 (by decide) ?_
  refine lv_iadd hx hb dL_law_1420 ?_
  refine lv_topi (fun k_10 ek_10 => ?_)
  obtain rfl : k_10 = 3 := ek_10.trans (by decide)
  refine va_sld hx hb hX hbl hbA h.2.2.2.1 (vp_in_nI (n := 3) (N := 6) (by decide) (by decide)) dL_law_1421 ?_
  refine W.eq (g2 := F0 m 1422 ls [.int (xs 3), .int (xs 2), .int (xs 1), .ref o, .int r_7]) rfl ?_
  refine lv_aload_n hx hb dL_law_1422 rfl (lv_at hl 0 rfl) ?_
  refine lv_iload_n hx hb dL_law_1423 rfl (lv_at hl 3 rfl) ?_
  refine lv_iconst (v := 4) hx hb dL_law_1424 (by decide) ?_
  refine lv_iadd hx hb dL_law_1425 ?_
  refine lv_topi (fun k_11 ek_11 => ?_)
  obtain rfl : k_11 = 4 := ek_11.trans (by decide)
  refine va_sld hx hb hX hbl hbA h.2.2.2.1 (vp_in_nI (n := 4) (N := 6) (by decide) (by decide)) dL_law_1426 ?_
  refine W.eq (g2 := F0 m 1427 ls [.int (xs 4), .int (xs 3), .int (xs 2), .int (xs 1), .ref o, .int r_7]) rfl ?_
  refine m_cli (wr := []) h (m_rV (ci := 12) (q0 := 0) (As := [.int (xs 1), .int (xs 2), .int (xs 3), .int (xs 4)]) (rest := [.int r_7]) C0 h (c_X12_chase l G o r (xs 1) (xs 2) (xs 3) (xs 4)) k_X12_chase q_2014 q_2015 q_2013 rfl rfl rfl [0, 1] (by decide) rfl hl.1 rfl rfl (Nat.le_of_ble_eq_true rfl) dL_law_1427 ⟨Nat.le_of_ble_eq_true rfl, Nat.le_of_ble_eq_true rfl⟩ ⟨Nat.le_of_ble_eq_true rfl, Nat.le_of_ble_eq_true rfl⟩) [0, 1] [] rfl rfl (by decide) (by decide) (fun r_14 u_12 H locs hp_13 h => ?_)
  have h : Wd G A s _ _ [] := h
  refine lv_icmp_eq (tgt := 1727) hx hb dL_law_1430 (by decide) (fun _ => ?_) (fun c_15 => absurd (hp_6.trans hp_13.symm) c_15)
  refine W.widen (k := 600000) (n := 7302250) (Nat.le_of_ble_eq_true rfl) (Nat.le_of_ble_eq_true rfl) ?_
  exact law_tail C0 hX hbl hbA hAs G h (lv_sub hl [0, 1, 2, 3] rfl)
set_option maxHeartbeats 4000000 in
set_option maxRecDepth 100000 in
theorem law_case_34 {p : Program} {l : Launch} {e : Env} {s : State} {m : MethodId} {below : List Frame} {meth : Method} {c : Code} {b : Nat} {xs : Nat → Int32} {A : Nat → Prop} (C0 : Cx p s m #[Value.ref b] meth c RL cL_law 4 (some .boolean)) (hX : va_X b 6 xs s s.heap) (hbl : b < s.heap.size) (hbA : ¬ A b) (hAs : ∀ q : Nat, A q → s.heap.size ≤ q) (G : GG) (x o : Nat) (ad : Nat → Nat → Nat) (pf : Nat → Option Nat) (hpf : pf 0 = some (ad 7 7)) (r : Nat → Nat) {H : Heap} {locs : List Loc} {ls : Array Slot} (h : Wd G A s H locs (xW G x ad pf ++ mW G o r)) (hl : lv_has ls 4 [(0, .ref b), (1, .ref x), (2, .ref o), (3, .int 0)]) : W p l e room_1 s m #[Value.ref b] below meth c H locs 1000 200000 (lw_Z below #[Value.ref b] s) (F0 m 1435 ls []) := by
  obtain ⟨hx, hb, hml, hown, hts, -⟩ := id C0
  refine lv_aload_n hx hb dL_law_1435 rfl (lv_at hl 1 rfl) ?_
  refine lv_aload_n hx hb dL_law_1436 rfl (lv_at hl 0 rfl) ?_
  refine lv_iload_n hx hb dL_law_1437 rfl (lv_at hl 3 rfl) ?_
  refine lv_iconst (v := 1) hx hb dL_law_1438 (by decide) ?_
  refine lv_iadd hx hb dL_law_1439 ?_
  refine lv_topi (fun k_1 ek_1 => ?_)
  obtain rfl : k_1 = 1 := ek_1.trans (by decide)
  refine va_sld hx hb hX hbl hbA h.2.2.2.1 (vp_in_nI (n := 1) (N := 6) (by decide) (by decide)) dL_law_1440 ?_
  refine W.eq (g2 := F0 m 1441 ls [.int (xs 1), .ref x]) rfl ?_
  refine lv_aload_n hx hb dL_law_1441 rfl (lv_at hl 0 rfl) ?_
  refine lv_iload_n hx hb dL_law_1442 rfl (lv_at hl 3 rfl) ?_
  refine lv_iconst (v := 2) hx hb dL_law_1443 (by decide) ?_
  refine lv_iadd hx hb dL_law_1444 ?_
  refine lv_topi (fun k_2 ek_2 => ?_)
  obtain rfl : k_2 = 2 := ek_2.trans (by decide)
  refine va_sld hx hb hX hbl hbA h.2.2.2.1 (vp_in_nI (n := 2) (N := 6) (by decide) (by decide)) dL_law_1445 ?_
  refine W.eq (g2 := F0 m 1446 ls [.int (xs 2), .int (xs 1), .ref x]) rfl ?_
  refine lv_aload_n hx hb dL_law_1446 rfl (lv_at hl 0 rfl) ?_
  refine lv_iload_n hx hb dL_law_1447 rfl (lv_at hl 3 rfl) ?_
  refine lv_iconst (v := 3) hx hb dL_law_1448 (by decide) ?_
  refine lv_iadd hx hb dL_law_1449 ?_
  refine lv_topi (fun k_3 ek_3 => ?_)
  obtain rfl : k_3 = 3 := ek_3.trans (by decide)
  refine va_sld hx hb hX hbl hbA h.2.2.2.1 (vp_in_nI (n := 3) (N := 6) (by decide) (by decide)) dL_law_1450 ?_
  refine W.eq (g2 := F0 m 1451 ls [.int (xs 3), .int (xs 2), .int (xs 1), .ref x]) rfl ?_
  refine lv_aload_n hx hb dL_law_1451 rfl (lv_at hl 0 rfl) ?_
  refine lv_iload_n hx hb dL_law_1452 rfl (lv_at hl 3 rfl) ?_
  refine lv_iconst (v := 4) hx hb dL_law_1453 (by decide) ?_
  refine lv_iadd hx hb dL_law_1454 ?_
  refine lv_topi (fun k_4 ek_4 => ?_)
  obtain rfl : k_4 = 4 := ek_4.trans (by decide)
  refine va_sld hx hb hX hbl hbA h.2.2.2.1 (vp_in_nI (n := 4) (N := 6) (by decide) (by decide)) dL_law_1455 ?_
  refine W.eq (g2 := F0 m 1456 ls [.int (xs 4), .int (xs 3), .int (xs 2), .int (xs 1), .ref x]) rfl ?_
  refine m_cli (wr := (mW G o r)) h (m_rV (ci := 11) (q0 := 0) (As := [.int (xs 1), .int (xs 2), .int (xs 3), .int (xs 4)]) (rest := []) C0 h (c_X11_posts l G x (ad 0) (ad 1) (xs 1) (xs 2) (xs 3) (xs 4)) k_X11_posts q_1380 q_1381 q_1379 rfl rfl rfl [0, 26, 31] (by decide) rfl hl.1 rfl rfl (Nat.le_of_ble_eq_true rfl) dL_law_1456 ⟨Nat.le_of_ble_eq_true rfl, Nat.le_of_ble_eq_true rfl⟩ ⟨Nat.le_of_ble_eq_true rfl, Nat.le_of_ble_eq_true rfl⟩) [0, 26, 31] [86, 87, 88, 89, 90, 91, 92, 93, 94] rfl rfl (by decide) (by decide) (fun r_7 u_5 H locs hp_6 h => ?_)
  have h : Wd G A s _ _ (mW G o r) := h
  refine lv_aload_n hx hb dL_law_1459 rfl (lv_at hl 2 rfl) ?_
  refine lv_aload_n hx hb dL_law_1460 rfl (lv_at hl 0 rfl) ?_
  refine lv_iload_n hx hb dL_law_1461 rfl (lv_at hl 3 rfl) ?_
  refine lv_iconst (v := 1) hx hb dL_law_1462 (by decide) ?_
  refine lv_iadd hx hb dL_law_1463 ?_
  refine lv_topi (fun k_8 ek_8 => ?_)
  obtain rfl : k_8 = 1 := ek_8.trans (by decide)
  refine va_sld hx hb hX hbl hbA h.2.2.2.1 (vp_in_nI (n := 1) (N := 6) (by decide) (by decide)) dL_law_1464 ?_
  refine W.eq (g2 := F0 m 1465 ls [.int (xs 1), .ref o, .int r_7]) rfl ?_
  refine lv_aload_n hx hb dL_law_1465 rfl (lv_at hl 0 rfl) ?_
  refine lv_iload_n hx hb dL_law_1466 rfl (lv_at hl 3 rfl) ?_
  refine lv_iconst (v := 2) hx hb dL_law_1467 (by decide) ?_
  refine lv_iadd hx hb dL_law_1468 ?_
  refine lv_topi (fun k_9 ek_9 => ?_)
  obtain rfl : k_9 = 2 := ek_9.trans (by decide)
  refine va_sld hx hb hX hbl hbA h.2.2.2.1 (vp_in_nI (n := 2) (N := 6) (by decide) (by decide)) dL_law_1469 ?_
  refine W.eq (g2 := F0 m 1470 ls [.int (xs 2), .int (xs 1), .ref o, .int r_7]) rfl ?_
  refine lv_aload_n hx hb dL_law_1470 rfl (lv_at hl 0 rfl) ?_
  refine lv_iload_n hx hb dL_law_1471 rfl (lv_at hl 3 rfl) ?_
  refine lv_iconst (v := 3) hx hb dL_law_1472 (by decide) ?_
  refine lv_iadd hx hb dL_law_1473 ?_
  refine lv_topi (fun k_10 ek_10 => ?_)
  obtain rfl : k_10 = 3 := ek_10.trans (by decide)
  refine va_sld hx hb hX hbl hbA h.2.2.2.1 (vp_in_nI (n := 3) (N := 6) (by decide) (by decide)) dL_law_1474 ?_
  refine W.eq (g2 := F0 m 1475 ls [.int (xs 3), .int (xs 2), .int (xs 1), .ref o, .int r_7]) rfl ?_
  refine lv_aload_n hx hb dL_law_1475 rfl (lv_at hl 0 rfl) ?_
  refine lv_iload_n hx hb dL_law_1476 rfl (lv_at hl 3 rfl) ?_
  refine lv_iconst (v := 4) hx hb dL_law_1477 (by decide) ?_
  refine lv_iadd hx hb dL_law_1478 ?_
  refine lv_topi (fun k_11 ek_11 => ?_)
  obtain rfl : k_11 = 4 := ek_11.trans (by decide)
  refine va_sld hx hb hX hbl hbA h.2.2.2.1 (vp_in_nI (n := 4) (N := 6) (by decide) (by decide)) dL_law_1479 ?_
  refine W.eq (g2 := F0 m 1480 ls [.int (xs 4), .int (xs 3), .int (xs 2), .int (xs 1), .ref o, .int r_7]) rfl ?_
  refine m_cli (wr := []) h (m_rV (ci := 12) (q0 := 0) (As := [.int (xs 1), .int (xs 2), .int (xs 3), .int (xs 4)]) (rest := [.int r_7]) C0 h (c_X12_posts l G o r (xs 1) (xs 2) (xs 3) (xs 4)) k_X12_posts q_2030 q_2031 q_2029 rfl rfl rfl [0, 1] (by decide) rfl hl.1 rfl rfl (Nat.le_of_ble_eq_true rfl) dL_law_1480 ⟨Nat.le_of_ble_eq_true rfl, Nat.le_of_ble_eq_true rfl⟩ ⟨Nat.le_of_ble_eq_true rfl, Nat.le_of_ble_eq_true rfl⟩) [0, 1] [] rfl rfl (by decide) (by decide) (fun r_14 u_12 H locs hp_13 h => ?_)
  have h : Wd G A s _ _ [] := h
  refine lv_icmp_eq (tgt := 1727) hx hb dL_law_1483 (by decide) (fun _ => ?_) (fun c_15 => absurd (hp_6.trans hp_13.symm) c_15)
  refine W.widen (k := 600000) (n := 7302250) (Nat.le_of_ble_eq_true rfl) (Nat.le_of_ble_eq_true rfl) ?_
  exact law_tail C0 hX hbl hbA hAs G h (lv_sub hl [0, 1, 2, 3] rfl)
set_option maxHeartbeats 4000000 in
set_option maxRecDepth 100000 in
theorem law_case_35 {p : Program} {l : Launch} {e : Env} {s : State} {m : MethodId} {below : List Frame} {meth : Method} {c : Code} {b : Nat} {xs : Nat → Int32} {A : Nat → Prop} (C0 : Cx p s m #[Value.ref b] meth c RL cL_law 4 (some .boolean)) (hX : va_X b 6 xs s s.heap) (hbl : b < s.heap.size) (hbA : ¬ A b) (hAs : ∀ q : Nat, A q → s.heap.size ≤ q) (G : GG) (x o : Nat) (ad : Nat → Nat → Nat) (pf : Nat → Option Nat) (hpf : pf 0 = some (ad 7 7)) (r : Nat → Nat) {H : Heap} {locs : List Loc} {ls : Array Slot} (h : Wd G A s H locs (xW G x ad pf ++ mW G o r)) (hl : lv_has ls 4 [(0, .ref b), (1, .ref x), (2, .ref o), (3, .int 0)]) : W p l e room_1 s m #[Value.ref b] below meth c H locs 1000 200000 (lw_Z below #[Value.ref b] s) (F0 m 1488 ls []) := by
  obtain ⟨hx, hb, hml, hown, hts, -⟩ := id C0
  refine lv_aload_n hx hb dL_law_1488 rfl (lv_at hl 1 rfl) ?_
  refine lv_aload_n hx hb dL_law_1489 rfl (lv_at hl 0 rfl) ?_
  refine lv_iload_n hx hb dL_law_1490 rfl (lv_at hl 3 rfl) ?_
  refine lv_iconst (v := 1) hx hb dL_law_1491 (by decide) ?_
  refine lv_iadd hx hb dL_law_1492 ?_
  refine lv_topi (fun k_1 ek_1 => ?_)
  obtain rfl : k_1 = 1 := ek_1.trans (by decide)
  refine va_sld hx hb hX hbl hbA h.2.2.2.1 (vp_in_nI (n := 1) (N := 6) (by decide) (by decide)) dL_law_1493 ?_
  refine W.eq (g2 := F0 m 1494 ls [.int (xs 1), .ref x]) rfl ?_
  refine lv_aload_n hx hb dL_law_1494 rfl (lv_at hl 0 rfl) ?_
  refine lv_iload_n hx hb dL_law_1495 rfl (lv_at hl 3 rfl) ?_
  refine lv_iconst (v := 2) hx hb dL_law_1496 (by decide) ?_
  refine lv_iadd hx hb dL_law_1497 ?_
  refine lv_topi (fun k_2 ek_2 => ?_)
  obtain rfl : k_2 = 2 := ek_2.trans (by decide)
  refine va_sld hx hb hX hbl hbA h.2.2.2.1 (vp_in_nI (n := 2) (N := 6) (by decide) (by decide)) dL_law_1498 ?_
  refine W.eq (g2 := F0 m 1499 ls [.int (xs 2), .int (xs 1), .ref x]) rfl ?_
  refine lv_aload_n hx hb dL_law_1499 rfl (lv_at hl 0 rfl) ?_
  refine lv_iload_n hx hb dL_law_1500 rfl (lv_at hl 3 rfl) ?_
  refine lv_iconst (v := 3) hx hb dL_law_1501 (by decide) ?_
  refine lv_iadd hx hb dL_law_1502 ?_
  refine lv_topi (fun k_3 ek_3 => ?_)
  obtain rfl : k_3 = 3 := ek_3.trans (by decide)
  refine va_sld hx hb hX hbl hbA h.2.2.2.1 (vp_in_nI (n := 3) (N := 6) (by decide) (by decide)) dL_law_1503 ?_
  refine W.eq (g2 := F0 m 1504 ls [.int (xs 3), .int (xs 2), .int (xs 1), .ref x]) rfl ?_
  refine m_cli (wr := (mW G o r)) h (m_rV (ci := 11) (q0 := 0) (As := [.int (xs 1), .int (xs 2), .int (xs 3)]) (rest := []) C0 h (c_X11_numbers l G x (ad 0) (ad 4) (xs 1) (xs 2) (xs 3)) k_X11_numbers q_1384 q_1385 q_1383 rfl rfl rfl [0, 5, 6, 7, 8, 9, 10, 11, 12, 13] (by decide) rfl hl.1 rfl rfl (Nat.le_of_ble_eq_true rfl) dL_law_1504 ⟨Nat.le_of_ble_eq_true rfl, Nat.le_of_ble_eq_true rfl⟩ ⟨Nat.le_of_ble_eq_true rfl, Nat.le_of_ble_eq_true rfl⟩) [0, 5, 6, 7, 8, 9, 10, 11, 12, 13] [86, 87, 88, 89, 90, 91, 92, 93, 94] rfl rfl (by decide) (by decide) (fun r_6 u_4 H locs hp_5 h => ?_)
  have h : Wd G A s _ _ (mW G o r) := h
  refine lv_aload_n hx hb dL_law_1507 rfl (lv_at hl 2 rfl) ?_
  refine lv_aload_n hx hb dL_law_1508 rfl (lv_at hl 0 rfl) ?_
  refine lv_iload_n hx hb dL_law_1509 rfl (lv_at hl 3 rfl) ?_
  refine lv_iconst (v := 1) hx hb dL_law_1510 (by decide) ?_
  refine lv_iadd hx hb dL_law_1511 ?_
  refine lv_topi (fun k_7 ek_7 => ?_)
  obtain rfl : k_7 = 1 := ek_7.trans (by decide)
  refine va_sld hx hb hX hbl hbA h.2.2.2.1 (vp_in_nI (n := 1) (N := 6) (by decide) (by decide)) dL_law_1512 ?_
  refine W.eq (g2 := F0 m 1513 ls [.int (xs 1), .ref o, .int r_6]) rfl ?_
  refine lv_aload_n hx hb dL_law_1513 rfl (lv_at hl 0 rfl) ?_
  refine lv_iload_n hx hb dL_law_1514 rfl (lv_at hl 3 rfl) ?_
  refine lv_iconst (v := 2) hx hb dL_law_1515 (by decide) ?_
  refine lv_iadd hx hb dL_law_1516 ?_
  refine lv_topi (fun k_8 ek_8 => ?_)
  obtain rfl : k_8 = 2 := ek_8.trans (by decide)
  refine va_sld hx hb hX hbl hbA h.2.2.2.1 (vp_in_nI (n := 2) (N := 6) (by decide) (by decide)) dL_law_1517 ?_
  refine W.eq (g2 := F0 m 1518 ls [.int (xs 2), .int (xs 1), .ref o, .int r_6]) rfl ?_
  refine lv_aload_n hx hb dL_law_1518 rfl (lv_at hl 0 rfl) ?_
  refine lv_iload_n hx hb dL_law_1519 rfl (lv_at hl 3 rfl) ?_
  refine lv_iconst (v := 3) hx hb dL_law_1520 (by decide) ?_
  refine lv_iadd hx hb dL_law_1521 ?_
  refine lv_topi (fun k_9 ek_9 => ?_)
  obtain rfl : k_9 = 3 := ek_9.trans (by decide)
  refine va_sld hx hb hX hbl hbA h.2.2.2.1 (vp_in_nI (n := 3) (N := 6) (by decide) (by decide)) dL_law_1522 ?_
  refine W.eq (g2 := F0 m 1523 ls [.int (xs 3), .int (xs 2), .int (xs 1), .ref o, .int r_6]) rfl ?_
  refine m_cli (wr := []) h (m_rV (ci := 12) (q0 := 0) (As := [.int (xs 1), .int (xs 2), .int (xs 3)]) (rest := [.int r_6]) C0 h (c_X12_numbers l G o r (xs 1) (xs 2) (xs 3)) k_X12_numbers q_2034 q_2035 q_2033 rfl rfl rfl [0, 6, 7, 8] (by decide) rfl hl.1 rfl rfl (Nat.le_of_ble_eq_true rfl) dL_law_1523 ⟨Nat.le_of_ble_eq_true rfl, Nat.le_of_ble_eq_true rfl⟩ ⟨Nat.le_of_ble_eq_true rfl, Nat.le_of_ble_eq_true rfl⟩) [0, 6, 7, 8] [] rfl rfl (by decide) (by decide) (fun r_12 u_10 H locs hp_11 h => ?_)
  have h : Wd G A s _ _ [] := h
  refine lv_icmp_eq (tgt := 1727) hx hb dL_law_1526 (by decide) (fun _ => ?_) (fun c_13 => absurd (hp_5.trans hp_11.symm) c_13)
  refine W.widen (k := 600000) (n := 7302250) (Nat.le_of_ble_eq_true rfl) (Nat.le_of_ble_eq_true rfl) ?_
  exact law_tail C0 hX hbl hbA hAs G h (lv_sub hl [0, 1, 2, 3] rfl)
set_option maxHeartbeats 4000000 in
set_option maxRecDepth 100000 in
theorem law_case_36 {p : Program} {l : Launch} {e : Env} {s : State} {m : MethodId} {below : List Frame} {meth : Method} {c : Code} {b : Nat} {xs : Nat → Int32} {A : Nat → Prop} (C0 : Cx p s m #[Value.ref b] meth c RL cL_law 4 (some .boolean)) (hX : va_X b 6 xs s s.heap) (hbl : b < s.heap.size) (hbA : ¬ A b) (hAs : ∀ q : Nat, A q → s.heap.size ≤ q) (G : GG) (x o : Nat) (ad : Nat → Nat → Nat) (pf : Nat → Option Nat) (hpf : pf 0 = some (ad 7 7)) (r : Nat → Nat) {H : Heap} {locs : List Loc} {ls : Array Slot} (h : Wd G A s H locs (xW G x ad pf ++ mW G o r)) (hl : lv_has ls 4 [(0, .ref b), (1, .ref x), (2, .ref o), (3, .int 0)]) : W p l e room_1 s m #[Value.ref b] below meth c H locs 1000 200000 (lw_Z below #[Value.ref b] s) (F0 m 1531 ls []) := by
  obtain ⟨hx, hb, hml, hown, hts, -⟩ := id C0
  refine lv_aload_n hx hb dL_law_1531 rfl (lv_at hl 1 rfl) ?_
  refine lv_aload_n hx hb dL_law_1532 rfl (lv_at hl 0 rfl) ?_
  refine lv_iload_n hx hb dL_law_1533 rfl (lv_at hl 3 rfl) ?_
  refine lv_iconst (v := 1) hx hb dL_law_1534 (by decide) ?_
  refine lv_iadd hx hb dL_law_1535 ?_
  refine lv_topi (fun k_1 ek_1 => ?_)
  obtain rfl : k_1 = 1 := ek_1.trans (by decide)
  refine va_sld hx hb hX hbl hbA h.2.2.2.1 (vp_in_nI (n := 1) (N := 6) (by decide) (by decide)) dL_law_1536 ?_
  refine W.eq (g2 := F0 m 1537 ls [.int (xs 1), .ref x]) rfl ?_
  refine lv_aload_n hx hb dL_law_1537 rfl (lv_at hl 0 rfl) ?_
  refine lv_iload_n hx hb dL_law_1538 rfl (lv_at hl 3 rfl) ?_
  refine lv_iconst (v := 2) hx hb dL_law_1539 (by decide) ?_
  refine lv_iadd hx hb dL_law_1540 ?_
  refine lv_topi (fun k_2 ek_2 => ?_)
  obtain rfl : k_2 = 2 := ek_2.trans (by decide)
  refine va_sld hx hb hX hbl hbA h.2.2.2.1 (vp_in_nI (n := 2) (N := 6) (by decide) (by decide)) dL_law_1541 ?_
  refine W.eq (g2 := F0 m 1542 ls [.int (xs 2), .int (xs 1), .ref x]) rfl ?_
  refine lv_aload_n hx hb dL_law_1542 rfl (lv_at hl 0 rfl) ?_
  refine lv_iload_n hx hb dL_law_1543 rfl (lv_at hl 3 rfl) ?_
  refine lv_iconst (v := 3) hx hb dL_law_1544 (by decide) ?_
  refine lv_iadd hx hb dL_law_1545 ?_
  refine lv_topi (fun k_3 ek_3 => ?_)
  obtain rfl : k_3 = 3 := ek_3.trans (by decide)
  refine va_sld hx hb hX hbl hbA h.2.2.2.1 (vp_in_nI (n := 3) (N := 6) (by decide) (by decide)) dL_law_1546 ?_
  refine W.eq (g2 := F0 m 1547 ls [.int (xs 3), .int (xs 2), .int (xs 1), .ref x]) rfl ?_
  refine lv_i2l (v := (xs 3).toInt64) hx hb dL_law_1547 rfl ?_
  refine lv_bipush (v := 32) hx hb dL_law_1548 (by decide) ?_
  refine lv_lshl (v := ((xs 3).toInt64 <<< ((32 : Int32).toInt64 &&& 63))) hx hb dL_law_1550 rfl ?_
  refine lv_aload_n hx hb dL_law_1551 rfl (lv_at hl 0 rfl) ?_
  refine lv_iload_n hx hb dL_law_1552 rfl (lv_at hl 3 rfl) ?_
  refine lv_iconst (v := 4) hx hb dL_law_1553 (by decide) ?_
  refine lv_iadd hx hb dL_law_1554 ?_
  refine lv_topi (fun k_4 ek_4 => ?_)
  obtain rfl : k_4 = 4 := ek_4.trans (by decide)
  refine va_sld hx hb hX hbl hbA h.2.2.2.1 (vp_in_nI (n := 4) (N := 6) (by decide) (by decide)) dL_law_1555 ?_
  refine W.eq (g2 := F0 m 1556 ls [.int (xs 4), .long ((xs 3).toInt64 <<< ((32 : Int32).toInt64 &&& 63)), .int (xs 2), .int (xs 1), .ref x]) rfl ?_
  refine lv_i2l (v := (xs 4).toInt64) hx hb dL_law_1556 rfl ?_
  refine lv_ldc2 (v := 4294967295) hx hb hown (hts _ q_2069) dL_law_1557 ?_
  refine lv_land hx hb dL_law_1560 ?_
  refine lv_lor hx hb dL_law_1561 ?_
  refine m_cll (wr := (mW G o r)) h (m_rV (ci := 11) (q0 := 0) (As := [.int (xs 1), .int (xs 2), .long (((xs 3).toInt64 <<< ((32 : Int32).toInt64 &&& 63)) ||| ((xs 4).toInt64 &&& 4294967295))]) (rest := []) C0 h (c_X11_write l G x (ad 0) (ad 4) (xs 1) (xs 2) (((xs 3).toInt64 <<< ((32 : Int32).toInt64 &&& 63)) ||| ((xs 4).toInt64 &&& 4294967295))) k_X11_write q_1395 q_1396 q_1394 rfl rfl rfl [0, 5, 6, 7, 8, 9] (by decide) rfl hl.1 rfl rfl (Nat.le_of_ble_eq_true rfl) dL_law_1562 ⟨Nat.le_of_ble_eq_true rfl, Nat.le_of_ble_eq_true rfl⟩ ⟨Nat.le_of_ble_eq_true rfl, Nat.le_of_ble_eq_true rfl⟩) [0, 5, 6, 7, 8, 9] [86, 87, 88, 89, 90, 91, 92, 93, 94] rfl rfl (by decide) (by decide) (fun r_7 u_5 H locs hp_6 h => ?_)
  have h : Wd G A s _ _ (mW G o r) := h
  refine lv_aload_n hx hb dL_law_1565 rfl (lv_at hl 2 rfl) ?_
  refine lv_aload_n hx hb dL_law_1566 rfl (lv_at hl 0 rfl) ?_
  refine lv_iload_n hx hb dL_law_1567 rfl (lv_at hl 3 rfl) ?_
  refine lv_iconst (v := 1) hx hb dL_law_1568 (by decide) ?_
  refine lv_iadd hx hb dL_law_1569 ?_
  refine lv_topi (fun k_8 ek_8 => ?_)
  obtain rfl : k_8 = 1 := ek_8.trans (by decide)
  refine va_sld hx hb hX hbl hbA h.2.2.2.1 (vp_in_nI (n := 1) (N := 6) (by decide) (by decide)) dL_law_1570 ?_
  refine W.eq (g2 := F0 m 1571 ls [.int (xs 1), .ref o, .long r_7]) rfl ?_
  refine lv_aload_n hx hb dL_law_1571 rfl (lv_at hl 0 rfl) ?_
  refine lv_iload_n hx hb dL_law_1572 rfl (lv_at hl 3 rfl) ?_
  refine lv_iconst (v := 2) hx hb dL_law_1573 (by decide) ?_
  refine lv_iadd hx hb dL_law_1574 ?_
  refine lv_topi (fun k_9 ek_9 => ?_)
  obtain rfl : k_9 = 2 := ek_9.trans (by decide)
  refine va_sld hx hb hX hbl hbA h.2.2.2.1 (vp_in_nI (n := 2) (N := 6) (by decide) (by decide)) dL_law_1575 ?_
  refine W.eq (g2 := F0 m 1576 ls [.int (xs 2), .int (xs 1), .ref o, .long r_7]) rfl ?_
  refine lv_aload_n hx hb dL_law_1576 rfl (lv_at hl 0 rfl) ?_
  refine lv_iload_n hx hb dL_law_1577 rfl (lv_at hl 3 rfl) ?_
  refine lv_iconst (v := 3) hx hb dL_law_1578 (by decide) ?_
  refine lv_iadd hx hb dL_law_1579 ?_
  refine lv_topi (fun k_10 ek_10 => ?_)
  obtain rfl : k_10 = 3 := ek_10.trans (by decide)
  refine va_sld hx hb hX hbl hbA h.2.2.2.1 (vp_in_nI (n := 3) (N := 6) (by decide) (by decide)) dL_law_1580 ?_
  refine W.eq (g2 := F0 m 1581 ls [.int (xs 3), .int (xs 2), .int (xs 1), .ref o, .long r_7]) rfl ?_
  refine lv_i2l (v := (xs 3).toInt64) hx hb dL_law_1581 rfl ?_
  refine lv_bipush (v := 32) hx hb dL_law_1582 (by decide) ?_
  refine lv_lshl (v := ((xs 3).toInt64 <<< ((32 : Int32).toInt64 &&& 63))) hx hb dL_law_1584 rfl ?_
  refine lv_aload_n hx hb dL_law_1585 rfl (lv_at hl 0 rfl) ?_
  refine lv_iload_n hx hb dL_law_1586 rfl (lv_at hl 3 rfl) ?_
  refine lv_iconst (v := 4) hx hb dL_law_1587 (by decide) ?_
  refine lv_iadd hx hb dL_law_1588 ?_
  refine lv_topi (fun k_11 ek_11 => ?_)
  obtain rfl : k_11 = 4 := ek_11.trans (by decide)
  refine va_sld hx hb hX hbl hbA h.2.2.2.1 (vp_in_nI (n := 4) (N := 6) (by decide) (by decide)) dL_law_1589 ?_
  refine W.eq (g2 := F0 m 1590 ls [.int (xs 4), .long ((xs 3).toInt64 <<< ((32 : Int32).toInt64 &&& 63)), .int (xs 2), .int (xs 1), .ref o, .long r_7]) rfl ?_
  refine lv_i2l (v := (xs 4).toInt64) hx hb dL_law_1590 rfl ?_
  refine lv_ldc2 (v := 4294967295) hx hb hown (hts _ q_2069) dL_law_1591 ?_
  refine lv_land hx hb dL_law_1594 ?_
  refine lv_lor hx hb dL_law_1595 ?_
  refine m_cll (wr := []) h (m_rV (ci := 12) (q0 := 0) (As := [.int (xs 1), .int (xs 2), .long (((xs 3).toInt64 <<< ((32 : Int32).toInt64 &&& 63)) ||| ((xs 4).toInt64 &&& 4294967295))]) (rest := [.long r_7]) C0 h (c_X12_write l G o r (xs 1) (xs 2) (((xs 3).toInt64 <<< ((32 : Int32).toInt64 &&& 63)) ||| ((xs 4).toInt64 &&& 4294967295))) k_X12_write q_2038 q_2039 q_2037 rfl rfl rfl [0, 6] (by decide) rfl hl.1 rfl rfl (Nat.le_of_ble_eq_true rfl) dL_law_1596 ⟨Nat.le_of_ble_eq_true rfl, Nat.le_of_ble_eq_true rfl⟩ ⟨Nat.le_of_ble_eq_true rfl, Nat.le_of_ble_eq_true rfl⟩) [0, 6] [] rfl rfl (by decide) (by decide) (fun r_14 u_12 H locs hp_13 h => ?_)
  have h : Wd G A s _ _ [] := h
  refine W.lcmp hx hb dL_law_1599 ?_
  refine lv_if_eq (tgt := 1727) hx hb dL_law_1600 (by decide) (fun _ => ?_) (fun c_15 => absurd ((lg_cmp_eq _ _).mpr (hp_6.trans hp_13.symm)) c_15)
  refine W.widen (k := 600000) (n := 7302250) (Nat.le_of_ble_eq_true rfl) (Nat.le_of_ble_eq_true rfl) ?_
  exact law_tail C0 hX hbl hbA hAs G h (lv_sub hl [0, 1, 2, 3] rfl)
set_option maxHeartbeats 4000000 in
set_option maxRecDepth 100000 in
theorem law_case_37 {p : Program} {l : Launch} {e : Env} {s : State} {m : MethodId} {below : List Frame} {meth : Method} {c : Code} {b : Nat} {xs : Nat → Int32} {A : Nat → Prop} (C0 : Cx p s m #[Value.ref b] meth c RL cL_law 4 (some .boolean)) (hX : va_X b 6 xs s s.heap) (hbl : b < s.heap.size) (hbA : ¬ A b) (hAs : ∀ q : Nat, A q → s.heap.size ≤ q) (G : GG) (x o : Nat) (ad : Nat → Nat → Nat) (pf : Nat → Option Nat) (hpf : pf 0 = some (ad 7 7)) (r : Nat → Nat) {H : Heap} {locs : List Loc} {ls : Array Slot} (h : Wd G A s H locs (xW G x ad pf ++ mW G o r)) (hl : lv_has ls 4 [(0, .ref b), (1, .ref x), (2, .ref o), (3, .int 0)]) : W p l e room_1 s m #[Value.ref b] below meth c H locs 1000 200000 (lw_Z below #[Value.ref b] s) (F0 m 1605 ls []) := by
  obtain ⟨hx, hb, hml, hown, hts, -⟩ := id C0
  refine lv_aload_n hx hb dL_law_1605 rfl (lv_at hl 1 rfl) ?_
  refine lv_aload_n hx hb dL_law_1606 rfl (lv_at hl 0 rfl) ?_
  refine lv_iload_n hx hb dL_law_1607 rfl (lv_at hl 3 rfl) ?_
  refine lv_iconst (v := 1) hx hb dL_law_1608 (by decide) ?_
  refine lv_iadd hx hb dL_law_1609 ?_
  refine lv_topi (fun k_1 ek_1 => ?_)
  obtain rfl : k_1 = 1 := ek_1.trans (by decide)
  refine va_sld hx hb hX hbl hbA h.2.2.2.1 (vp_in_nI (n := 1) (N := 6) (by decide) (by decide)) dL_law_1610 ?_
  refine W.eq (g2 := F0 m 1611 ls [.int (xs 1), .ref x]) rfl ?_
  refine lv_aload_n hx hb dL_law_1611 rfl (lv_at hl 0 rfl) ?_
  refine lv_iload_n hx hb dL_law_1612 rfl (lv_at hl 3 rfl) ?_
  refine lv_iconst (v := 2) hx hb dL_law_1613 (by decide) ?_
  refine lv_iadd hx hb dL_law_1614 ?_
  refine lv_topi (fun k_2 ek_2 => ?_)
  obtain rfl : k_2 = 2 := ek_2.trans (by decide)
  refine va_sld hx hb hX hbl hbA h.2.2.2.1 (vp_in_nI (n := 2) (N := 6) (by decide) (by decide)) dL_law_1615 ?_
  refine W.eq (g2 := F0 m 1616 ls [.int (xs 2), .int (xs 1), .ref x]) rfl ?_
  refine lv_aload_n hx hb dL_law_1616 rfl (lv_at hl 0 rfl) ?_
  refine lv_iload_n hx hb dL_law_1617 rfl (lv_at hl 3 rfl) ?_
  refine lv_iconst (v := 3) hx hb dL_law_1618 (by decide) ?_
  refine lv_iadd hx hb dL_law_1619 ?_
  refine lv_topi (fun k_3 ek_3 => ?_)
  obtain rfl : k_3 = 3 := ek_3.trans (by decide)
  refine va_sld hx hb hX hbl hbA h.2.2.2.1 (vp_in_nI (n := 3) (N := 6) (by decide) (by decide)) dL_law_1620 ?_
  refine W.eq (g2 := F0 m 1621 ls [.int (xs 3), .int (xs 2), .int (xs 1), .ref x]) rfl ?_
  refine lv_aload_n hx hb dL_law_1621 rfl (lv_at hl 0 rfl) ?_
  refine lv_iload_n hx hb dL_law_1622 rfl (lv_at hl 3 rfl) ?_
  refine lv_iconst (v := 4) hx hb dL_law_1623 (by decide) ?_
  refine lv_iadd hx hb dL_law_1624 ?_
  refine lv_topi (fun k_4 ek_4 => ?_)
  obtain rfl : k_4 = 4 := ek_4.trans (by decide)
  refine va_sld hx hb hX hbl hbA h.2.2.2.1 (vp_in_nI (n := 4) (N := 6) (by decide) (by decide)) dL_law_1625 ?_
  refine W.eq (g2 := F0 m 1626 ls [.int (xs 4), .int (xs 3), .int (xs 2), .int (xs 1), .ref x]) rfl ?_
  refine m_cli (wr := (mW G o r)) h (m_rV (ci := 11) (q0 := 0) (As := [.int (xs 1), .int (xs 2), .int (xs 3), .int (xs 4)]) (rest := []) C0 h (c_X11_lists l G x (ad 0) (ad 1) (xs 1) (xs 2) (xs 3) (xs 4)) k_X11_lists q_1405 q_1406 q_1404 rfl rfl rfl [0, 26, 31] (by decide) rfl hl.1 rfl rfl (Nat.le_of_ble_eq_true rfl) dL_law_1626 ⟨Nat.le_of_ble_eq_true rfl, Nat.le_of_ble_eq_true rfl⟩ ⟨Nat.le_of_ble_eq_true rfl, Nat.le_of_ble_eq_true rfl⟩) [0, 26, 31] [86, 87, 88, 89, 90, 91, 92, 93, 94] rfl rfl (by decide) (by decide) (fun r_7 u_5 H locs hp_6 h => ?_)
  have h : Wd G A s _ _ (mW G o r) := h
  refine lv_aload_n hx hb dL_law_1629 rfl (lv_at hl 2 rfl) ?_
  refine lv_aload_n hx hb dL_law_1630 rfl (lv_at hl 0 rfl) ?_
  refine lv_iload_n hx hb dL_law_1631 rfl (lv_at hl 3 rfl) ?_
  refine lv_iconst (v := 1) hx hb dL_law_1632 (by decide) ?_
  refine lv_iadd hx hb dL_law_1633 ?_
  refine lv_topi (fun k_8 ek_8 => ?_)
  obtain rfl : k_8 = 1 := ek_8.trans (by decide)
  refine va_sld hx hb hX hbl hbA h.2.2.2.1 (vp_in_nI (n := 1) (N := 6) (by decide) (by decide)) dL_law_1634 ?_
  refine W.eq (g2 := F0 m 1635 ls [.int (xs 1), .ref o, .int r_7]) rfl ?_
  refine lv_aload_n hx hb dL_law_1635 rfl (lv_at hl 0 rfl) ?_
  refine lv_iload_n hx hb dL_law_1636 rfl (lv_at hl 3 rfl) ?_
  refine lv_iconst (v := 2) hx hb dL_law_1637 (by decide) ?_
  refine lv_iadd hx hb dL_law_1638 ?_
  refine lv_topi (fun k_9 ek_9 => ?_)
  obtain rfl : k_9 = 2 := ek_9.trans (by decide)
  refine va_sld hx hb hX hbl hbA h.2.2.2.1 (vp_in_nI (n := 2) (N := 6) (by decide) (by decide)) dL_law_1639 ?_
  refine W.eq (g2 := F0 m 1640 ls [.int (xs 2), .int (xs 1), .ref o, .int r_7]) rfl ?_
  refine lv_aload_n hx hb dL_law_1640 rfl (lv_at hl 0 rfl) ?_
  refine lv_iload_n hx hb dL_law_1641 rfl (lv_at hl 3 rfl) ?_
  refine lv_iconst (v := 3) hx hb dL_law_1642 (by decide) ?_
  refine lv_iadd hx hb dL_law_1643 ?_
  refine lv_topi (fun k_10 ek_10 => ?_)
  obtain rfl : k_10 = 3 := ek_10.trans (by decide)
  refine va_sld hx hb hX hbl hbA h.2.2.2.1 (vp_in_nI (n := 3) (N := 6) (by decide) (by decide)) dL_law_1644 ?_
  refine W.eq (g2 := F0 m 1645 ls [.int (xs 3), .int (xs 2), .int (xs 1), .ref o, .int r_7]) rfl ?_
  refine lv_aload_n hx hb dL_law_1645 rfl (lv_at hl 0 rfl) ?_
  refine lv_iload_n hx hb dL_law_1646 rfl (lv_at hl 3 rfl) ?_
  refine lv_iconst (v := 4) hx hb dL_law_1647 (by decide) ?_
  refine lv_iadd hx hb dL_law_1648 ?_
  refine lv_topi (fun k_11 ek_11 => ?_)
  obtain rfl : k_11 = 4 := ek_11.trans (by decide)
  refine va_sld hx hb hX hbl hbA h.2.2.2.1 (vp_in_nI (n := 4) (N := 6) (by decide) (by decide)) dL_law_1649 ?_
  refine W.eq (g2 := F0 m 1650 ls [.int (xs 4), .int (xs 3), .int (xs 2), .int (xs 1), .ref o, .int r_7]) rfl ?_
  refine m_cli (wr := []) h (m_rV (ci := 12) (q0 := 0) (As := [.int (xs 1), .int (xs 2), .int (xs 3), .int (xs 4)]) (rest := [.int r_7]) C0 h (c_X12_lists l G o r (xs 1) (xs 2) (xs 3) (xs 4)) k_X12_lists q_2046 q_2047 q_2045 rfl rfl rfl [0, 1] (by decide) rfl hl.1 rfl rfl (Nat.le_of_ble_eq_true rfl) dL_law_1650 ⟨Nat.le_of_ble_eq_true rfl, Nat.le_of_ble_eq_true rfl⟩ ⟨Nat.le_of_ble_eq_true rfl, Nat.le_of_ble_eq_true rfl⟩) [0, 1] [] rfl rfl (by decide) (by decide) (fun r_14 u_12 H locs hp_13 h => ?_)
  have h : Wd G A s _ _ [] := h
  refine lv_icmp_eq (tgt := 1727) hx hb dL_law_1653 (by decide) (fun _ => ?_) (fun c_15 => absurd (hp_6.trans hp_13.symm) c_15)
  refine W.widen (k := 600000) (n := 7302250) (Nat.le_of_ble_eq_true rfl) (Nat.le_of_ble_eq_true rfl) ?_
  exact law_tail C0 hX hbl hbA hAs G h (lv_sub hl [0, 1, 2, 3] rfl)
set_option maxHeartbeats 4000000 in
set_option maxRecDepth 100000 in
theorem law_case_38 {p : Program} {l : Launch} {e : Env} {s : State} {m : MethodId} {below : List Frame} {meth : Method} {c : Code} {b : Nat} {xs : Nat → Int32} {A : Nat → Prop} (C0 : Cx p s m #[Value.ref b] meth c RL cL_law 4 (some .boolean)) (hX : va_X b 6 xs s s.heap) (hbl : b < s.heap.size) (hbA : ¬ A b) (hAs : ∀ q : Nat, A q → s.heap.size ≤ q) (G : GG) (x o : Nat) (ad : Nat → Nat → Nat) (pf : Nat → Option Nat) (hpf : pf 0 = some (ad 7 7)) (r : Nat → Nat) {H : Heap} {locs : List Loc} {ls : Array Slot} (h : Wd G A s H locs (xW G x ad pf ++ mW G o r)) (hl : lv_has ls 4 [(0, .ref b), (1, .ref x), (2, .ref o), (3, .int 0)]) : W p l e room_1 s m #[Value.ref b] below meth c H locs 1000 200000 (lw_Z below #[Value.ref b] s) (F0 m 1658 ls []) := by
  obtain ⟨hx, hb, hml, hown, hts, -⟩ := id C0
  refine lv_aload_n hx hb dL_law_1658 rfl (lv_at hl 1 rfl) ?_
  refine lv_aload_n hx hb dL_law_1659 rfl (lv_at hl 0 rfl) ?_
  refine lv_iload_n hx hb dL_law_1660 rfl (lv_at hl 3 rfl) ?_
  refine lv_iconst (v := 1) hx hb dL_law_1661 (by decide) ?_
  refine lv_iadd hx hb dL_law_1662 ?_
  refine lv_topi (fun k_1 ek_1 => ?_)
  obtain rfl : k_1 = 1 := ek_1.trans (by decide)
  refine va_sld hx hb hX hbl hbA h.2.2.2.1 (vp_in_nI (n := 1) (N := 6) (by decide) (by decide)) dL_law_1663 ?_
  refine W.eq (g2 := F0 m 1664 ls [.int (xs 1), .ref x]) rfl ?_
  refine m_cli (wr := (mW G o r)) h (m_rV (ci := 11) (q0 := 0) (As := [.int (xs 1)]) (rest := []) C0 h (c_X11_image l G x (ad 0) (ad 1) (ad 4) (ad 5) (ad 6) (xs 1)) k_X11_image q_1410 q_1411 q_1409 rfl rfl rfl [0, 14, 15, 26, 27, 28, 29, 30, 31, 32, 33, 34, 35, 36, 37, 38, 39, 40, 56, 57, 58, 59, 60, 61, 62, 63, 64, 65, 66, 67, 68, 69, 70, 71, 72, 73, 74, 75, 76, 77, 78, 79, 80, 81, 82, 83, 84, 85] (by decide) rfl hl.1 rfl rfl (Nat.le_of_ble_eq_true rfl) dL_law_1664 ⟨Nat.le_of_ble_eq_true rfl, Nat.le_of_ble_eq_true rfl⟩ ⟨Nat.le_of_ble_eq_true rfl, Nat.le_of_ble_eq_true rfl⟩) [0, 14, 15, 26, 27, 28, 29, 30, 31, 32, 33, 34, 35, 36, 37, 38, 39, 40, 56, 57, 58, 59, 60, 61, 62, 63, 64, 65, 66, 67, 68, 69, 70, 71, 72, 73, 74, 75, 76, 77, 78, 79, 80, 81, 82, 83, 84, 85] [86, 87, 88, 89, 90, 91, 92, 93, 94] rfl rfl (by decide) (by decide) (fun r_4 u_2 H locs hp_3 h => ?_)
  have h : Wd G A s _ _ (mW G o r) := h
  refine lv_aload_n hx hb dL_law_1667 rfl (lv_at hl 2 rfl) ?_
  refine lv_aload_n hx hb dL_law_1668 rfl (lv_at hl 0 rfl) ?_
  refine lv_iload_n hx hb dL_law_1669 rfl (lv_at hl 3 rfl) ?_
  refine lv_iconst (v := 1) hx hb dL_law_1670 (by decide) ?_
  refine lv_iadd hx hb dL_law_1671 ?_
  refine lv_topi (fun k_5 ek_5 => ?_)
  obtain rfl : k_5 = 1 := ek_5.trans (by decide)
  refine va_sld hx hb hX hbl hbA h.2.2.2.1 (vp_in_nI (n := 1) (N := 6) (by decide) (by decide)) dL_law_1672 ?_
  refine W.eq (g2 := F0 m 1673 ls [.int (xs 1), .ref o, .int r_4]) rfl ?_
  refine m_cli (wr := []) h (m_rV (ci := 12) (q0 := 0) (As := [.int (xs 1)]) (rest := [.int r_4]) C0 h (c_X12_image l G o r (xs 1)) k_X12_image q_2050 q_2051 q_2049 rfl rfl rfl [0, 1, 2] (by decide) rfl hl.1 rfl rfl (Nat.le_of_ble_eq_true rfl) dL_law_1673 ⟨Nat.le_of_ble_eq_true rfl, Nat.le_of_ble_eq_true rfl⟩ ⟨Nat.le_of_ble_eq_true rfl, Nat.le_of_ble_eq_true rfl⟩) [0, 1, 2] [] rfl rfl (by decide) (by decide) (fun r_8 u_6 H locs hp_7 h => ?_)
  have h : Wd G A s _ _ [] := h
  refine lv_icmp_eq (tgt := 1727) hx hb dL_law_1676 (by decide) (fun _ => ?_) (fun c_9 => absurd (hp_3.trans hp_7.symm) c_9)
  refine W.widen (k := 600000) (n := 7302250) (Nat.le_of_ble_eq_true rfl) (Nat.le_of_ble_eq_true rfl) ?_
  exact law_tail C0 hX hbl hbA hAs G h (lv_sub hl [0, 1, 2, 3] rfl)
set_option maxHeartbeats 4000000 in
set_option maxRecDepth 100000 in
theorem law_case_39 {p : Program} {l : Launch} {e : Env} {s : State} {m : MethodId} {below : List Frame} {meth : Method} {c : Code} {b : Nat} {xs : Nat → Int32} {A : Nat → Prop} (C0 : Cx p s m #[Value.ref b] meth c RL cL_law 4 (some .boolean)) (hX : va_X b 6 xs s s.heap) (hbl : b < s.heap.size) (hbA : ¬ A b) (hAs : ∀ q : Nat, A q → s.heap.size ≤ q) (G : GG) (x o : Nat) (ad : Nat → Nat → Nat) (pf : Nat → Option Nat) (hpf : pf 0 = some (ad 7 7)) (r : Nat → Nat) {H : Heap} {locs : List Loc} {ls : Array Slot} (h : Wd G A s H locs (xW G x ad pf ++ mW G o r)) (hl : lv_has ls 4 [(0, .ref b), (1, .ref x), (2, .ref o), (3, .int 0)]) : W p l e room_1 s m #[Value.ref b] below meth c H locs 1000 200000 (lw_Z below #[Value.ref b] s) (F0 m 1681 ls []) := by
  obtain ⟨hx, hb, hml, hown, hts, -⟩ := id C0
  refine lv_aload_n hx hb dL_law_1681 rfl (lv_at hl 1 rfl) ?_
  refine lv_aload_n hx hb dL_law_1682 rfl (lv_at hl 0 rfl) ?_
  refine lv_iload_n hx hb dL_law_1683 rfl (lv_at hl 3 rfl) ?_
  refine lv_iconst (v := 1) hx hb dL_law_1684 (by decide) ?_
  refine lv_iadd hx hb dL_law_1685 ?_
  refine lv_topi (fun k_1 ek_1 => ?_)
  obtain rfl : k_1 = 1 := ek_1.trans (by decide)
  refine va_sld hx hb hX hbl hbA h.2.2.2.1 (vp_in_nI (n := 1) (N := 6) (by decide) (by decide)) dL_law_1686 ?_
  refine W.eq (g2 := F0 m 1687 ls [.int (xs 1), .ref x]) rfl ?_
  refine m_cli (wr := (mW G o r)) h (m_rV (ci := 11) (q0 := 0) (As := [.int (xs 1)]) (rest := []) C0 h (c_X11_restore l G x (ad 0) (xs 1)) k_X11_restore q_1414 q_1415 q_1413 rfl rfl rfl [0, 15] (by decide) rfl hl.1 rfl rfl (Nat.le_of_ble_eq_true rfl) dL_law_1687 ⟨Nat.le_of_ble_eq_true rfl, Nat.le_of_ble_eq_true rfl⟩ ⟨Nat.le_of_ble_eq_true rfl, Nat.le_of_ble_eq_true rfl⟩) [0, 15] [86, 87, 88, 89, 90, 91, 92, 93, 94] rfl rfl (by decide) (by decide) (fun r_4 u_2 H locs hp_3 h => ?_)
  have h : Wd G A s _ _ (mW G o r) := h
  refine lv_aload_n hx hb dL_law_1690 rfl (lv_at hl 2 rfl) ?_
  refine lv_aload_n hx hb dL_law_1691 rfl (lv_at hl 0 rfl) ?_
  refine lv_iload_n hx hb dL_law_1692 rfl (lv_at hl 3 rfl) ?_
  refine lv_iconst (v := 1) hx hb dL_law_1693 (by decide) ?_
  refine lv_iadd hx hb dL_law_1694 ?_
  refine lv_topi (fun k_5 ek_5 => ?_)
  obtain rfl : k_5 = 1 := ek_5.trans (by decide)
  refine va_sld hx hb hX hbl hbA h.2.2.2.1 (vp_in_nI (n := 1) (N := 6) (by decide) (by decide)) dL_law_1695 ?_
  refine W.eq (g2 := F0 m 1696 ls [.int (xs 1), .ref o, .int r_4]) rfl ?_
  refine m_cli (wr := []) h (m_rV (ci := 12) (q0 := 0) (As := [.int (xs 1)]) (rest := [.int r_4]) C0 h (c_X12_restore l G o r (xs 1)) k_X12_restore q_2054 q_2055 q_2053 rfl rfl rfl [0, 2] (by decide) rfl hl.1 rfl rfl (Nat.le_of_ble_eq_true rfl) dL_law_1696 ⟨Nat.le_of_ble_eq_true rfl, Nat.le_of_ble_eq_true rfl⟩ ⟨Nat.le_of_ble_eq_true rfl, Nat.le_of_ble_eq_true rfl⟩) [0, 2] [] rfl rfl (by decide) (by decide) (fun r_8 u_6 H locs hp_7 h => ?_)
  have h : Wd G A s _ _ [] := h
  refine lv_icmp_eq (tgt := 1727) hx hb dL_law_1699 (by decide) (fun _ => ?_) (fun c_9 => absurd (hp_3.trans hp_7.symm) c_9)
  refine W.widen (k := 600000) (n := 7302250) (Nat.le_of_ble_eq_true rfl) (Nat.le_of_ble_eq_true rfl) ?_
  exact law_tail C0 hX hbl hbA hAs G h (lv_sub hl [0, 1, 2, 3] rfl)
set_option maxHeartbeats 4000000 in
set_option maxRecDepth 100000 in
theorem law_case_40 {p : Program} {l : Launch} {e : Env} {s : State} {m : MethodId} {below : List Frame} {meth : Method} {c : Code} {b : Nat} {xs : Nat → Int32} {A : Nat → Prop} (C0 : Cx p s m #[Value.ref b] meth c RL cL_law 4 (some .boolean)) (hX : va_X b 6 xs s s.heap) (hbl : b < s.heap.size) (hbA : ¬ A b) (hAs : ∀ q : Nat, A q → s.heap.size ≤ q) (G : GG) (x o : Nat) (ad : Nat → Nat → Nat) (pf : Nat → Option Nat) (hpf : pf 0 = some (ad 7 7)) (r : Nat → Nat) {H : Heap} {locs : List Loc} {ls : Array Slot} (h : Wd G A s H locs (xW G x ad pf ++ mW G o r)) (hl : lv_has ls 4 [(0, .ref b), (1, .ref x), (2, .ref o), (3, .int 0)]) : W p l e room_1 s m #[Value.ref b] below meth c H locs 1000 200000 (lw_Z below #[Value.ref b] s) (F0 m 1704 ls []) := by
  obtain ⟨hx, hb, hml, hown, hts, -⟩ := id C0
  refine lv_aload_n hx hb dL_law_1704 rfl (lv_at hl 1 rfl) ?_
  refine lv_aload_n hx hb dL_law_1705 rfl (lv_at hl 0 rfl) ?_
  refine lv_iload_n hx hb dL_law_1706 rfl (lv_at hl 3 rfl) ?_
  refine lv_iconst (v := 1) hx hb dL_law_1707 (by decide) ?_
  refine lv_iadd hx hb dL_law_1708 ?_
  refine lv_topi (fun k_1 ek_1 => ?_)
  obtain rfl : k_1 = 1 := ek_1.trans (by decide)
  refine va_sld hx hb hX hbl hbA h.2.2.2.1 (vp_in_nI (n := 1) (N := 6) (by decide) (by decide)) dL_law_1709 ?_
  refine W.eq (g2 := F0 m 1710 ls [.int (xs 1), .ref x]) rfl ?_
  refine m_cli (wr := (mW G o r)) h (m_rV (ci := 11) (q0 := 0) (As := [.int (xs 1)]) (rest := []) C0 h (c_X11_count l G x (ad 0) (ad 1) (ad 2) (ad 3) (xs 1)) k_X11_count q_1418 q_1419 q_1417 rfl rfl rfl [0, 26, 31, 1, 37, 38] (by decide) rfl hl.1 rfl rfl (Nat.le_of_ble_eq_true rfl) dL_law_1710 ⟨Nat.le_of_ble_eq_true rfl, Nat.le_of_ble_eq_true rfl⟩ ⟨Nat.le_of_ble_eq_true rfl, Nat.le_of_ble_eq_true rfl⟩) [0, 26, 31, 1, 37, 38] [86, 87, 88, 89, 90, 91, 92, 93, 94] rfl rfl (by decide) (by decide) (fun r_4 u_2 H locs hp_3 h => ?_)
  have h : Wd G A s _ _ (mW G o r) := h
  refine lv_aload_n hx hb dL_law_1713 rfl (lv_at hl 2 rfl) ?_
  refine lv_aload_n hx hb dL_law_1714 rfl (lv_at hl 0 rfl) ?_
  refine lv_iload_n hx hb dL_law_1715 rfl (lv_at hl 3 rfl) ?_
  refine lv_iconst (v := 1) hx hb dL_law_1716 (by decide) ?_
  refine lv_iadd hx hb dL_law_1717 ?_
  refine lv_topi (fun k_5 ek_5 => ?_)
  obtain rfl : k_5 = 1 := ek_5.trans (by decide)
  refine va_sld hx hb hX hbl hbA h.2.2.2.1 (vp_in_nI (n := 1) (N := 6) (by decide) (by decide)) dL_law_1718 ?_
  refine W.eq (g2 := F0 m 1719 ls [.int (xs 1), .ref o, .int r_4]) rfl ?_
  refine m_cli (wr := []) h (m_rV (ci := 12) (q0 := 0) (As := [.int (xs 1)]) (rest := [.int r_4]) C0 h (c_X12_count l G o r (xs 1)) k_X12_count q_2058 q_2059 q_2057 rfl rfl rfl [0, 1] (by decide) rfl hl.1 rfl rfl (Nat.le_of_ble_eq_true rfl) dL_law_1719 ⟨Nat.le_of_ble_eq_true rfl, Nat.le_of_ble_eq_true rfl⟩ ⟨Nat.le_of_ble_eq_true rfl, Nat.le_of_ble_eq_true rfl⟩) [0, 1] [] rfl rfl (by decide) (by decide) (fun r_8 u_6 H locs hp_7 h => ?_)
  have h : Wd G A s _ _ [] := h
  refine lv_icmp_eq (tgt := 1727) hx hb dL_law_1722 (by decide) (fun _ => ?_) (fun c_9 => absurd (hp_3.trans hp_7.symm) c_9)
  refine W.widen (k := 600000) (n := 7302250) (Nat.le_of_ble_eq_true rfl) (Nat.le_of_ble_eq_true rfl) ?_
  exact law_tail C0 hX hbl hbA hAs G h (lv_sub hl [0, 1, 2, 3] rfl)
