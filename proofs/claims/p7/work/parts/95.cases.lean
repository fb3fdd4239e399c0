
/-! THE CLAIM OUT OF ONE WALK OF THE LAW'S BODY. Your part is whole_start (and what it stands on); all else here is the same for every law, but numbers. -/
def R_law : String := "LeftTurnsLaw"
def lw_P (b : Addr) (xs : List Int32) (args : Array Value) (s : State) : Prop := args = #[.ref b] ∧ s.IntsAt b xs ∧ xs.length ≤ 3072 ∧ (Jvm.Cond.and given_1 narrow_1).before args s = true
def lw_Q (_ : Array Value) (s : State) (o : Outcome) (t : State) : Prop := o = .returned (some (.int 1)) ∧ Framed s o t [] 600000 7302250
def lw_Z (below : List Frame) (a : Array Value) (s : State) : State → Prop := fun t => ∃ o, t.status = .running ∧ Ended t below o ∧ lw_Q a s o t
/-- the law's own end, with 1 on the stack, nothing written that was there before, its room as the claim has it -/
theorem lw_ret {p : Program} {l : Launch} {e : Env} {s : State} {m : MethodId} {below : List Frame} {meth : Method} {c : Code} {b : Nat} (hx : p.tables.exec = Jvm.exec) (hb : c.code = code) (hr : meth.sig.returnType = ret) (hlocks : meth.locks = false) {pc : Nat} {H : Heap} {ls : Array Slot} (hdg : decode code pc = .ok (.ireturn, 1)) : W p l e room_1 s m #[Value.ref b] below meth c H [] 600000 7302250 (lw_Z below #[Value.ref b] s) (F0 m pc ls [.int 1]) := by
  intro T hT X
  obtain ⟨fs, hret, hrun, hended, hW, hframe⟩ := X.leave (v := some (.int 1)) (hlocks := hlocks) (fun h => by rw [hr] at h; cases h)
  have hmeth' : T.vm.method? m = some meth := X.method'
  refine ⟨T.setFrames fs, ?_, .returned (some (.int 1)), hrun, hended, rfl, ⟨_, rfl⟩, hW, hframe⟩
  jvm_step X.here [X.here.top, hx, hb, hdg, hmeth', hr, ret, narrow_b1]
  (try refine ⟨rfl, ?_⟩); (try refine ⟨rfl, ?_⟩)
  first | (intro acts; rw [hret _ acts rfl rfl rfl]) | rw [hret _ _ rfl rfl rfl]
  exact Steps.refl _
/-- what holds at the law's entry: the machine, the code, the tables' words (any of lw_tbl by 'hts w (by decide +kernel)'), the script of L ints xs at the cell b, what the Statement gives of the start (any of its parts by flat_of_before) -/
def lw_At (p : Program) (s : State) (m : MethodId) (meth : Method) (c : Code) (b L : Nat) (xs : Nat → Int32) : Prop :=
  p.tables.exec = Jvm.exec ∧ c.code = code ∧ meth.sig.returnType = ret ∧ c.maxLocals = 4 ∧ s.vm.findClass R_law = some m.cls ∧ (∀ w ∈ lw_tbl, w.before #[Value.ref b] s = true) ∧ va_X b L xs s s.heap ∧ b < s.heap.size ∧ meth.locks = false ∧ (Jvm.Cond.and given_1 narrow_1).before #[Value.ref b] s = true

theorem dL_law_18 : decode cL_law 18 = .ok (.iload_n 3, 1) := by decide +kernel
theorem dL_law_19 : decode cL_law 19 = .ok (.aload_n 0, 1) := by decide +kernel
theorem dL_law_20 : decode cL_law 20 = .ok (.arraylength, 1) := by decide +kernel
theorem dL_law_21 : decode cL_law 21 = .ok (.bipush 6, 2) := by decide +kernel
theorem dL_law_23 : decode cL_law 23 = .ok (.isub, 1) := by decide +kernel
theorem dL_law_24 : decode cL_law 24 = .ok (.if_icmp .gt 1707, 3) := by decide +kernel
theorem dL_law_27 : decode cL_law 27 = .ok (.aload_n 0, 1) := by decide +kernel
theorem dL_law_28 : decode cL_law 28 = .ok (.iload_n 3, 1) := by decide +kernel
theorem dL_law_29 : decode cL_law 29 = .ok (.iaload, 1) := by decide +kernel
theorem dL_law_30 : decode cL_law 30 = .ok (.bipush 63, 2) := by decide +kernel
theorem dL_law_32 : decode cL_law 32 = .ok (.iand, 1) := by decide +kernel
theorem dL_law_33 : decode cL_law 33 = .ok (.tableswitch 1692 0 40 #[179, 242, 265, 288, 321, 354, 387, 430, 463, 496, 529, 552, 585, 608, 651, 684, 707, 730, 763, 806, 859, 902, 945, 998, 1031, 1054, 1087, 1130, 1183, 1226, 1269, 1282, 1305, 1348, 1401, 1454, 1497, 1570, 1623, 1646, 1669], 179) := by decide +kernel
theorem dL_law_212 : decode cL_law 212 = .ok (.aload_n 1, 1) := by decide +kernel
theorem dL_law_213 : decode cL_law 213 = .ok (.aload_n 0, 1) := by decide +kernel
theorem dL_law_214 : decode cL_law 214 = .ok (.iload_n 3, 1) := by decide +kernel
theorem dL_law_215 : decode cL_law 215 = .ok (.iconst 1, 1) := by decide +kernel
theorem dL_law_216 : decode cL_law 216 = .ok (.iadd, 1) := by decide +kernel
theorem dL_law_217 : decode cL_law 217 = .ok (.iaload, 1) := by decide +kernel
theorem dL_law_218 : decode cL_law 218 = .ok (.aload_n 0, 1) := by decide +kernel
theorem dL_law_219 : decode cL_law 219 = .ok (.iload_n 3, 1) := by decide +kernel
theorem dL_law_220 : decode cL_law 220 = .ok (.iconst 2, 1) := by decide +kernel
theorem dL_law_221 : decode cL_law 221 = .ok (.iadd, 1) := by decide +kernel
theorem dL_law_222 : decode cL_law 222 = .ok (.iaload, 1) := by decide +kernel
theorem dL_law_223 : decode cL_law 223 = .ok (.aload_n 0, 1) := by decide +kernel
theorem dL_law_224 : decode cL_law 224 = .ok (.iload_n 3, 1) := by decide +kernel
theorem dL_law_225 : decode cL_law 225 = .ok (.iconst 3, 1) := by decide +kernel
theorem dL_law_226 : decode cL_law 226 = .ok (.iadd, 1) := by decide +kernel
theorem dL_law_227 : decode cL_law 227 = .ok (.iaload, 1) := by decide +kernel
theorem dL_law_228 : decode cL_law 228 = .ok (.aload_n 0, 1) := by decide +kernel
theorem dL_law_229 : decode cL_law 229 = .ok (.iload_n 3, 1) := by decide +kernel
theorem dL_law_230 : decode cL_law 230 = .ok (.iconst 4, 1) := by decide +kernel
theorem dL_law_231 : decode cL_law 231 = .ok (.iadd, 1) := by decide +kernel
theorem dL_law_232 : decode cL_law 232 = .ok (.iaload, 1) := by decide +kernel
theorem dL_law_233 : decode cL_law 233 = .ok (.aload_n 0, 1) := by decide +kernel
theorem dL_law_234 : decode cL_law 234 = .ok (.iload_n 3, 1) := by decide +kernel
theorem dL_law_235 : decode cL_law 235 = .ok (.iconst 5, 1) := by decide +kernel
theorem dL_law_236 : decode cL_law 236 = .ok (.iadd, 1) := by decide +kernel
theorem dL_law_237 : decode cL_law 237 = .ok (.iaload, 1) := by decide +kernel
theorem dL_law_238 : decode cL_law 238 = .ok (.invokevirtual 13, 3) := by decide +kernel
theorem dL_law_241 : decode cL_law 241 = .ok (.pop, 1) := by decide +kernel
theorem dL_law_242 : decode cL_law 242 = .ok (.aload_n 2, 1) := by decide +kernel
theorem dL_law_243 : decode cL_law 243 = .ok (.aload_n 0, 1) := by decide +kernel
theorem dL_law_244 : decode cL_law 244 = .ok (.iload_n 3, 1) := by decide +kernel
theorem dL_law_245 : decode cL_law 245 = .ok (.iconst 1, 1) := by decide +kernel
theorem dL_law_246 : decode cL_law 246 = .ok (.iadd, 1) := by decide +kernel
theorem dL_law_247 : decode cL_law 247 = .ok (.iaload, 1) := by decide +kernel
theorem dL_law_248 : decode cL_law 248 = .ok (.aload_n 0, 1) := by decide +kernel
theorem dL_law_249 : decode cL_law 249 = .ok (.iload_n 3, 1) := by decide +kernel
theorem dL_law_250 : decode cL_law 250 = .ok (.iconst 2, 1) := by decide +kernel
theorem dL_law_251 : decode cL_law 251 = .ok (.iadd, 1) := by decide +kernel
theorem dL_law_252 : decode cL_law 252 = .ok (.iaload, 1) := by decide +kernel
theorem dL_law_253 : decode cL_law 253 = .ok (.aload_n 0, 1) := by decide +kernel
theorem dL_law_254 : decode cL_law 254 = .ok (.iload_n 3, 1) := by decide +kernel
theorem dL_law_255 : decode cL_law 255 = .ok (.iconst 3, 1) := by decide +kernel
theorem dL_law_256 : decode cL_law 256 = .ok (.iadd, 1) := by decide +kernel
theorem dL_law_257 : decode cL_law 257 = .ok (.iaload, 1) := by decide +kernel
theorem dL_law_258 : decode cL_law 258 = .ok (.aload_n 0, 1) := by decide +kernel
theorem dL_law_259 : decode cL_law 259 = .ok (.iload_n 3, 1) := by decide +kernel
theorem dL_law_260 : decode cL_law 260 = .ok (.iconst 4, 1) := by decide +kernel
theorem dL_law_261 : decode cL_law 261 = .ok (.iadd, 1) := by decide +kernel
theorem dL_law_262 : decode cL_law 262 = .ok (.iaload, 1) := by decide +kernel
theorem dL_law_263 : decode cL_law 263 = .ok (.aload_n 0, 1) := by decide +kernel
theorem dL_law_264 : decode cL_law 264 = .ok (.iload_n 3, 1) := by decide +kernel
theorem dL_law_265 : decode cL_law 265 = .ok (.iconst 5, 1) := by decide +kernel
theorem dL_law_266 : decode cL_law 266 = .ok (.iadd, 1) := by decide +kernel
theorem dL_law_267 : decode cL_law 267 = .ok (.iaload, 1) := by decide +kernel
theorem dL_law_268 : decode cL_law 268 = .ok (.invokevirtual 17, 3) := by decide +kernel
theorem dL_law_271 : decode cL_law 271 = .ok (.pop, 1) := by decide +kernel
theorem dL_law_272 : decode cL_law 272 = .ok (.goto 1453, 3) := by decide +kernel
theorem dL_law_275 : decode cL_law 275 = .ok (.aload_n 1, 1) := by decide +kernel
theorem dL_law_276 : decode cL_law 276 = .ok (.aload_n 0, 1) := by decide +kernel
theorem dL_law_277 : decode cL_law 277 = .ok (.iload_n 3, 1) := by decide +kernel
theorem dL_law_278 : decode cL_law 278 = .ok (.iconst 1, 1) := by decide +kernel
theorem dL_law_279 : decode cL_law 279 = .ok (.iadd, 1) := by decide +kernel
theorem dL_law_280 : decode cL_law 280 = .ok (.iaload, 1) := by decide +kernel
theorem dL_law_281 : decode cL_law 281 = .ok (.invokevirtual 18, 3) := by decide +kernel
theorem dL_law_284 : decode cL_law 284 = .ok (.pop, 1) := by decide +kernel
theorem dL_law_285 : decode cL_law 285 = .ok (.aload_n 2, 1) := by decide +kernel
theorem dL_law_286 : decode cL_law 286 = .ok (.aload_n 0, 1) := by decide +kernel
theorem dL_law_287 : decode cL_law 287 = .ok (.iload_n 3, 1) := by decide +kernel
theorem dL_law_288 : decode cL_law 288 = .ok (.iconst 1, 1) := by decide +kernel
theorem dL_law_289 : decode cL_law 289 = .ok (.iadd, 1) := by decide +kernel
theorem dL_law_290 : decode cL_law 290 = .ok (.iaload, 1) := by decide +kernel
theorem dL_law_291 : decode cL_law 291 = .ok (.invokevirtual 22, 3) := by decide +kernel
theorem dL_law_294 : decode cL_law 294 = .ok (.pop, 1) := by decide +kernel
theorem dL_law_295 : decode cL_law 295 = .ok (.goto 1430, 3) := by decide +kernel
theorem dL_law_298 : decode cL_law 298 = .ok (.aload_n 1, 1) := by decide +kernel
theorem dL_law_299 : decode cL_law 299 = .ok (.aload_n 0, 1) := by decide +kernel
theorem dL_law_300 : decode cL_law 300 = .ok (.iload_n 3, 1) := by decide +kernel
theorem dL_law_301 : decode cL_law 301 = .ok (.iconst 1, 1) := by decide +kernel
theorem dL_law_302 : decode cL_law 302 = .ok (.iadd, 1) := by decide +kernel
theorem dL_law_303 : decode cL_law 303 = .ok (.iaload, 1) := by decide +kernel
theorem dL_law_304 : decode cL_law 304 = .ok (.invokevirtual 23, 3) := by decide +kernel
theorem dL_law_307 : decode cL_law 307 = .ok (.pop, 1) := by decide +kernel
theorem dL_law_308 : decode cL_law 308 = .ok (.aload_n 2, 1) := by decide +kernel
theorem dL_law_309 : decode cL_law 309 = .ok (.aload_n 0, 1) := by decide +kernel
theorem dL_law_310 : decode cL_law 310 = .ok (.iload_n 3, 1) := by decide +kernel
theorem dL_law_311 : decode cL_law 311 = .ok (.iconst 1, 1) := by decide +kernel
theorem dL_law_312 : decode cL_law 312 = .ok (.iadd, 1) := by decide +kernel
theorem dL_law_313 : decode cL_law 313 = .ok (.iaload, 1) := by decide +kernel
theorem dL_law_314 : decode cL_law 314 = .ok (.invokevirtual 26, 3) := by decide +kernel
theorem dL_law_317 : decode cL_law 317 = .ok (.pop, 1) := by decide +kernel
theorem dL_law_318 : decode cL_law 318 = .ok (.goto 1407, 3) := by decide +kernel
theorem dL_law_321 : decode cL_law 321 = .ok (.aload_n 1, 1) := by decide +kernel
theorem dL_law_322 : decode cL_law 322 = .ok (.aload_n 0, 1) := by decide +kernel
theorem dL_law_323 : decode cL_law 323 = .ok (.iload_n 3, 1) := by decide +kernel
theorem dL_law_324 : decode cL_law 324 = .ok (.iconst 1, 1) := by decide +kernel
theorem dL_law_325 : decode cL_law 325 = .ok (.iadd, 1) := by decide +kernel
theorem dL_law_326 : decode cL_law 326 = .ok (.iaload, 1) := by decide +kernel
theorem dL_law_327 : decode cL_law 327 = .ok (.aload_n 0, 1) := by decide +kernel
theorem dL_law_328 : decode cL_law 328 = .ok (.iload_n 3, 1) := by decide +kernel
theorem dL_law_329 : decode cL_law 329 = .ok (.iconst 2, 1) := by decide +kernel
theorem dL_law_330 : decode cL_law 330 = .ok (.iadd, 1) := by decide +kernel
theorem dL_law_331 : decode cL_law 331 = .ok (.iaload, 1) := by decide +kernel
theorem dL_law_332 : decode cL_law 332 = .ok (.invokevirtual 27, 3) := by decide +kernel
theorem dL_law_335 : decode cL_law 335 = .ok (.pop, 1) := by decide +kernel
theorem dL_law_336 : decode cL_law 336 = .ok (.aload_n 2, 1) := by decide +kernel
theorem dL_law_337 : decode cL_law 337 = .ok (.aload_n 0, 1) := by decide +kernel
theorem dL_law_338 : decode cL_law 338 = .ok (.iload_n 3, 1) := by decide +kernel
theorem dL_law_339 : decode cL_law 339 = .ok (.iconst 1, 1) := by decide +kernel
theorem dL_law_340 : decode cL_law 340 = .ok (.iadd, 1) := by decide +kernel
theorem dL_law_341 : decode cL_law 341 = .ok (.iaload, 1) := by decide +kernel
theorem dL_law_342 : decode cL_law 342 = .ok (.aload_n 0, 1) := by decide +kernel
theorem dL_law_343 : decode cL_law 343 = .ok (.iload_n 3, 1) := by decide +kernel
theorem dL_law_344 : decode cL_law 344 = .ok (.iconst 2, 1) := by decide +kernel
theorem dL_law_345 : decode cL_law 345 = .ok (.iadd, 1) := by decide +kernel
theorem dL_law_346 : decode cL_law 346 = .ok (.iaload, 1) := by decide +kernel
theorem dL_law_347 : decode cL_law 347 = .ok (.invokevirtual 31, 3) := by decide +kernel
theorem dL_law_350 : decode cL_law 350 = .ok (.pop, 1) := by decide +kernel
theorem dL_law_351 : decode cL_law 351 = .ok (.goto 1374, 3) := by decide +kernel
theorem dL_law_354 : decode cL_law 354 = .ok (.aload_n 1, 1) := by decide +kernel
theorem dL_law_355 : decode cL_law 355 = .ok (.aload_n 0, 1) := by decide +kernel
theorem dL_law_356 : decode cL_law 356 = .ok (.iload_n 3, 1) := by decide +kernel
theorem dL_law_357 : decode cL_law 357 = .ok (.iconst 1, 1) := by decide +kernel
theorem dL_law_358 : decode cL_law 358 = .ok (.iadd, 1) := by decide +kernel
theorem dL_law_359 : decode cL_law 359 = .ok (.iaload, 1) := by decide +kernel
theorem dL_law_360 : decode cL_law 360 = .ok (.aload_n 0, 1) := by decide +kernel
theorem dL_law_361 : decode cL_law 361 = .ok (.iload_n 3, 1) := by decide +kernel
theorem dL_law_362 : decode cL_law 362 = .ok (.iconst 2, 1) := by decide +kernel
theorem dL_law_363 : decode cL_law 363 = .ok (.iadd, 1) := by decide +kernel
theorem dL_law_364 : decode cL_law 364 = .ok (.iaload, 1) := by decide +kernel
theorem dL_law_365 : decode cL_law 365 = .ok (.invokevirtual 32, 3) := by decide +kernel
theorem dL_law_368 : decode cL_law 368 = .ok (.pop, 1) := by decide +kernel
theorem dL_law_369 : decode cL_law 369 = .ok (.aload_n 2, 1) := by decide +kernel
theorem dL_law_370 : decode cL_law 370 = .ok (.aload_n 0, 1) := by decide +kernel
theorem dL_law_371 : decode cL_law 371 = .ok (.iload_n 3, 1) := by decide +kernel
theorem dL_law_372 : decode cL_law 372 = .ok (.iconst 1, 1) := by decide +kernel
theorem dL_law_373 : decode cL_law 373 = .ok (.iadd, 1) := by decide +kernel
theorem dL_law_374 : decode cL_law 374 = .ok (.iaload, 1) := by decide +kernel
theorem dL_law_375 : decode cL_law 375 = .ok (.aload_n 0, 1) := by decide +kernel
theorem dL_law_376 : decode cL_law 376 = .ok (.iload_n 3, 1) := by decide +kernel
theorem dL_law_377 : decode cL_law 377 = .ok (.iconst 2, 1) := by decide +kernel
theorem dL_law_378 : decode cL_law 378 = .ok (.iadd, 1) := by decide +kernel
theorem dL_law_379 : decode cL_law 379 = .ok (.iaload, 1) := by decide +kernel
theorem dL_law_380 : decode cL_law 380 = .ok (.invokevirtual 35, 3) := by decide +kernel
theorem dL_law_383 : decode cL_law 383 = .ok (.pop, 1) := by decide +kernel
theorem dL_law_384 : decode cL_law 384 = .ok (.goto 1341, 3) := by decide +kernel
theorem dL_law_387 : decode cL_law 387 = .ok (.aload_n 1, 1) := by decide +kernel
theorem dL_law_388 : decode cL_law 388 = .ok (.aload_n 0, 1) := by decide +kernel
theorem dL_law_389 : decode cL_law 389 = .ok (.iload_n 3, 1) := by decide +kernel
theorem dL_law_390 : decode cL_law 390 = .ok (.iconst 1, 1) := by decide +kernel
theorem dL_law_391 : decode cL_law 391 = .ok (.iadd, 1) := by decide +kernel
theorem dL_law_392 : decode cL_law 392 = .ok (.iaload, 1) := by decide +kernel
theorem dL_law_393 : decode cL_law 393 = .ok (.aload_n 0, 1) := by decide +kernel
theorem dL_law_394 : decode cL_law 394 = .ok (.iload_n 3, 1) := by decide +kernel
theorem dL_law_395 : decode cL_law 395 = .ok (.iconst 2, 1) := by decide +kernel
theorem dL_law_396 : decode cL_law 396 = .ok (.iadd, 1) := by decide +kernel
theorem dL_law_397 : decode cL_law 397 = .ok (.iaload, 1) := by decide +kernel
theorem dL_law_398 : decode cL_law 398 = .ok (.invokevirtual 36, 3) := by decide +kernel
theorem dL_law_401 : decode cL_law 401 = .ok (.aload_n 2, 1) := by decide +kernel
theorem dL_law_402 : decode cL_law 402 = .ok (.aload_n 0, 1) := by decide +kernel
theorem dL_law_403 : decode cL_law 403 = .ok (.iload_n 3, 1) := by decide +kernel
theorem dL_law_404 : decode cL_law 404 = .ok (.iconst 1, 1) := by decide +kernel
theorem dL_law_405 : decode cL_law 405 = .ok (.iadd, 1) := by decide +kernel
theorem dL_law_406 : decode cL_law 406 = .ok (.iaload, 1) := by decide +kernel
theorem dL_law_407 : decode cL_law 407 = .ok (.aload_n 0, 1) := by decide +kernel
theorem dL_law_408 : decode cL_law 408 = .ok (.iload_n 3, 1) := by decide +kernel
theorem dL_law_409 : decode cL_law 409 = .ok (.iconst 2, 1) := by decide +kernel
theorem dL_law_410 : decode cL_law 410 = .ok (.iadd, 1) := by decide +kernel
theorem dL_law_411 : decode cL_law 411 = .ok (.iaload, 1) := by decide +kernel
theorem dL_law_412 : decode cL_law 412 = .ok (.invokevirtual 39, 3) := by decide +kernel
theorem dL_law_415 : decode cL_law 415 = .ok (.if_icmp .eq 1310, 3) := by decide +kernel
theorem dL_law_420 : decode cL_law 420 = .ok (.aload_n 1, 1) := by decide +kernel
theorem dL_law_421 : decode cL_law 421 = .ok (.aload_n 0, 1) := by decide +kernel
theorem dL_law_422 : decode cL_law 422 = .ok (.iload_n 3, 1) := by decide +kernel
theorem dL_law_423 : decode cL_law 423 = .ok (.iconst 1, 1) := by decide +kernel
theorem dL_law_424 : decode cL_law 424 = .ok (.iadd, 1) := by decide +kernel
theorem dL_law_425 : decode cL_law 425 = .ok (.iaload, 1) := by decide +kernel
theorem dL_law_426 : decode cL_law 426 = .ok (.aload_n 0, 1) := by decide +kernel
theorem dL_law_427 : decode cL_law 427 = .ok (.iload_n 3, 1) := by decide +kernel
theorem dL_law_428 : decode cL_law 428 = .ok (.iconst 2, 1) := by decide +kernel
theorem dL_law_429 : decode cL_law 429 = .ok (.iadd, 1) := by decide +kernel
theorem dL_law_430 : decode cL_law 430 = .ok (.iaload, 1) := by decide +kernel
theorem dL_law_431 : decode cL_law 431 = .ok (.aload_n 0, 1) := by decide +kernel
theorem dL_law_432 : decode cL_law 432 = .ok (.iload_n 3, 1) := by decide +kernel
theorem dL_law_433 : decode cL_law 433 = .ok (.iconst 3, 1) := by decide +kernel
theorem dL_law_434 : decode cL_law 434 = .ok (.iadd, 1) := by decide +kernel
theorem dL_law_435 : decode cL_law 435 = .ok (.iaload, 1) := by decide +kernel
theorem dL_law_436 : decode cL_law 436 = .ok (.invokevirtual 40, 3) := by decide +kernel
theorem dL_law_439 : decode cL_law 439 = .ok (.pop, 1) := by decide +kernel
theorem dL_law_440 : decode cL_law 440 = .ok (.aload_n 2, 1) := by decide +kernel
theorem dL_law_441 : decode cL_law 441 = .ok (.aload_n 0, 1) := by decide +kernel
theorem dL_law_442 : decode cL_law 442 = .ok (.iload_n 3, 1) := by decide +kernel
theorem dL_law_443 : decode cL_law 443 = .ok (.iconst 1, 1) := by decide +kernel
theorem dL_law_444 : decode cL_law 444 = .ok (.iadd, 1) := by decide +kernel
theorem dL_law_445 : decode cL_law 445 = .ok (.iaload, 1) := by decide +kernel
theorem dL_law_446 : decode cL_law 446 = .ok (.aload_n 0, 1) := by decide +kernel
theorem dL_law_447 : decode cL_law 447 = .ok (.iload_n 3, 1) := by decide +kernel
theorem dL_law_448 : decode cL_law 448 = .ok (.iconst 2, 1) := by decide +kernel
theorem dL_law_449 : decode cL_law 449 = .ok (.iadd, 1) := by decide +kernel
theorem dL_law_450 : decode cL_law 450 = .ok (.iaload, 1) := by decide +kernel
theorem dL_law_451 : decode cL_law 451 = .ok (.aload_n 0, 1) := by decide +kernel
theorem dL_law_452 : decode cL_law 452 = .ok (.iload_n 3, 1) := by decide +kernel
theorem dL_law_453 : decode cL_law 453 = .ok (.iconst 3, 1) := by decide +kernel
theorem dL_law_454 : decode cL_law 454 = .ok (.iadd, 1) := by decide +kernel
theorem dL_law_455 : decode cL_law 455 = .ok (.iaload, 1) := by decide +kernel
theorem dL_law_456 : decode cL_law 456 = .ok (.invokevirtual 44, 3) := by decide +kernel
theorem dL_law_459 : decode cL_law 459 = .ok (.pop, 1) := by decide +kernel
theorem dL_law_460 : decode cL_law 460 = .ok (.goto 1265, 3) := by decide +kernel
theorem dL_law_463 : decode cL_law 463 = .ok (.aload_n 1, 1) := by decide +kernel
theorem dL_law_464 : decode cL_law 464 = .ok (.aload_n 0, 1) := by decide +kernel
theorem dL_law_465 : decode cL_law 465 = .ok (.iload_n 3, 1) := by decide +kernel
theorem dL_law_466 : decode cL_law 466 = .ok (.iconst 1, 1) := by decide +kernel
theorem dL_law_467 : decode cL_law 467 = .ok (.iadd, 1) := by decide +kernel
theorem dL_law_468 : decode cL_law 468 = .ok (.iaload, 1) := by decide +kernel
theorem dL_law_469 : decode cL_law 469 = .ok (.aload_n 0, 1) := by decide +kernel
theorem dL_law_470 : decode cL_law 470 = .ok (.iload_n 3, 1) := by decide +kernel
theorem dL_law_471 : decode cL_law 471 = .ok (.iconst 2, 1) := by decide +kernel
theorem dL_law_472 : decode cL_law 472 = .ok (.iadd, 1) := by decide +kernel
theorem dL_law_473 : decode cL_law 473 = .ok (.iaload, 1) := by decide +kernel
theorem dL_law_474 : decode cL_law 474 = .ok (.invokevirtual 45, 3) := by decide +kernel
theorem dL_law_477 : decode cL_law 477 = .ok (.pop, 1) := by decide +kernel
theorem dL_law_478 : decode cL_law 478 = .ok (.aload_n 2, 1) := by decide +kernel
theorem dL_law_479 : decode cL_law 479 = .ok (.aload_n 0, 1) := by decide +kernel
theorem dL_law_480 : decode cL_law 480 = .ok (.iload_n 3, 1) := by decide +kernel
theorem dL_law_481 : decode cL_law 481 = .ok (.iconst 1, 1) := by decide +kernel
theorem dL_law_482 : decode cL_law 482 = .ok (.iadd, 1) := by decide +kernel
theorem dL_law_483 : decode cL_law 483 = .ok (.iaload, 1) := by decide +kernel
theorem dL_law_484 : decode cL_law 484 = .ok (.aload_n 0, 1) := by decide +kernel
theorem dL_law_485 : decode cL_law 485 = .ok (.iload_n 3, 1) := by decide +kernel
theorem dL_law_486 : decode cL_law 486 = .ok (.iconst 2, 1) := by decide +kernel
theorem dL_law_487 : decode cL_law 487 = .ok (.iadd, 1) := by decide +kernel
theorem dL_law_488 : decode cL_law 488 = .ok (.iaload, 1) := by decide +kernel
theorem dL_law_489 : decode cL_law 489 = .ok (.invokevirtual 48, 3) := by decide +kernel
theorem dL_law_492 : decode cL_law 492 = .ok (.pop, 1) := by decide +kernel
theorem dL_law_493 : decode cL_law 493 = .ok (.goto 1232, 3) := by decide +kernel
theorem dL_law_496 : decode cL_law 496 = .ok (.aload_n 1, 1) := by decide +kernel
theorem dL_law_497 : decode cL_law 497 = .ok (.aload_n 0, 1) := by decide +kernel
theorem dL_law_498 : decode cL_law 498 = .ok (.iload_n 3, 1) := by decide +kernel
theorem dL_law_499 : decode cL_law 499 = .ok (.iconst 1, 1) := by decide +kernel
theorem dL_law_500 : decode cL_law 500 = .ok (.iadd, 1) := by decide +kernel
theorem dL_law_501 : decode cL_law 501 = .ok (.iaload, 1) := by decide +kernel
theorem dL_law_502 : decode cL_law 502 = .ok (.aload_n 0, 1) := by decide +kernel
theorem dL_law_503 : decode cL_law 503 = .ok (.iload_n 3, 1) := by decide +kernel
theorem dL_law_504 : decode cL_law 504 = .ok (.iconst 2, 1) := by decide +kernel
theorem dL_law_505 : decode cL_law 505 = .ok (.iadd, 1) := by decide +kernel
theorem dL_law_506 : decode cL_law 506 = .ok (.iaload, 1) := by decide +kernel
theorem dL_law_507 : decode cL_law 507 = .ok (.invokevirtual 49, 3) := by decide +kernel
theorem dL_law_510 : decode cL_law 510 = .ok (.pop, 1) := by decide +kernel
theorem dL_law_511 : decode cL_law 511 = .ok (.aload_n 2, 1) := by decide +kernel
theorem dL_law_512 : decode cL_law 512 = .ok (.aload_n 0, 1) := by decide +kernel
theorem dL_law_513 : decode cL_law 513 = .ok (.iload_n 3, 1) := by decide +kernel
theorem dL_law_514 : decode cL_law 514 = .ok (.iconst 1, 1) := by decide +kernel
theorem dL_law_515 : decode cL_law 515 = .ok (.iadd, 1) := by decide +kernel
theorem dL_law_516 : decode cL_law 516 = .ok (.iaload, 1) := by decide +kernel
theorem dL_law_517 : decode cL_law 517 = .ok (.aload_n 0, 1) := by decide +kernel
theorem dL_law_518 : decode cL_law 518 = .ok (.iload_n 3, 1) := by decide +kernel
theorem dL_law_519 : decode cL_law 519 = .ok (.iconst 2, 1) := by decide +kernel
theorem dL_law_520 : decode cL_law 520 = .ok (.iadd, 1) := by decide +kernel
theorem dL_law_521 : decode cL_law 521 = .ok (.iaload, 1) := by decide +kernel
theorem dL_law_522 : decode cL_law 522 = .ok (.invokevirtual 52, 3) := by decide +kernel
theorem dL_law_525 : decode cL_law 525 = .ok (.pop, 1) := by decide +kernel
theorem dL_law_526 : decode cL_law 526 = .ok (.goto 1199, 3) := by decide +kernel
theorem dL_law_529 : decode cL_law 529 = .ok (.aload_n 1, 1) := by decide +kernel
theorem dL_law_530 : decode cL_law 530 = .ok (.aload_n 0, 1) := by decide +kernel
theorem dL_law_531 : decode cL_law 531 = .ok (.iload_n 3, 1) := by decide +kernel
theorem dL_law_532 : decode cL_law 532 = .ok (.iconst 1, 1) := by decide +kernel
theorem dL_law_533 : decode cL_law 533 = .ok (.iadd, 1) := by decide +kernel
theorem dL_law_534 : decode cL_law 534 = .ok (.iaload, 1) := by decide +kernel
theorem dL_law_535 : decode cL_law 535 = .ok (.aload_n 0, 1) := by decide +kernel
theorem dL_law_536 : decode cL_law 536 = .ok (.iload_n 3, 1) := by decide +kernel
theorem dL_law_537 : decode cL_law 537 = .ok (.iconst 2, 1) := by decide +kernel
theorem dL_law_538 : decode cL_law 538 = .ok (.iadd, 1) := by decide +kernel
theorem dL_law_539 : decode cL_law 539 = .ok (.iaload, 1) := by decide +kernel
theorem dL_law_540 : decode cL_law 540 = .ok (.invokevirtual 53, 3) := by decide +kernel
theorem dL_law_543 : decode cL_law 543 = .ok (.pop, 1) := by decide +kernel
theorem dL_law_544 : decode cL_law 544 = .ok (.aload_n 2, 1) := by decide +kernel
theorem dL_law_545 : decode cL_law 545 = .ok (.aload_n 0, 1) := by decide +kernel
theorem dL_law_546 : decode cL_law 546 = .ok (.iload_n 3, 1) := by decide +kernel
theorem dL_law_547 : decode cL_law 547 = .ok (.iconst 1, 1) := by decide +kernel
theorem dL_law_548 : decode cL_law 548 = .ok (.iadd, 1) := by decide +kernel
theorem dL_law_549 : decode cL_law 549 = .ok (.iaload, 1) := by decide +kernel
theorem dL_law_550 : decode cL_law 550 = .ok (.aload_n 0, 1) := by decide +kernel
theorem dL_law_551 : decode cL_law 551 = .ok (.iload_n 3, 1) := by decide +kernel
theorem dL_law_552 : decode cL_law 552 = .ok (.iconst 2, 1) := by decide +kernel
theorem dL_law_553 : decode cL_law 553 = .ok (.iadd, 1) := by decide +kernel
theorem dL_law_554 : decode cL_law 554 = .ok (.iaload, 1) := by decide +kernel
theorem dL_law_555 : decode cL_law 555 = .ok (.invokevirtual 56, 3) := by decide +kernel
theorem dL_law_558 : decode cL_law 558 = .ok (.pop, 1) := by decide +kernel
theorem dL_law_559 : decode cL_law 559 = .ok (.goto 1166, 3) := by decide +kernel
theorem dL_law_562 : decode cL_law 562 = .ok (.aload_n 1, 1) := by decide +kernel
theorem dL_law_563 : decode cL_law 563 = .ok (.aload_n 0, 1) := by decide +kernel
theorem dL_law_564 : decode cL_law 564 = .ok (.iload_n 3, 1) := by decide +kernel
theorem dL_law_565 : decode cL_law 565 = .ok (.iconst 1, 1) := by decide +kernel
theorem dL_law_566 : decode cL_law 566 = .ok (.iadd, 1) := by decide +kernel
theorem dL_law_567 : decode cL_law 567 = .ok (.iaload, 1) := by decide +kernel
theorem dL_law_568 : decode cL_law 568 = .ok (.invokevirtual 57, 3) := by decide +kernel
theorem dL_law_571 : decode cL_law 571 = .ok (.pop, 1) := by decide +kernel
theorem dL_law_572 : decode cL_law 572 = .ok (.aload_n 2, 1) := by decide +kernel
theorem dL_law_573 : decode cL_law 573 = .ok (.aload_n 0, 1) := by decide +kernel
theorem dL_law_574 : decode cL_law 574 = .ok (.iload_n 3, 1) := by decide +kernel
theorem dL_law_575 : decode cL_law 575 = .ok (.iconst 1, 1) := by decide +kernel
theorem dL_law_576 : decode cL_law 576 = .ok (.iadd, 1) := by decide +kernel
theorem dL_law_577 : decode cL_law 577 = .ok (.iaload, 1) := by decide +kernel
theorem dL_law_578 : decode cL_law 578 = .ok (.invokevirtual 60, 3) := by decide +kernel
theorem dL_law_581 : decode cL_law 581 = .ok (.pop, 1) := by decide +kernel
theorem dL_law_582 : decode cL_law 582 = .ok (.goto 1143, 3) := by decide +kernel
theorem dL_law_585 : decode cL_law 585 = .ok (.aload_n 1, 1) := by decide +kernel
theorem dL_law_586 : decode cL_law 586 = .ok (.aload_n 0, 1) := by decide +kernel
theorem dL_law_587 : decode cL_law 587 = .ok (.iload_n 3, 1) := by decide +kernel
theorem dL_law_588 : decode cL_law 588 = .ok (.iconst 1, 1) := by decide +kernel
theorem dL_law_589 : decode cL_law 589 = .ok (.iadd, 1) := by decide +kernel
theorem dL_law_590 : decode cL_law 590 = .ok (.iaload, 1) := by decide +kernel
theorem dL_law_591 : decode cL_law 591 = .ok (.aload_n 0, 1) := by decide +kernel
theorem dL_law_592 : decode cL_law 592 = .ok (.iload_n 3, 1) := by decide +kernel
theorem dL_law_593 : decode cL_law 593 = .ok (.iconst 2, 1) := by decide +kernel
theorem dL_law_594 : decode cL_law 594 = .ok (.iadd, 1) := by decide +kernel
theorem dL_law_595 : decode cL_law 595 = .ok (.iaload, 1) := by decide +kernel
theorem dL_law_596 : decode cL_law 596 = .ok (.invokevirtual 61, 3) := by decide +kernel
theorem dL_law_599 : decode cL_law 599 = .ok (.pop, 1) := by decide +kernel
theorem dL_law_600 : decode cL_law 600 = .ok (.aload_n 2, 1) := by decide +kernel
theorem dL_law_601 : decode cL_law 601 = .ok (.aload_n 0, 1) := by decide +kernel
theorem dL_law_602 : decode cL_law 602 = .ok (.iload_n 3, 1) := by decide +kernel
theorem dL_law_603 : decode cL_law 603 = .ok (.iconst 1, 1) := by decide +kernel
theorem dL_law_604 : decode cL_law 604 = .ok (.iadd, 1) := by decide +kernel
theorem dL_law_605 : decode cL_law 605 = .ok (.iaload, 1) := by decide +kernel
theorem dL_law_606 : decode cL_law 606 = .ok (.aload_n 0, 1) := by decide +kernel
theorem dL_law_607 : decode cL_law 607 = .ok (.iload_n 3, 1) := by decide +kernel
theorem dL_law_608 : decode cL_law 608 = .ok (.iconst 2, 1) := by decide +kernel
theorem dL_law_609 : decode cL_law 609 = .ok (.iadd, 1) := by decide +kernel
theorem dL_law_610 : decode cL_law 610 = .ok (.iaload, 1) := by decide +kernel
theorem dL_law_611 : decode cL_law 611 = .ok (.invokevirtual 64, 3) := by decide +kernel
theorem dL_law_614 : decode cL_law 614 = .ok (.pop, 1) := by decide +kernel
theorem dL_law_615 : decode cL_law 615 = .ok (.goto 1110, 3) := by decide +kernel
theorem dL_law_618 : decode cL_law 618 = .ok (.aload_n 1, 1) := by decide +kernel
theorem dL_law_619 : decode cL_law 619 = .ok (.aload_n 0, 1) := by decide +kernel
theorem dL_law_620 : decode cL_law 620 = .ok (.iload_n 3, 1) := by decide +kernel
theorem dL_law_621 : decode cL_law 621 = .ok (.iconst 1, 1) := by decide +kernel
theorem dL_law_622 : decode cL_law 622 = .ok (.iadd, 1) := by decide +kernel
theorem dL_law_623 : decode cL_law 623 = .ok (.iaload, 1) := by decide +kernel
theorem dL_law_624 : decode cL_law 624 = .ok (.invokevirtual 65, 3) := by decide +kernel
theorem dL_law_627 : decode cL_law 627 = .ok (.pop, 1) := by decide +kernel
theorem dL_law_628 : decode cL_law 628 = .ok (.aload_n 2, 1) := by decide +kernel
theorem dL_law_629 : decode cL_law 629 = .ok (.aload_n 0, 1) := by decide +kernel
theorem dL_law_630 : decode cL_law 630 = .ok (.iload_n 3, 1) := by decide +kernel
theorem dL_law_631 : decode cL_law 631 = .ok (.iconst 1, 1) := by decide +kernel
theorem dL_law_632 : decode cL_law 632 = .ok (.iadd, 1) := by decide +kernel
theorem dL_law_633 : decode cL_law 633 = .ok (.iaload, 1) := by decide +kernel
theorem dL_law_634 : decode cL_law 634 = .ok (.invokevirtual 68, 3) := by decide +kernel
theorem dL_law_637 : decode cL_law 637 = .ok (.pop, 1) := by decide +kernel
theorem dL_law_638 : decode cL_law 638 = .ok (.goto 1087, 3) := by decide +kernel
theorem dL_law_641 : decode cL_law 641 = .ok (.aload_n 1, 1) := by decide +kernel
theorem dL_law_642 : decode cL_law 642 = .ok (.aload_n 0, 1) := by decide +kernel
theorem dL_law_643 : decode cL_law 643 = .ok (.iload_n 3, 1) := by decide +kernel
theorem dL_law_644 : decode cL_law 644 = .ok (.iconst 1, 1) := by decide +kernel
theorem dL_law_645 : decode cL_law 645 = .ok (.iadd, 1) := by decide +kernel
theorem dL_law_646 : decode cL_law 646 = .ok (.iaload, 1) := by decide +kernel
theorem dL_law_647 : decode cL_law 647 = .ok (.aload_n 0, 1) := by decide +kernel
theorem dL_law_648 : decode cL_law 648 = .ok (.iload_n 3, 1) := by decide +kernel
theorem dL_law_649 : decode cL_law 649 = .ok (.iconst 2, 1) := by decide +kernel
theorem dL_law_650 : decode cL_law 650 = .ok (.iadd, 1) := by decide +kernel
theorem dL_law_651 : decode cL_law 651 = .ok (.iaload, 1) := by decide +kernel
theorem dL_law_652 : decode cL_law 652 = .ok (.aload_n 0, 1) := by decide +kernel
theorem dL_law_653 : decode cL_law 653 = .ok (.iload_n 3, 1) := by decide +kernel
theorem dL_law_654 : decode cL_law 654 = .ok (.iconst 3, 1) := by decide +kernel
theorem dL_law_655 : decode cL_law 655 = .ok (.iadd, 1) := by decide +kernel
theorem dL_law_656 : decode cL_law 656 = .ok (.iaload, 1) := by decide +kernel
theorem dL_law_657 : decode cL_law 657 = .ok (.invokevirtual 69, 3) := by decide +kernel
theorem dL_law_660 : decode cL_law 660 = .ok (.pop, 1) := by decide +kernel
theorem dL_law_661 : decode cL_law 661 = .ok (.aload_n 2, 1) := by decide +kernel
theorem dL_law_662 : decode cL_law 662 = .ok (.aload_n 0, 1) := by decide +kernel
theorem dL_law_663 : decode cL_law 663 = .ok (.iload_n 3, 1) := by decide +kernel
theorem dL_law_664 : decode cL_law 664 = .ok (.iconst 1, 1) := by decide +kernel
theorem dL_law_665 : decode cL_law 665 = .ok (.iadd, 1) := by decide +kernel
theorem dL_law_666 : decode cL_law 666 = .ok (.iaload, 1) := by decide +kernel
theorem dL_law_667 : decode cL_law 667 = .ok (.aload_n 0, 1) := by decide +kernel
theorem dL_law_668 : decode cL_law 668 = .ok (.iload_n 3, 1) := by decide +kernel
theorem dL_law_669 : decode cL_law 669 = .ok (.iconst 2, 1) := by decide +kernel
theorem dL_law_670 : decode cL_law 670 = .ok (.iadd, 1) := by decide +kernel
theorem dL_law_671 : decode cL_law 671 = .ok (.iaload, 1) := by decide +kernel
theorem dL_law_672 : decode cL_law 672 = .ok (.aload_n 0, 1) := by decide +kernel
theorem dL_law_673 : decode cL_law 673 = .ok (.iload_n 3, 1) := by decide +kernel
theorem dL_law_674 : decode cL_law 674 = .ok (.iconst 3, 1) := by decide +kernel
theorem dL_law_675 : decode cL_law 675 = .ok (.iadd, 1) := by decide +kernel
theorem dL_law_676 : decode cL_law 676 = .ok (.iaload, 1) := by decide +kernel
theorem dL_law_677 : decode cL_law 677 = .ok (.invokevirtual 72, 3) := by decide +kernel
theorem dL_law_680 : decode cL_law 680 = .ok (.pop, 1) := by decide +kernel
theorem dL_law_681 : decode cL_law 681 = .ok (.goto 1044, 3) := by decide +kernel
theorem dL_law_684 : decode cL_law 684 = .ok (.aload_n 1, 1) := by decide +kernel
theorem dL_law_685 : decode cL_law 685 = .ok (.aload_n 0, 1) := by decide +kernel
theorem dL_law_686 : decode cL_law 686 = .ok (.iload_n 3, 1) := by decide +kernel
theorem dL_law_687 : decode cL_law 687 = .ok (.iconst 1, 1) := by decide +kernel
theorem dL_law_688 : decode cL_law 688 = .ok (.iadd, 1) := by decide +kernel
theorem dL_law_689 : decode cL_law 689 = .ok (.iaload, 1) := by decide +kernel
theorem dL_law_690 : decode cL_law 690 = .ok (.aload_n 0, 1) := by decide +kernel
theorem dL_law_691 : decode cL_law 691 = .ok (.iload_n 3, 1) := by decide +kernel
theorem dL_law_692 : decode cL_law 692 = .ok (.iconst 2, 1) := by decide +kernel
theorem dL_law_693 : decode cL_law 693 = .ok (.iadd, 1) := by decide +kernel
theorem dL_law_694 : decode cL_law 694 = .ok (.iaload, 1) := by decide +kernel
theorem dL_law_695 : decode cL_law 695 = .ok (.invokevirtual 73, 3) := by decide +kernel
theorem dL_law_698 : decode cL_law 698 = .ok (.pop, 1) := by decide +kernel
theorem dL_law_699 : decode cL_law 699 = .ok (.aload_n 2, 1) := by decide +kernel
theorem dL_law_700 : decode cL_law 700 = .ok (.aload_n 0, 1) := by decide +kernel
theorem dL_law_701 : decode cL_law 701 = .ok (.iload_n 3, 1) := by decide +kernel
theorem dL_law_702 : decode cL_law 702 = .ok (.iconst 1, 1) := by decide +kernel
theorem dL_law_703 : decode cL_law 703 = .ok (.iadd, 1) := by decide +kernel
theorem dL_law_704 : decode cL_law 704 = .ok (.iaload, 1) := by decide +kernel
theorem dL_law_705 : decode cL_law 705 = .ok (.aload_n 0, 1) := by decide +kernel
theorem dL_law_706 : decode cL_law 706 = .ok (.iload_n 3, 1) := by decide +kernel
theorem dL_law_707 : decode cL_law 707 = .ok (.iconst 2, 1) := by decide +kernel
theorem dL_law_708 : decode cL_law 708 = .ok (.iadd, 1) := by decide +kernel
theorem dL_law_709 : decode cL_law 709 = .ok (.iaload, 1) := by decide +kernel
theorem dL_law_710 : decode cL_law 710 = .ok (.invokevirtual 76, 3) := by decide +kernel
theorem dL_law_713 : decode cL_law 713 = .ok (.pop, 1) := by decide +kernel
theorem dL_law_714 : decode cL_law 714 = .ok (.goto 1011, 3) := by decide +kernel
theorem dL_law_717 : decode cL_law 717 = .ok (.aload_n 1, 1) := by decide +kernel
theorem dL_law_718 : decode cL_law 718 = .ok (.aload_n 0, 1) := by decide +kernel
theorem dL_law_719 : decode cL_law 719 = .ok (.iload_n 3, 1) := by decide +kernel
theorem dL_law_720 : decode cL_law 720 = .ok (.iconst 1, 1) := by decide +kernel
theorem dL_law_721 : decode cL_law 721 = .ok (.iadd, 1) := by decide +kernel
theorem dL_law_722 : decode cL_law 722 = .ok (.iaload, 1) := by decide +kernel
theorem dL_law_723 : decode cL_law 723 = .ok (.invokevirtual 77, 3) := by decide +kernel
theorem dL_law_726 : decode cL_law 726 = .ok (.pop, 1) := by decide +kernel
theorem dL_law_727 : decode cL_law 727 = .ok (.aload_n 2, 1) := by decide +kernel
theorem dL_law_728 : decode cL_law 728 = .ok (.aload_n 0, 1) := by decide +kernel
theorem dL_law_729 : decode cL_law 729 = .ok (.iload_n 3, 1) := by decide +kernel
theorem dL_law_730 : decode cL_law 730 = .ok (.iconst 1, 1) := by decide +kernel
theorem dL_law_731 : decode cL_law 731 = .ok (.iadd, 1) := by decide +kernel
theorem dL_law_732 : decode cL_law 732 = .ok (.iaload, 1) := by decide +kernel
theorem dL_law_733 : decode cL_law 733 = .ok (.invokevirtual 80, 3) := by decide +kernel
theorem dL_law_736 : decode cL_law 736 = .ok (.pop, 1) := by decide +kernel
theorem dL_law_737 : decode cL_law 737 = .ok (.goto 988, 3) := by decide +kernel
theorem dL_law_740 : decode cL_law 740 = .ok (.aload_n 1, 1) := by decide +kernel
theorem dL_law_741 : decode cL_law 741 = .ok (.aload_n 0, 1) := by decide +kernel
theorem dL_law_742 : decode cL_law 742 = .ok (.iload_n 3, 1) := by decide +kernel
theorem dL_law_743 : decode cL_law 743 = .ok (.iconst 1, 1) := by decide +kernel
theorem dL_law_744 : decode cL_law 744 = .ok (.iadd, 1) := by decide +kernel
theorem dL_law_745 : decode cL_law 745 = .ok (.iaload, 1) := by decide +kernel
theorem dL_law_746 : decode cL_law 746 = .ok (.invokevirtual 81, 3) := by decide +kernel
theorem dL_law_749 : decode cL_law 749 = .ok (.pop, 1) := by decide +kernel
theorem dL_law_750 : decode cL_law 750 = .ok (.aload_n 2, 1) := by decide +kernel
theorem dL_law_751 : decode cL_law 751 = .ok (.aload_n 0, 1) := by decide +kernel
theorem dL_law_752 : decode cL_law 752 = .ok (.iload_n 3, 1) := by decide +kernel
theorem dL_law_753 : decode cL_law 753 = .ok (.iconst 1, 1) := by decide +kernel
theorem dL_law_754 : decode cL_law 754 = .ok (.iadd, 1) := by decide +kernel
theorem dL_law_755 : decode cL_law 755 = .ok (.iaload, 1) := by decide +kernel
theorem dL_law_756 : decode cL_law 756 = .ok (.invokevirtual 84, 3) := by decide +kernel
theorem dL_law_759 : decode cL_law 759 = .ok (.pop, 1) := by decide +kernel
theorem dL_law_760 : decode cL_law 760 = .ok (.goto 965, 3) := by decide +kernel
theorem dL_law_763 : decode cL_law 763 = .ok (.aload_n 1, 1) := by decide +kernel
theorem dL_law_764 : decode cL_law 764 = .ok (.aload_n 0, 1) := by decide +kernel
theorem dL_law_765 : decode cL_law 765 = .ok (.iload_n 3, 1) := by decide +kernel
theorem dL_law_766 : decode cL_law 766 = .ok (.iconst 1, 1) := by decide +kernel
theorem dL_law_767 : decode cL_law 767 = .ok (.iadd, 1) := by decide +kernel
theorem dL_law_768 : decode cL_law 768 = .ok (.iaload, 1) := by decide +kernel
theorem dL_law_769 : decode cL_law 769 = .ok (.aload_n 0, 1) := by decide +kernel
theorem dL_law_770 : decode cL_law 770 = .ok (.iload_n 3, 1) := by decide +kernel
theorem dL_law_771 : decode cL_law 771 = .ok (.iconst 2, 1) := by decide +kernel
theorem dL_law_772 : decode cL_law 772 = .ok (.iadd, 1) := by decide +kernel
theorem dL_law_773 : decode cL_law 773 = .ok (.iaload, 1) := by decide +kernel
theorem dL_law_774 : decode cL_law 774 = .ok (.invokevirtual 85, 3) := by decide +kernel
theorem dL_law_777 : decode cL_law 777 = .ok (.pop, 1) := by decide +kernel
theorem dL_law_778 : decode cL_law 778 = .ok (.aload_n 2, 1) := by decide +kernel
theorem dL_law_779 : decode cL_law 779 = .ok (.aload_n 0, 1) := by decide +kernel
theorem dL_law_780 : decode cL_law 780 = .ok (.iload_n 3, 1) := by decide +kernel
theorem dL_law_781 : decode cL_law 781 = .ok (.iconst 1, 1) := by decide +kernel
theorem dL_law_782 : decode cL_law 782 = .ok (.iadd, 1) := by decide +kernel
theorem dL_law_783 : decode cL_law 783 = .ok (.iaload, 1) := by decide +kernel
theorem dL_law_784 : decode cL_law 784 = .ok (.aload_n 0, 1) := by decide +kernel
theorem dL_law_785 : decode cL_law 785 = .ok (.iload_n 3, 1) := by decide +kernel
theorem dL_law_786 : decode cL_law 786 = .ok (.iconst 2, 1) := by decide +kernel
theorem dL_law_787 : decode cL_law 787 = .ok (.iadd, 1) := by decide +kernel
theorem dL_law_788 : decode cL_law 788 = .ok (.iaload, 1) := by decide +kernel
theorem dL_law_789 : decode cL_law 789 = .ok (.invokevirtual 88, 3) := by decide +kernel
theorem dL_law_792 : decode cL_law 792 = .ok (.pop, 1) := by decide +kernel
theorem dL_law_793 : decode cL_law 793 = .ok (.goto 932, 3) := by decide +kernel
theorem dL_law_796 : decode cL_law 796 = .ok (.aload_n 1, 1) := by decide +kernel
theorem dL_law_797 : decode cL_law 797 = .ok (.aload_n 0, 1) := by decide +kernel
theorem dL_law_798 : decode cL_law 798 = .ok (.iload_n 3, 1) := by decide +kernel
theorem dL_law_799 : decode cL_law 799 = .ok (.iconst 1, 1) := by decide +kernel
theorem dL_law_800 : decode cL_law 800 = .ok (.iadd, 1) := by decide +kernel
theorem dL_law_801 : decode cL_law 801 = .ok (.iaload, 1) := by decide +kernel
theorem dL_law_802 : decode cL_law 802 = .ok (.aload_n 0, 1) := by decide +kernel
theorem dL_law_803 : decode cL_law 803 = .ok (.iload_n 3, 1) := by decide +kernel
theorem dL_law_804 : decode cL_law 804 = .ok (.iconst 2, 1) := by decide +kernel
theorem dL_law_805 : decode cL_law 805 = .ok (.iadd, 1) := by decide +kernel
theorem dL_law_806 : decode cL_law 806 = .ok (.iaload, 1) := by decide +kernel
theorem dL_law_807 : decode cL_law 807 = .ok (.aload_n 0, 1) := by decide +kernel
theorem dL_law_808 : decode cL_law 808 = .ok (.iload_n 3, 1) := by decide +kernel
theorem dL_law_809 : decode cL_law 809 = .ok (.iconst 3, 1) := by decide +kernel
theorem dL_law_810 : decode cL_law 810 = .ok (.iadd, 1) := by decide +kernel
theorem dL_law_811 : decode cL_law 811 = .ok (.iaload, 1) := by decide +kernel
theorem dL_law_812 : decode cL_law 812 = .ok (.invokevirtual 89, 3) := by decide +kernel
theorem dL_law_815 : decode cL_law 815 = .ok (.pop, 1) := by decide +kernel
theorem dL_law_816 : decode cL_law 816 = .ok (.aload_n 2, 1) := by decide +kernel
theorem dL_law_817 : decode cL_law 817 = .ok (.aload_n 0, 1) := by decide +kernel
theorem dL_law_818 : decode cL_law 818 = .ok (.iload_n 3, 1) := by decide +kernel
theorem dL_law_819 : decode cL_law 819 = .ok (.iconst 1, 1) := by decide +kernel
theorem dL_law_820 : decode cL_law 820 = .ok (.iadd, 1) := by decide +kernel
theorem dL_law_821 : decode cL_law 821 = .ok (.iaload, 1) := by decide +kernel
theorem dL_law_822 : decode cL_law 822 = .ok (.aload_n 0, 1) := by decide +kernel
theorem dL_law_823 : decode cL_law 823 = .ok (.iload_n 3, 1) := by decide +kernel
theorem dL_law_824 : decode cL_law 824 = .ok (.iconst 2, 1) := by decide +kernel
theorem dL_law_825 : decode cL_law 825 = .ok (.iadd, 1) := by decide +kernel
theorem dL_law_826 : decode cL_law 826 = .ok (.iaload, 1) := by decide +kernel
theorem dL_law_827 : decode cL_law 827 = .ok (.aload_n 0, 1) := by decide +kernel
theorem dL_law_828 : decode cL_law 828 = .ok (.iload_n 3, 1) := by decide +kernel
theorem dL_law_829 : decode cL_law 829 = .ok (.iconst 3, 1) := by decide +kernel
theorem dL_law_830 : decode cL_law 830 = .ok (.iadd, 1) := by decide +kernel
theorem dL_law_831 : decode cL_law 831 = .ok (.iaload, 1) := by decide +kernel
theorem dL_law_832 : decode cL_law 832 = .ok (.invokevirtual 92, 3) := by decide +kernel
theorem dL_law_835 : decode cL_law 835 = .ok (.pop, 1) := by decide +kernel
theorem dL_law_836 : decode cL_law 836 = .ok (.goto 889, 3) := by decide +kernel
theorem dL_law_839 : decode cL_law 839 = .ok (.aload_n 1, 1) := by decide +kernel
theorem dL_law_840 : decode cL_law 840 = .ok (.aload_n 0, 1) := by decide +kernel
theorem dL_law_841 : decode cL_law 841 = .ok (.iload_n 3, 1) := by decide +kernel
theorem dL_law_842 : decode cL_law 842 = .ok (.iconst 1, 1) := by decide +kernel
theorem dL_law_843 : decode cL_law 843 = .ok (.iadd, 1) := by decide +kernel
theorem dL_law_844 : decode cL_law 844 = .ok (.iaload, 1) := by decide +kernel
theorem dL_law_845 : decode cL_law 845 = .ok (.aload_n 0, 1) := by decide +kernel
theorem dL_law_846 : decode cL_law 846 = .ok (.iload_n 3, 1) := by decide +kernel
theorem dL_law_847 : decode cL_law 847 = .ok (.iconst 2, 1) := by decide +kernel
theorem dL_law_848 : decode cL_law 848 = .ok (.iadd, 1) := by decide +kernel
theorem dL_law_849 : decode cL_law 849 = .ok (.iaload, 1) := by decide +kernel
theorem dL_law_850 : decode cL_law 850 = .ok (.aload_n 0, 1) := by decide +kernel
theorem dL_law_851 : decode cL_law 851 = .ok (.iload_n 3, 1) := by decide +kernel
theorem dL_law_852 : decode cL_law 852 = .ok (.iconst 3, 1) := by decide +kernel
theorem dL_law_853 : decode cL_law 853 = .ok (.iadd, 1) := by decide +kernel
theorem dL_law_854 : decode cL_law 854 = .ok (.iaload, 1) := by decide +kernel
theorem dL_law_855 : decode cL_law 855 = .ok (.aload_n 0, 1) := by decide +kernel
theorem dL_law_856 : decode cL_law 856 = .ok (.iload_n 3, 1) := by decide +kernel
theorem dL_law_857 : decode cL_law 857 = .ok (.iconst 4, 1) := by decide +kernel
theorem dL_law_858 : decode cL_law 858 = .ok (.iadd, 1) := by decide +kernel
theorem dL_law_859 : decode cL_law 859 = .ok (.iaload, 1) := by decide +kernel
theorem dL_law_860 : decode cL_law 860 = .ok (.invokevirtual 93, 3) := by decide +kernel
theorem dL_law_863 : decode cL_law 863 = .ok (.pop, 1) := by decide +kernel
theorem dL_law_864 : decode cL_law 864 = .ok (.aload_n 2, 1) := by decide +kernel
theorem dL_law_865 : decode cL_law 865 = .ok (.aload_n 0, 1) := by decide +kernel
theorem dL_law_866 : decode cL_law 866 = .ok (.iload_n 3, 1) := by decide +kernel
theorem dL_law_867 : decode cL_law 867 = .ok (.iconst 1, 1) := by decide +kernel
theorem dL_law_868 : decode cL_law 868 = .ok (.iadd, 1) := by decide +kernel
theorem dL_law_869 : decode cL_law 869 = .ok (.iaload, 1) := by decide +kernel
theorem dL_law_870 : decode cL_law 870 = .ok (.aload_n 0, 1) := by decide +kernel
theorem dL_law_871 : decode cL_law 871 = .ok (.iload_n 3, 1) := by decide +kernel
theorem dL_law_872 : decode cL_law 872 = .ok (.iconst 2, 1) := by decide +kernel
theorem dL_law_873 : decode cL_law 873 = .ok (.iadd, 1) := by decide +kernel
theorem dL_law_874 : decode cL_law 874 = .ok (.iaload, 1) := by decide +kernel
theorem dL_law_875 : decode cL_law 875 = .ok (.aload_n 0, 1) := by decide +kernel
theorem dL_law_876 : decode cL_law 876 = .ok (.iload_n 3, 1) := by decide +kernel
theorem dL_law_877 : decode cL_law 877 = .ok (.iconst 3, 1) := by decide +kernel
theorem dL_law_878 : decode cL_law 878 = .ok (.iadd, 1) := by decide +kernel
theorem dL_law_879 : decode cL_law 879 = .ok (.iaload, 1) := by decide +kernel
theorem dL_law_880 : decode cL_law 880 = .ok (.aload_n 0, 1) := by decide +kernel
theorem dL_law_881 : decode cL_law 881 = .ok (.iload_n 3, 1) := by decide +kernel
theorem dL_law_882 : decode cL_law 882 = .ok (.iconst 4, 1) := by decide +kernel
theorem dL_law_883 : decode cL_law 883 = .ok (.iadd, 1) := by decide +kernel
theorem dL_law_884 : decode cL_law 884 = .ok (.iaload, 1) := by decide +kernel
theorem dL_law_885 : decode cL_law 885 = .ok (.invokevirtual 97, 3) := by decide +kernel
theorem dL_law_888 : decode cL_law 888 = .ok (.pop, 1) := by decide +kernel
theorem dL_law_889 : decode cL_law 889 = .ok (.goto 836, 3) := by decide +kernel
theorem dL_law_892 : decode cL_law 892 = .ok (.aload_n 1, 1) := by decide +kernel
theorem dL_law_893 : decode cL_law 893 = .ok (.aload_n 0, 1) := by decide +kernel
theorem dL_law_894 : decode cL_law 894 = .ok (.iload_n 3, 1) := by decide +kernel
theorem dL_law_895 : decode cL_law 895 = .ok (.iconst 1, 1) := by decide +kernel
theorem dL_law_896 : decode cL_law 896 = .ok (.iadd, 1) := by decide +kernel
theorem dL_law_897 : decode cL_law 897 = .ok (.iaload, 1) := by decide +kernel
theorem dL_law_898 : decode cL_law 898 = .ok (.aload_n 0, 1) := by decide +kernel
theorem dL_law_899 : decode cL_law 899 = .ok (.iload_n 3, 1) := by decide +kernel
theorem dL_law_900 : decode cL_law 900 = .ok (.iconst 2, 1) := by decide +kernel
theorem dL_law_901 : decode cL_law 901 = .ok (.iadd, 1) := by decide +kernel
theorem dL_law_902 : decode cL_law 902 = .ok (.iaload, 1) := by decide +kernel
theorem dL_law_903 : decode cL_law 903 = .ok (.aload_n 0, 1) := by decide +kernel
theorem dL_law_904 : decode cL_law 904 = .ok (.iload_n 3, 1) := by decide +kernel
theorem dL_law_905 : decode cL_law 905 = .ok (.iconst 3, 1) := by decide +kernel
theorem dL_law_906 : decode cL_law 906 = .ok (.iadd, 1) := by decide +kernel
theorem dL_law_907 : decode cL_law 907 = .ok (.iaload, 1) := by decide +kernel
theorem dL_law_908 : decode cL_law 908 = .ok (.invokevirtual 98, 3) := by decide +kernel
theorem dL_law_911 : decode cL_law 911 = .ok (.pop, 1) := by decide +kernel
theorem dL_law_912 : decode cL_law 912 = .ok (.aload_n 2, 1) := by decide +kernel
theorem dL_law_913 : decode cL_law 913 = .ok (.aload_n 0, 1) := by decide +kernel
theorem dL_law_914 : decode cL_law 914 = .ok (.iload_n 3, 1) := by decide +kernel
theorem dL_law_915 : decode cL_law 915 = .ok (.iconst 1, 1) := by decide +kernel
theorem dL_law_916 : decode cL_law 916 = .ok (.iadd, 1) := by decide +kernel
theorem dL_law_917 : decode cL_law 917 = .ok (.iaload, 1) := by decide +kernel
theorem dL_law_918 : decode cL_law 918 = .ok (.aload_n 0, 1) := by decide +kernel
theorem dL_law_919 : decode cL_law 919 = .ok (.iload_n 3, 1) := by decide +kernel
theorem dL_law_920 : decode cL_law 920 = .ok (.iconst 2, 1) := by decide +kernel
theorem dL_law_921 : decode cL_law 921 = .ok (.iadd, 1) := by decide +kernel
theorem dL_law_922 : decode cL_law 922 = .ok (.iaload, 1) := by decide +kernel
theorem dL_law_923 : decode cL_law 923 = .ok (.aload_n 0, 1) := by decide +kernel
theorem dL_law_924 : decode cL_law 924 = .ok (.iload_n 3, 1) := by decide +kernel
theorem dL_law_925 : decode cL_law 925 = .ok (.iconst 3, 1) := by decide +kernel
theorem dL_law_926 : decode cL_law 926 = .ok (.iadd, 1) := by decide +kernel
theorem dL_law_927 : decode cL_law 927 = .ok (.iaload, 1) := by decide +kernel
theorem dL_law_928 : decode cL_law 928 = .ok (.invokevirtual 101, 3) := by decide +kernel
theorem dL_law_931 : decode cL_law 931 = .ok (.pop, 1) := by decide +kernel
theorem dL_law_932 : decode cL_law 932 = .ok (.goto 793, 3) := by decide +kernel
theorem dL_law_935 : decode cL_law 935 = .ok (.aload_n 1, 1) := by decide +kernel
theorem dL_law_936 : decode cL_law 936 = .ok (.aload_n 0, 1) := by decide +kernel
theorem dL_law_937 : decode cL_law 937 = .ok (.iload_n 3, 1) := by decide +kernel
theorem dL_law_938 : decode cL_law 938 = .ok (.iconst 1, 1) := by decide +kernel
theorem dL_law_939 : decode cL_law 939 = .ok (.iadd, 1) := by decide +kernel
theorem dL_law_940 : decode cL_law 940 = .ok (.iaload, 1) := by decide +kernel
theorem dL_law_941 : decode cL_law 941 = .ok (.aload_n 0, 1) := by decide +kernel
theorem dL_law_942 : decode cL_law 942 = .ok (.iload_n 3, 1) := by decide +kernel
theorem dL_law_943 : decode cL_law 943 = .ok (.iconst 2, 1) := by decide +kernel
theorem dL_law_944 : decode cL_law 944 = .ok (.iadd, 1) := by decide +kernel
theorem dL_law_945 : decode cL_law 945 = .ok (.iaload, 1) := by decide +kernel
theorem dL_law_946 : decode cL_law 946 = .ok (.aload_n 0, 1) := by decide +kernel
theorem dL_law_947 : decode cL_law 947 = .ok (.iload_n 3, 1) := by decide +kernel
theorem dL_law_948 : decode cL_law 948 = .ok (.iconst 3, 1) := by decide +kernel
theorem dL_law_949 : decode cL_law 949 = .ok (.iadd, 1) := by decide +kernel
theorem dL_law_950 : decode cL_law 950 = .ok (.iaload, 1) := by decide +kernel
theorem dL_law_951 : decode cL_law 951 = .ok (.invokevirtual 102, 3) := by decide +kernel
theorem dL_law_954 : decode cL_law 954 = .ok (.pop, 1) := by decide +kernel
theorem dL_law_955 : decode cL_law 955 = .ok (.aload_n 2, 1) := by decide +kernel
theorem dL_law_956 : decode cL_law 956 = .ok (.aload_n 0, 1) := by decide +kernel
theorem dL_law_957 : decode cL_law 957 = .ok (.iload_n 3, 1) := by decide +kernel
theorem dL_law_958 : decode cL_law 958 = .ok (.iconst 1, 1) := by decide +kernel
theorem dL_law_959 : decode cL_law 959 = .ok (.iadd, 1) := by decide +kernel
theorem dL_law_960 : decode cL_law 960 = .ok (.iaload, 1) := by decide +kernel
theorem dL_law_961 : decode cL_law 961 = .ok (.aload_n 0, 1) := by decide +kernel
theorem dL_law_962 : decode cL_law 962 = .ok (.iload_n 3, 1) := by decide +kernel
theorem dL_law_963 : decode cL_law 963 = .ok (.iconst 2, 1) := by decide +kernel
theorem dL_law_964 : decode cL_law 964 = .ok (.iadd, 1) := by decide +kernel
theorem dL_law_965 : decode cL_law 965 = .ok (.iaload, 1) := by decide +kernel
theorem dL_law_966 : decode cL_law 966 = .ok (.aload_n 0, 1) := by decide +kernel
theorem dL_law_967 : decode cL_law 967 = .ok (.iload_n 3, 1) := by decide +kernel
theorem dL_law_968 : decode cL_law 968 = .ok (.iconst 3, 1) := by decide +kernel
theorem dL_law_969 : decode cL_law 969 = .ok (.iadd, 1) := by decide +kernel
theorem dL_law_970 : decode cL_law 970 = .ok (.iaload, 1) := by decide +kernel
theorem dL_law_971 : decode cL_law 971 = .ok (.invokevirtual 105, 3) := by decide +kernel
theorem dL_law_974 : decode cL_law 974 = .ok (.pop, 1) := by decide +kernel
theorem dL_law_975 : decode cL_law 975 = .ok (.goto 750, 3) := by decide +kernel
theorem dL_law_978 : decode cL_law 978 = .ok (.aload_n 1, 1) := by decide +kernel
theorem dL_law_979 : decode cL_law 979 = .ok (.aload_n 0, 1) := by decide +kernel
theorem dL_law_980 : decode cL_law 980 = .ok (.iload_n 3, 1) := by decide +kernel
theorem dL_law_981 : decode cL_law 981 = .ok (.iconst 1, 1) := by decide +kernel
theorem dL_law_982 : decode cL_law 982 = .ok (.iadd, 1) := by decide +kernel
theorem dL_law_983 : decode cL_law 983 = .ok (.iaload, 1) := by decide +kernel
theorem dL_law_984 : decode cL_law 984 = .ok (.aload_n 0, 1) := by decide +kernel
theorem dL_law_985 : decode cL_law 985 = .ok (.iload_n 3, 1) := by decide +kernel
theorem dL_law_986 : decode cL_law 986 = .ok (.iconst 2, 1) := by decide +kernel
theorem dL_law_987 : decode cL_law 987 = .ok (.iadd, 1) := by decide +kernel
theorem dL_law_988 : decode cL_law 988 = .ok (.iaload, 1) := by decide +kernel
theorem dL_law_989 : decode cL_law 989 = .ok (.aload_n 0, 1) := by decide +kernel
theorem dL_law_990 : decode cL_law 990 = .ok (.iload_n 3, 1) := by decide +kernel
theorem dL_law_991 : decode cL_law 991 = .ok (.iconst 3, 1) := by decide +kernel
theorem dL_law_992 : decode cL_law 992 = .ok (.iadd, 1) := by decide +kernel
theorem dL_law_993 : decode cL_law 993 = .ok (.iaload, 1) := by decide +kernel
theorem dL_law_994 : decode cL_law 994 = .ok (.aload_n 0, 1) := by decide +kernel
theorem dL_law_995 : decode cL_law 995 = .ok (.iload_n 3, 1) := by decide +kernel
theorem dL_law_996 : decode cL_law 996 = .ok (.iconst 4, 1) := by decide +kernel
theorem dL_law_997 : decode cL_law 997 = .ok (.iadd, 1) := by decide +kernel
theorem dL_law_998 : decode cL_law 998 = .ok (.iaload, 1) := by decide +kernel
theorem dL_law_999 : decode cL_law 999 = .ok (.invokevirtual 106, 3) := by decide +kernel
theorem dL_law_1002 : decode cL_law 1002 = .ok (.pop2, 1) := by decide +kernel
theorem dL_law_1003 : decode cL_law 1003 = .ok (.aload_n 2, 1) := by decide +kernel
theorem dL_law_1004 : decode cL_law 1004 = .ok (.aload_n 0, 1) := by decide +kernel
theorem dL_law_1005 : decode cL_law 1005 = .ok (.iload_n 3, 1) := by decide +kernel
theorem dL_law_1006 : decode cL_law 1006 = .ok (.iconst 1, 1) := by decide +kernel
theorem dL_law_1007 : decode cL_law 1007 = .ok (.iadd, 1) := by decide +kernel
theorem dL_law_1008 : decode cL_law 1008 = .ok (.iaload, 1) := by decide +kernel
theorem dL_law_1009 : decode cL_law 1009 = .ok (.aload_n 0, 1) := by decide +kernel
theorem dL_law_1010 : decode cL_law 1010 = .ok (.iload_n 3, 1) := by decide +kernel
theorem dL_law_1011 : decode cL_law 1011 = .ok (.iconst 2, 1) := by decide +kernel
theorem dL_law_1012 : decode cL_law 1012 = .ok (.iadd, 1) := by decide +kernel
theorem dL_law_1013 : decode cL_law 1013 = .ok (.iaload, 1) := by decide +kernel
theorem dL_law_1014 : decode cL_law 1014 = .ok (.aload_n 0, 1) := by decide +kernel
theorem dL_law_1015 : decode cL_law 1015 = .ok (.iload_n 3, 1) := by decide +kernel
theorem dL_law_1016 : decode cL_law 1016 = .ok (.iconst 3, 1) := by decide +kernel
theorem dL_law_1017 : decode cL_law 1017 = .ok (.iadd, 1) := by decide +kernel
theorem dL_law_1018 : decode cL_law 1018 = .ok (.iaload, 1) := by decide +kernel
theorem dL_law_1019 : decode cL_law 1019 = .ok (.aload_n 0, 1) := by decide +kernel
theorem dL_law_1020 : decode cL_law 1020 = .ok (.iload_n 3, 1) := by decide +kernel
theorem dL_law_1021 : decode cL_law 1021 = .ok (.iconst 4, 1) := by decide +kernel
theorem dL_law_1022 : decode cL_law 1022 = .ok (.iadd, 1) := by decide +kernel
theorem dL_law_1023 : decode cL_law 1023 = .ok (.iaload, 1) := by decide +kernel
theorem dL_law_1024 : decode cL_law 1024 = .ok (.invokevirtual 110, 3) := by decide +kernel
theorem dL_law_1027 : decode cL_law 1027 = .ok (.pop2, 1) := by decide +kernel
theorem dL_law_1028 : decode cL_law 1028 = .ok (.goto 697, 3) := by decide +kernel
theorem dL_law_1031 : decode cL_law 1031 = .ok (.aload_n 1, 1) := by decide +kernel
theorem dL_law_1032 : decode cL_law 1032 = .ok (.aload_n 0, 1) := by decide +kernel
theorem dL_law_1033 : decode cL_law 1033 = .ok (.iload_n 3, 1) := by decide +kernel
theorem dL_law_1034 : decode cL_law 1034 = .ok (.iconst 1, 1) := by decide +kernel
theorem dL_law_1035 : decode cL_law 1035 = .ok (.iadd, 1) := by decide +kernel
theorem dL_law_1036 : decode cL_law 1036 = .ok (.iaload, 1) := by decide +kernel
theorem dL_law_1037 : decode cL_law 1037 = .ok (.aload_n 0, 1) := by decide +kernel
theorem dL_law_1038 : decode cL_law 1038 = .ok (.iload_n 3, 1) := by decide +kernel
theorem dL_law_1039 : decode cL_law 1039 = .ok (.iconst 2, 1) := by decide +kernel
theorem dL_law_1040 : decode cL_law 1040 = .ok (.iadd, 1) := by decide +kernel
theorem dL_law_1041 : decode cL_law 1041 = .ok (.iaload, 1) := by decide +kernel
theorem dL_law_1042 : decode cL_law 1042 = .ok (.invokevirtual 111, 3) := by decide +kernel
theorem dL_law_1045 : decode cL_law 1045 = .ok (.pop, 1) := by decide +kernel
theorem dL_law_1046 : decode cL_law 1046 = .ok (.aload_n 2, 1) := by decide +kernel
theorem dL_law_1047 : decode cL_law 1047 = .ok (.aload_n 0, 1) := by decide +kernel
theorem dL_law_1048 : decode cL_law 1048 = .ok (.iload_n 3, 1) := by decide +kernel
theorem dL_law_1049 : decode cL_law 1049 = .ok (.iconst 1, 1) := by decide +kernel
theorem dL_law_1050 : decode cL_law 1050 = .ok (.iadd, 1) := by decide +kernel
theorem dL_law_1051 : decode cL_law 1051 = .ok (.iaload, 1) := by decide +kernel
theorem dL_law_1052 : decode cL_law 1052 = .ok (.aload_n 0, 1) := by decide +kernel
theorem dL_law_1053 : decode cL_law 1053 = .ok (.iload_n 3, 1) := by decide +kernel
theorem dL_law_1054 : decode cL_law 1054 = .ok (.iconst 2, 1) := by decide +kernel
theorem dL_law_1055 : decode cL_law 1055 = .ok (.iadd, 1) := by decide +kernel
theorem dL_law_1056 : decode cL_law 1056 = .ok (.iaload, 1) := by decide +kernel
theorem dL_law_1057 : decode cL_law 1057 = .ok (.invokevirtual 114, 3) := by decide +kernel
theorem dL_law_1060 : decode cL_law 1060 = .ok (.pop, 1) := by decide +kernel
theorem dL_law_1061 : decode cL_law 1061 = .ok (.goto 664, 3) := by decide +kernel
theorem dL_law_1064 : decode cL_law 1064 = .ok (.aload_n 1, 1) := by decide +kernel
theorem dL_law_1065 : decode cL_law 1065 = .ok (.aload_n 0, 1) := by decide +kernel
theorem dL_law_1066 : decode cL_law 1066 = .ok (.iload_n 3, 1) := by decide +kernel
theorem dL_law_1067 : decode cL_law 1067 = .ok (.iconst 1, 1) := by decide +kernel
theorem dL_law_1068 : decode cL_law 1068 = .ok (.iadd, 1) := by decide +kernel
theorem dL_law_1069 : decode cL_law 1069 = .ok (.iaload, 1) := by decide +kernel
theorem dL_law_1070 : decode cL_law 1070 = .ok (.invokevirtual 115, 3) := by decide +kernel
theorem dL_law_1073 : decode cL_law 1073 = .ok (.pop, 1) := by decide +kernel
theorem dL_law_1074 : decode cL_law 1074 = .ok (.aload_n 2, 1) := by decide +kernel
theorem dL_law_1075 : decode cL_law 1075 = .ok (.aload_n 0, 1) := by decide +kernel
theorem dL_law_1076 : decode cL_law 1076 = .ok (.iload_n 3, 1) := by decide +kernel
theorem dL_law_1077 : decode cL_law 1077 = .ok (.iconst 1, 1) := by decide +kernel
theorem dL_law_1078 : decode cL_law 1078 = .ok (.iadd, 1) := by decide +kernel
theorem dL_law_1079 : decode cL_law 1079 = .ok (.iaload, 1) := by decide +kernel
theorem dL_law_1080 : decode cL_law 1080 = .ok (.invokevirtual 118, 3) := by decide +kernel
theorem dL_law_1083 : decode cL_law 1083 = .ok (.pop, 1) := by decide +kernel
theorem dL_law_1084 : decode cL_law 1084 = .ok (.goto 641, 3) := by decide +kernel
theorem dL_law_1087 : decode cL_law 1087 = .ok (.aload_n 1, 1) := by decide +kernel
theorem dL_law_1088 : decode cL_law 1088 = .ok (.aload_n 0, 1) := by decide +kernel
theorem dL_law_1089 : decode cL_law 1089 = .ok (.iload_n 3, 1) := by decide +kernel
theorem dL_law_1090 : decode cL_law 1090 = .ok (.iconst 1, 1) := by decide +kernel
theorem dL_law_1091 : decode cL_law 1091 = .ok (.iadd, 1) := by decide +kernel
theorem dL_law_1092 : decode cL_law 1092 = .ok (.iaload, 1) := by decide +kernel
theorem dL_law_1093 : decode cL_law 1093 = .ok (.aload_n 0, 1) := by decide +kernel
theorem dL_law_1094 : decode cL_law 1094 = .ok (.iload_n 3, 1) := by decide +kernel
theorem dL_law_1095 : decode cL_law 1095 = .ok (.iconst 2, 1) := by decide +kernel
theorem dL_law_1096 : decode cL_law 1096 = .ok (.iadd, 1) := by decide +kernel
theorem dL_law_1097 : decode cL_law 1097 = .ok (.iaload, 1) := by decide +kernel
theorem dL_law_1098 : decode cL_law 1098 = .ok (.invokevirtual 119, 3) := by decide +kernel
theorem dL_law_1101 : decode cL_law 1101 = .ok (.pop, 1) := by decide +kernel
theorem dL_law_1102 : decode cL_law 1102 = .ok (.aload_n 2, 1) := by decide +kernel
theorem dL_law_1103 : decode cL_law 1103 = .ok (.aload_n 0, 1) := by decide +kernel
theorem dL_law_1104 : decode cL_law 1104 = .ok (.iload_n 3, 1) := by decide +kernel
theorem dL_law_1105 : decode cL_law 1105 = .ok (.iconst 1, 1) := by decide +kernel
theorem dL_law_1106 : decode cL_law 1106 = .ok (.iadd, 1) := by decide +kernel
theorem dL_law_1107 : decode cL_law 1107 = .ok (.iaload, 1) := by decide +kernel
theorem dL_law_1108 : decode cL_law 1108 = .ok (.aload_n 0, 1) := by decide +kernel
theorem dL_law_1109 : decode cL_law 1109 = .ok (.iload_n 3, 1) := by decide +kernel
theorem dL_law_1110 : decode cL_law 1110 = .ok (.iconst 2, 1) := by decide +kernel
theorem dL_law_1111 : decode cL_law 1111 = .ok (.iadd, 1) := by decide +kernel
theorem dL_law_1112 : decode cL_law 1112 = .ok (.iaload, 1) := by decide +kernel
theorem dL_law_1113 : decode cL_law 1113 = .ok (.invokevirtual 122, 3) := by decide +kernel
theorem dL_law_1116 : decode cL_law 1116 = .ok (.pop, 1) := by decide +kernel
theorem dL_law_1117 : decode cL_law 1117 = .ok (.goto 608, 3) := by decide +kernel
theorem dL_law_1120 : decode cL_law 1120 = .ok (.aload_n 1, 1) := by decide +kernel
theorem dL_law_1121 : decode cL_law 1121 = .ok (.aload_n 0, 1) := by decide +kernel
theorem dL_law_1122 : decode cL_law 1122 = .ok (.iload_n 3, 1) := by decide +kernel
theorem dL_law_1123 : decode cL_law 1123 = .ok (.iconst 1, 1) := by decide +kernel
theorem dL_law_1124 : decode cL_law 1124 = .ok (.iadd, 1) := by decide +kernel
theorem dL_law_1125 : decode cL_law 1125 = .ok (.iaload, 1) := by decide +kernel
theorem dL_law_1126 : decode cL_law 1126 = .ok (.aload_n 0, 1) := by decide +kernel
theorem dL_law_1127 : decode cL_law 1127 = .ok (.iload_n 3, 1) := by decide +kernel
theorem dL_law_1128 : decode cL_law 1128 = .ok (.iconst 2, 1) := by decide +kernel
theorem dL_law_1129 : decode cL_law 1129 = .ok (.iadd, 1) := by decide +kernel
theorem dL_law_1130 : decode cL_law 1130 = .ok (.iaload, 1) := by decide +kernel
theorem dL_law_1131 : decode cL_law 1131 = .ok (.aload_n 0, 1) := by decide +kernel
theorem dL_law_1132 : decode cL_law 1132 = .ok (.iload_n 3, 1) := by decide +kernel
theorem dL_law_1133 : decode cL_law 1133 = .ok (.iconst 3, 1) := by decide +kernel
theorem dL_law_1134 : decode cL_law 1134 = .ok (.iadd, 1) := by decide +kernel
theorem dL_law_1135 : decode cL_law 1135 = .ok (.iaload, 1) := by decide +kernel
theorem dL_law_1136 : decode cL_law 1136 = .ok (.invokevirtual 123, 3) := by decide +kernel
theorem dL_law_1139 : decode cL_law 1139 = .ok (.pop, 1) := by decide +kernel
theorem dL_law_1140 : decode cL_law 1140 = .ok (.aload_n 2, 1) := by decide +kernel
theorem dL_law_1141 : decode cL_law 1141 = .ok (.aload_n 0, 1) := by decide +kernel
theorem dL_law_1142 : decode cL_law 1142 = .ok (.iload_n 3, 1) := by decide +kernel
theorem dL_law_1143 : decode cL_law 1143 = .ok (.iconst 1, 1) := by decide +kernel
theorem dL_law_1144 : decode cL_law 1144 = .ok (.iadd, 1) := by decide +kernel
theorem dL_law_1145 : decode cL_law 1145 = .ok (.iaload, 1) := by decide +kernel
theorem dL_law_1146 : decode cL_law 1146 = .ok (.aload_n 0, 1) := by decide +kernel
theorem dL_law_1147 : decode cL_law 1147 = .ok (.iload_n 3, 1) := by decide +kernel
theorem dL_law_1148 : decode cL_law 1148 = .ok (.iconst 2, 1) := by decide +kernel
theorem dL_law_1149 : decode cL_law 1149 = .ok (.iadd, 1) := by decide +kernel
theorem dL_law_1150 : decode cL_law 1150 = .ok (.iaload, 1) := by decide +kernel
theorem dL_law_1151 : decode cL_law 1151 = .ok (.aload_n 0, 1) := by decide +kernel
theorem dL_law_1152 : decode cL_law 1152 = .ok (.iload_n 3, 1) := by decide +kernel
theorem dL_law_1153 : decode cL_law 1153 = .ok (.iconst 3, 1) := by decide +kernel
theorem dL_law_1154 : decode cL_law 1154 = .ok (.iadd, 1) := by decide +kernel
theorem dL_law_1155 : decode cL_law 1155 = .ok (.iaload, 1) := by decide +kernel
theorem dL_law_1156 : decode cL_law 1156 = .ok (.invokevirtual 126, 3) := by decide +kernel
theorem dL_law_1159 : decode cL_law 1159 = .ok (.pop, 1) := by decide +kernel
theorem dL_law_1160 : decode cL_law 1160 = .ok (.goto 565, 3) := by decide +kernel
theorem dL_law_1163 : decode cL_law 1163 = .ok (.aload_n 1, 1) := by decide +kernel
theorem dL_law_1164 : decode cL_law 1164 = .ok (.aload_n 0, 1) := by decide +kernel
theorem dL_law_1165 : decode cL_law 1165 = .ok (.iload_n 3, 1) := by decide +kernel
theorem dL_law_1166 : decode cL_law 1166 = .ok (.iconst 1, 1) := by decide +kernel
theorem dL_law_1167 : decode cL_law 1167 = .ok (.iadd, 1) := by decide +kernel
theorem dL_law_1168 : decode cL_law 1168 = .ok (.iaload, 1) := by decide +kernel
theorem dL_law_1169 : decode cL_law 1169 = .ok (.aload_n 0, 1) := by decide +kernel
theorem dL_law_1170 : decode cL_law 1170 = .ok (.iload_n 3, 1) := by decide +kernel
theorem dL_law_1171 : decode cL_law 1171 = .ok (.iconst 2, 1) := by decide +kernel
theorem dL_law_1172 : decode cL_law 1172 = .ok (.iadd, 1) := by decide +kernel
theorem dL_law_1173 : decode cL_law 1173 = .ok (.iaload, 1) := by decide +kernel
theorem dL_law_1174 : decode cL_law 1174 = .ok (.aload_n 0, 1) := by decide +kernel
theorem dL_law_1175 : decode cL_law 1175 = .ok (.iload_n 3, 1) := by decide +kernel
theorem dL_law_1176 : decode cL_law 1176 = .ok (.iconst 3, 1) := by decide +kernel
theorem dL_law_1177 : decode cL_law 1177 = .ok (.iadd, 1) := by decide +kernel
theorem dL_law_1178 : decode cL_law 1178 = .ok (.iaload, 1) := by decide +kernel
theorem dL_law_1179 : decode cL_law 1179 = .ok (.aload_n 0, 1) := by decide +kernel
theorem dL_law_1180 : decode cL_law 1180 = .ok (.iload_n 3, 1) := by decide +kernel
theorem dL_law_1181 : decode cL_law 1181 = .ok (.iconst 4, 1) := by decide +kernel
theorem dL_law_1182 : decode cL_law 1182 = .ok (.iadd, 1) := by decide +kernel
theorem dL_law_1183 : decode cL_law 1183 = .ok (.iaload, 1) := by decide +kernel
theorem dL_law_1184 : decode cL_law 1184 = .ok (.invokevirtual 127, 3) := by decide +kernel
theorem dL_law_1187 : decode cL_law 1187 = .ok (.pop, 1) := by decide +kernel
theorem dL_law_1188 : decode cL_law 1188 = .ok (.aload_n 2, 1) := by decide +kernel
theorem dL_law_1189 : decode cL_law 1189 = .ok (.aload_n 0, 1) := by decide +kernel
theorem dL_law_1190 : decode cL_law 1190 = .ok (.iload_n 3, 1) := by decide +kernel
theorem dL_law_1191 : decode cL_law 1191 = .ok (.iconst 1, 1) := by decide +kernel
theorem dL_law_1192 : decode cL_law 1192 = .ok (.iadd, 1) := by decide +kernel
theorem dL_law_1193 : decode cL_law 1193 = .ok (.iaload, 1) := by decide +kernel
theorem dL_law_1194 : decode cL_law 1194 = .ok (.aload_n 0, 1) := by decide +kernel
theorem dL_law_1195 : decode cL_law 1195 = .ok (.iload_n 3, 1) := by decide +kernel
theorem dL_law_1196 : decode cL_law 1196 = .ok (.iconst 2, 1) := by decide +kernel
theorem dL_law_1197 : decode cL_law 1197 = .ok (.iadd, 1) := by decide +kernel
theorem dL_law_1198 : decode cL_law 1198 = .ok (.iaload, 1) := by decide +kernel
theorem dL_law_1199 : decode cL_law 1199 = .ok (.aload_n 0, 1) := by decide +kernel
theorem dL_law_1200 : decode cL_law 1200 = .ok (.iload_n 3, 1) := by decide +kernel
theorem dL_law_1201 : decode cL_law 1201 = .ok (.iconst 3, 1) := by decide +kernel
theorem dL_law_1202 : decode cL_law 1202 = .ok (.iadd, 1) := by decide +kernel
theorem dL_law_1203 : decode cL_law 1203 = .ok (.iaload, 1) := by decide +kernel
theorem dL_law_1204 : decode cL_law 1204 = .ok (.aload_n 0, 1) := by decide +kernel
theorem dL_law_1205 : decode cL_law 1205 = .ok (.iload_n 3, 1) := by decide +kernel
theorem dL_law_1206 : decode cL_law 1206 = .ok (.iconst 4, 1) := by decide +kernel
theorem dL_law_1207 : decode cL_law 1207 = .ok (.iadd, 1) := by decide +kernel
theorem dL_law_1208 : decode cL_law 1208 = .ok (.iaload, 1) := by decide +kernel
theorem dL_law_1209 : decode cL_law 1209 = .ok (.invokevirtual 130, 3) := by decide +kernel
theorem dL_law_1212 : decode cL_law 1212 = .ok (.pop, 1) := by decide +kernel
theorem dL_law_1213 : decode cL_law 1213 = .ok (.goto 512, 3) := by decide +kernel
theorem dL_law_1216 : decode cL_law 1216 = .ok (.aload_n 1, 1) := by decide +kernel
theorem dL_law_1217 : decode cL_law 1217 = .ok (.aload_n 0, 1) := by decide +kernel
theorem dL_law_1218 : decode cL_law 1218 = .ok (.iload_n 3, 1) := by decide +kernel
theorem dL_law_1219 : decode cL_law 1219 = .ok (.iconst 1, 1) := by decide +kernel
theorem dL_law_1220 : decode cL_law 1220 = .ok (.iadd, 1) := by decide +kernel
theorem dL_law_1221 : decode cL_law 1221 = .ok (.iaload, 1) := by decide +kernel
theorem dL_law_1222 : decode cL_law 1222 = .ok (.aload_n 0, 1) := by decide +kernel
theorem dL_law_1223 : decode cL_law 1223 = .ok (.iload_n 3, 1) := by decide +kernel
theorem dL_law_1224 : decode cL_law 1224 = .ok (.iconst 2, 1) := by decide +kernel
theorem dL_law_1225 : decode cL_law 1225 = .ok (.iadd, 1) := by decide +kernel
theorem dL_law_1226 : decode cL_law 1226 = .ok (.iaload, 1) := by decide +kernel
theorem dL_law_1227 : decode cL_law 1227 = .ok (.aload_n 0, 1) := by decide +kernel
theorem dL_law_1228 : decode cL_law 1228 = .ok (.iload_n 3, 1) := by decide +kernel
theorem dL_law_1229 : decode cL_law 1229 = .ok (.iconst 3, 1) := by decide +kernel
theorem dL_law_1230 : decode cL_law 1230 = .ok (.iadd, 1) := by decide +kernel
theorem dL_law_1231 : decode cL_law 1231 = .ok (.iaload, 1) := by decide +kernel
theorem dL_law_1232 : decode cL_law 1232 = .ok (.invokevirtual 131, 3) := by decide +kernel
theorem dL_law_1235 : decode cL_law 1235 = .ok (.pop, 1) := by decide +kernel
theorem dL_law_1236 : decode cL_law 1236 = .ok (.aload_n 2, 1) := by decide +kernel
theorem dL_law_1237 : decode cL_law 1237 = .ok (.aload_n 0, 1) := by decide +kernel
theorem dL_law_1238 : decode cL_law 1238 = .ok (.iload_n 3, 1) := by decide +kernel
theorem dL_law_1239 : decode cL_law 1239 = .ok (.iconst 1, 1) := by decide +kernel
theorem dL_law_1240 : decode cL_law 1240 = .ok (.iadd, 1) := by decide +kernel
theorem dL_law_1241 : decode cL_law 1241 = .ok (.iaload, 1) := by decide +kernel
theorem dL_law_1242 : decode cL_law 1242 = .ok (.aload_n 0, 1) := by decide +kernel
theorem dL_law_1243 : decode cL_law 1243 = .ok (.iload_n 3, 1) := by decide +kernel
theorem dL_law_1244 : decode cL_law 1244 = .ok (.iconst 2, 1) := by decide +kernel
theorem dL_law_1245 : decode cL_law 1245 = .ok (.iadd, 1) := by decide +kernel
theorem dL_law_1246 : decode cL_law 1246 = .ok (.iaload, 1) := by decide +kernel
theorem dL_law_1247 : decode cL_law 1247 = .ok (.aload_n 0, 1) := by decide +kernel
theorem dL_law_1248 : decode cL_law 1248 = .ok (.iload_n 3, 1) := by decide +kernel
theorem dL_law_1249 : decode cL_law 1249 = .ok (.iconst 3, 1) := by decide +kernel
theorem dL_law_1250 : decode cL_law 1250 = .ok (.iadd, 1) := by decide +kernel
theorem dL_law_1251 : decode cL_law 1251 = .ok (.iaload, 1) := by decide +kernel
theorem dL_law_1252 : decode cL_law 1252 = .ok (.invokevirtual 134, 3) := by decide +kernel
theorem dL_law_1255 : decode cL_law 1255 = .ok (.pop, 1) := by decide +kernel
theorem dL_law_1256 : decode cL_law 1256 = .ok (.goto 469, 3) := by decide +kernel
theorem dL_law_1259 : decode cL_law 1259 = .ok (.aload_n 1, 1) := by decide +kernel
theorem dL_law_1260 : decode cL_law 1260 = .ok (.aload_n 0, 1) := by decide +kernel
theorem dL_law_1261 : decode cL_law 1261 = .ok (.iload_n 3, 1) := by decide +kernel
theorem dL_law_1262 : decode cL_law 1262 = .ok (.iconst 1, 1) := by decide +kernel
theorem dL_law_1263 : decode cL_law 1263 = .ok (.iadd, 1) := by decide +kernel
theorem dL_law_1264 : decode cL_law 1264 = .ok (.iaload, 1) := by decide +kernel
theorem dL_law_1265 : decode cL_law 1265 = .ok (.aload_n 0, 1) := by decide +kernel
theorem dL_law_1266 : decode cL_law 1266 = .ok (.iload_n 3, 1) := by decide +kernel
theorem dL_law_1267 : decode cL_law 1267 = .ok (.iconst 2, 1) := by decide +kernel
theorem dL_law_1268 : decode cL_law 1268 = .ok (.iadd, 1) := by decide +kernel
theorem dL_law_1269 : decode cL_law 1269 = .ok (.iaload, 1) := by decide +kernel
theorem dL_law_1270 : decode cL_law 1270 = .ok (.aload_n 0, 1) := by decide +kernel
theorem dL_law_1271 : decode cL_law 1271 = .ok (.iload_n 3, 1) := by decide +kernel
theorem dL_law_1272 : decode cL_law 1272 = .ok (.iconst 3, 1) := by decide +kernel
theorem dL_law_1273 : decode cL_law 1273 = .ok (.iadd, 1) := by decide +kernel
theorem dL_law_1274 : decode cL_law 1274 = .ok (.iaload, 1) := by decide +kernel
theorem dL_law_1275 : decode cL_law 1275 = .ok (.invokevirtual 135, 3) := by decide +kernel
theorem dL_law_1278 : decode cL_law 1278 = .ok (.pop, 1) := by decide +kernel
theorem dL_law_1279 : decode cL_law 1279 = .ok (.aload_n 2, 1) := by decide +kernel
theorem dL_law_1280 : decode cL_law 1280 = .ok (.aload_n 0, 1) := by decide +kernel
theorem dL_law_1281 : decode cL_law 1281 = .ok (.iload_n 3, 1) := by decide +kernel
theorem dL_law_1282 : decode cL_law 1282 = .ok (.iconst 1, 1) := by decide +kernel
theorem dL_law_1283 : decode cL_law 1283 = .ok (.iadd, 1) := by decide +kernel
theorem dL_law_1284 : decode cL_law 1284 = .ok (.iaload, 1) := by decide +kernel
theorem dL_law_1285 : decode cL_law 1285 = .ok (.aload_n 0, 1) := by decide +kernel
theorem dL_law_1286 : decode cL_law 1286 = .ok (.iload_n 3, 1) := by decide +kernel
theorem dL_law_1287 : decode cL_law 1287 = .ok (.iconst 2, 1) := by decide +kernel
theorem dL_law_1288 : decode cL_law 1288 = .ok (.iadd, 1) := by decide +kernel
theorem dL_law_1289 : decode cL_law 1289 = .ok (.iaload, 1) := by decide +kernel
theorem dL_law_1290 : decode cL_law 1290 = .ok (.aload_n 0, 1) := by decide +kernel
theorem dL_law_1291 : decode cL_law 1291 = .ok (.iload_n 3, 1) := by decide +kernel
theorem dL_law_1292 : decode cL_law 1292 = .ok (.iconst 3, 1) := by decide +kernel
theorem dL_law_1293 : decode cL_law 1293 = .ok (.iadd, 1) := by decide +kernel
theorem dL_law_1294 : decode cL_law 1294 = .ok (.iaload, 1) := by decide +kernel
theorem dL_law_1295 : decode cL_law 1295 = .ok (.invokevirtual 138, 3) := by decide +kernel
theorem dL_law_1298 : decode cL_law 1298 = .ok (.pop, 1) := by decide +kernel
theorem dL_law_1299 : decode cL_law 1299 = .ok (.goto 426, 3) := by decide +kernel
theorem dL_law_1302 : decode cL_law 1302 = .ok (.aload_n 1, 1) := by decide +kernel
theorem dL_law_1303 : decode cL_law 1303 = .ok (.invokevirtual 139, 3) := by decide +kernel
theorem dL_law_1306 : decode cL_law 1306 = .ok (.pop, 1) := by decide +kernel
theorem dL_law_1307 : decode cL_law 1307 = .ok (.aload_n 2, 1) := by decide +kernel
theorem dL_law_1308 : decode cL_law 1308 = .ok (.invokevirtual 143, 3) := by decide +kernel
theorem dL_law_1311 : decode cL_law 1311 = .ok (.pop, 1) := by decide +kernel
theorem dL_law_1312 : decode cL_law 1312 = .ok (.goto 413, 3) := by decide +kernel
theorem dL_law_1315 : decode cL_law 1315 = .ok (.aload_n 1, 1) := by decide +kernel
theorem dL_law_1316 : decode cL_law 1316 = .ok (.aload_n 0, 1) := by decide +kernel
theorem dL_law_1317 : decode cL_law 1317 = .ok (.iload_n 3, 1) := by decide +kernel
theorem dL_law_1318 : decode cL_law 1318 = .ok (.iconst 1, 1) := by decide +kernel
theorem dL_law_1319 : decode cL_law 1319 = .ok (.iadd, 1) := by decide +kernel
theorem dL_law_1320 : decode cL_law 1320 = .ok (.iaload, 1) := by decide +kernel
theorem dL_law_1321 : decode cL_law 1321 = .ok (.invokevirtual 144, 3) := by decide +kernel
theorem dL_law_1324 : decode cL_law 1324 = .ok (.pop, 1) := by decide +kernel
theorem dL_law_1325 : decode cL_law 1325 = .ok (.aload_n 2, 1) := by decide +kernel
theorem dL_law_1326 : decode cL_law 1326 = .ok (.aload_n 0, 1) := by decide +kernel
theorem dL_law_1327 : decode cL_law 1327 = .ok (.iload_n 3, 1) := by decide +kernel
theorem dL_law_1328 : decode cL_law 1328 = .ok (.iconst 1, 1) := by decide +kernel
theorem dL_law_1329 : decode cL_law 1329 = .ok (.iadd, 1) := by decide +kernel
theorem dL_law_1330 : decode cL_law 1330 = .ok (.iaload, 1) := by decide +kernel
theorem dL_law_1331 : decode cL_law 1331 = .ok (.invokevirtual 147, 3) := by decide +kernel
theorem dL_law_1334 : decode cL_law 1334 = .ok (.pop, 1) := by decide +kernel
theorem dL_law_1335 : decode cL_law 1335 = .ok (.goto 390, 3) := by decide +kernel
theorem dL_law_1338 : decode cL_law 1338 = .ok (.aload_n 1, 1) := by decide +kernel
theorem dL_law_1339 : decode cL_law 1339 = .ok (.aload_n 0, 1) := by decide +kernel
theorem dL_law_1340 : decode cL_law 1340 = .ok (.iload_n 3, 1) := by decide +kernel
theorem dL_law_1341 : decode cL_law 1341 = .ok (.iconst 1, 1) := by decide +kernel
theorem dL_law_1342 : decode cL_law 1342 = .ok (.iadd, 1) := by decide +kernel
theorem dL_law_1343 : decode cL_law 1343 = .ok (.iaload, 1) := by decide +kernel
theorem dL_law_1344 : decode cL_law 1344 = .ok (.aload_n 0, 1) := by decide +kernel
theorem dL_law_1345 : decode cL_law 1345 = .ok (.iload_n 3, 1) := by decide +kernel
theorem dL_law_1346 : decode cL_law 1346 = .ok (.iconst 2, 1) := by decide +kernel
theorem dL_law_1347 : decode cL_law 1347 = .ok (.iadd, 1) := by decide +kernel
theorem dL_law_1348 : decode cL_law 1348 = .ok (.iaload, 1) := by decide +kernel
theorem dL_law_1349 : decode cL_law 1349 = .ok (.aload_n 0, 1) := by decide +kernel
theorem dL_law_1350 : decode cL_law 1350 = .ok (.iload_n 3, 1) := by decide +kernel
theorem dL_law_1351 : decode cL_law 1351 = .ok (.iconst 3, 1) := by decide +kernel
theorem dL_law_1352 : decode cL_law 1352 = .ok (.iadd, 1) := by decide +kernel
theorem dL_law_1353 : decode cL_law 1353 = .ok (.iaload, 1) := by decide +kernel
theorem dL_law_1354 : decode cL_law 1354 = .ok (.invokevirtual 148, 3) := by decide +kernel
theorem dL_law_1357 : decode cL_law 1357 = .ok (.pop, 1) := by decide +kernel
theorem dL_law_1358 : decode cL_law 1358 = .ok (.aload_n 2, 1) := by decide +kernel
theorem dL_law_1359 : decode cL_law 1359 = .ok (.aload_n 0, 1) := by decide +kernel
theorem dL_law_1360 : decode cL_law 1360 = .ok (.iload_n 3, 1) := by decide +kernel
theorem dL_law_1361 : decode cL_law 1361 = .ok (.iconst 1, 1) := by decide +kernel
theorem dL_law_1362 : decode cL_law 1362 = .ok (.iadd, 1) := by decide +kernel
theorem dL_law_1363 : decode cL_law 1363 = .ok (.iaload, 1) := by decide +kernel
theorem dL_law_1364 : decode cL_law 1364 = .ok (.aload_n 0, 1) := by decide +kernel
theorem dL_law_1365 : decode cL_law 1365 = .ok (.iload_n 3, 1) := by decide +kernel
theorem dL_law_1366 : decode cL_law 1366 = .ok (.iconst 2, 1) := by decide +kernel
theorem dL_law_1367 : decode cL_law 1367 = .ok (.iadd, 1) := by decide +kernel
theorem dL_law_1368 : decode cL_law 1368 = .ok (.iaload, 1) := by decide +kernel
theorem dL_law_1369 : decode cL_law 1369 = .ok (.aload_n 0, 1) := by decide +kernel
theorem dL_law_1370 : decode cL_law 1370 = .ok (.iload_n 3, 1) := by decide +kernel
theorem dL_law_1371 : decode cL_law 1371 = .ok (.iconst 3, 1) := by decide +kernel
theorem dL_law_1372 : decode cL_law 1372 = .ok (.iadd, 1) := by decide +kernel
theorem dL_law_1373 : decode cL_law 1373 = .ok (.iaload, 1) := by decide +kernel
theorem dL_law_1374 : decode cL_law 1374 = .ok (.invokevirtual 151, 3) := by decide +kernel
theorem dL_law_1377 : decode cL_law 1377 = .ok (.pop, 1) := by decide +kernel
theorem dL_law_1378 : decode cL_law 1378 = .ok (.goto 347, 3) := by decide +kernel
theorem dL_law_1381 : decode cL_law 1381 = .ok (.aload_n 1, 1) := by decide +kernel
theorem dL_law_1382 : decode cL_law 1382 = .ok (.aload_n 0, 1) := by decide +kernel
theorem dL_law_1383 : decode cL_law 1383 = .ok (.iload_n 3, 1) := by decide +kernel
theorem dL_law_1384 : decode cL_law 1384 = .ok (.iconst 1, 1) := by decide +kernel
theorem dL_law_1385 : decode cL_law 1385 = .ok (.iadd, 1) := by decide +kernel
theorem dL_law_1386 : decode cL_law 1386 = .ok (.iaload, 1) := by decide +kernel
theorem dL_law_1387 : decode cL_law 1387 = .ok (.aload_n 0, 1) := by decide +kernel
theorem dL_law_1388 : decode cL_law 1388 = .ok (.iload_n 3, 1) := by decide +kernel
theorem dL_law_1389 : decode cL_law 1389 = .ok (.iconst 2, 1) := by decide +kernel
theorem dL_law_1390 : decode cL_law 1390 = .ok (.iadd, 1) := by decide +kernel
theorem dL_law_1391 : decode cL_law 1391 = .ok (.iaload, 1) := by decide +kernel
theorem dL_law_1392 : decode cL_law 1392 = .ok (.aload_n 0, 1) := by decide +kernel
theorem dL_law_1393 : decode cL_law 1393 = .ok (.iload_n 3, 1) := by decide +kernel
theorem dL_law_1394 : decode cL_law 1394 = .ok (.iconst 3, 1) := by decide +kernel
theorem dL_law_1395 : decode cL_law 1395 = .ok (.iadd, 1) := by decide +kernel
theorem dL_law_1396 : decode cL_law 1396 = .ok (.iaload, 1) := by decide +kernel
theorem dL_law_1397 : decode cL_law 1397 = .ok (.aload_n 0, 1) := by decide +kernel
theorem dL_law_1398 : decode cL_law 1398 = .ok (.iload_n 3, 1) := by decide +kernel
theorem dL_law_1399 : decode cL_law 1399 = .ok (.iconst 4, 1) := by decide +kernel
theorem dL_law_1400 : decode cL_law 1400 = .ok (.iadd, 1) := by decide +kernel
theorem dL_law_1401 : decode cL_law 1401 = .ok (.iaload, 1) := by decide +kernel
theorem dL_law_1402 : decode cL_law 1402 = .ok (.invokevirtual 152, 3) := by decide +kernel
theorem dL_law_1405 : decode cL_law 1405 = .ok (.pop, 1) := by decide +kernel
theorem dL_law_1406 : decode cL_law 1406 = .ok (.aload_n 2, 1) := by decide +kernel
theorem dL_law_1407 : decode cL_law 1407 = .ok (.aload_n 0, 1) := by decide +kernel
theorem dL_law_1408 : decode cL_law 1408 = .ok (.iload_n 3, 1) := by decide +kernel
theorem dL_law_1409 : decode cL_law 1409 = .ok (.iconst 1, 1) := by decide +kernel
theorem dL_law_1410 : decode cL_law 1410 = .ok (.iadd, 1) := by decide +kernel
theorem dL_law_1411 : decode cL_law 1411 = .ok (.iaload, 1) := by decide +kernel
theorem dL_law_1412 : decode cL_law 1412 = .ok (.aload_n 0, 1) := by decide +kernel
theorem dL_law_1413 : decode cL_law 1413 = .ok (.iload_n 3, 1) := by decide +kernel
theorem dL_law_1414 : decode cL_law 1414 = .ok (.iconst 2, 1) := by decide +kernel
theorem dL_law_1415 : decode cL_law 1415 = .ok (.iadd, 1) := by decide +kernel
theorem dL_law_1416 : decode cL_law 1416 = .ok (.iaload, 1) := by decide +kernel
theorem dL_law_1417 : decode cL_law 1417 = .ok (.aload_n 0, 1) := by decide +kernel
theorem dL_law_1418 : decode cL_law 1418 = .ok (.iload_n 3, 1) := by decide +kernel
theorem dL_law_1419 : decode cL_law 1419 = .ok (.iconst 3, 1) := by decide +kernel
theorem dL_law_1420 : decode cL_law 1420 = .ok (.iadd, 1) := by decide +kernel
theorem dL_law_1421 : decode cL_law 1421 = .ok (.iaload, 1) := by decide +kernel
theorem dL_law_1422 : decode cL_law 1422 = .ok (.aload_n 0, 1) := by decide +kernel
theorem dL_law_1423 : decode cL_law 1423 = .ok (.iload_n 3, 1) := by decide +kernel
theorem dL_law_1424 : decode cL_law 1424 = .ok (.iconst 4, 1) := by decide +kernel
theorem dL_law_1425 : decode cL_law 1425 = .ok (.iadd, 1) := by decide +kernel
theorem dL_law_1426 : decode cL_law 1426 = .ok (.iaload, 1) := by decide +kernel
theorem dL_law_1427 : decode cL_law 1427 = .ok (.invokevirtual 155, 3) := by decide +kernel
theorem dL_law_1430 : decode cL_law 1430 = .ok (.pop, 1) := by decide +kernel
theorem dL_law_1431 : decode cL_law 1431 = .ok (.goto 294, 3) := by decide +kernel
theorem dL_law_1434 : decode cL_law 1434 = .ok (.aload_n 1, 1) := by decide +kernel
theorem dL_law_1435 : decode cL_law 1435 = .ok (.aload_n 0, 1) := by decide +kernel
theorem dL_law_1436 : decode cL_law 1436 = .ok (.iload_n 3, 1) := by decide +kernel
theorem dL_law_1437 : decode cL_law 1437 = .ok (.iconst 1, 1) := by decide +kernel
theorem dL_law_1438 : decode cL_law 1438 = .ok (.iadd, 1) := by decide +kernel
theorem dL_law_1439 : decode cL_law 1439 = .ok (.iaload, 1) := by decide +kernel
theorem dL_law_1440 : decode cL_law 1440 = .ok (.aload_n 0, 1) := by decide +kernel
theorem dL_law_1441 : decode cL_law 1441 = .ok (.iload_n 3, 1) := by decide +kernel
theorem dL_law_1442 : decode cL_law 1442 = .ok (.iconst 2, 1) := by decide +kernel
theorem dL_law_1443 : decode cL_law 1443 = .ok (.iadd, 1) := by decide +kernel
theorem dL_law_1444 : decode cL_law 1444 = .ok (.iaload, 1) := by decide +kernel
theorem dL_law_1445 : decode cL_law 1445 = .ok (.aload_n 0, 1) := by decide +kernel
theorem dL_law_1446 : decode cL_law 1446 = .ok (.iload_n 3, 1) := by decide +kernel
theorem dL_law_1447 : decode cL_law 1447 = .ok (.iconst 3, 1) := by decide +kernel
theorem dL_law_1448 : decode cL_law 1448 = .ok (.iadd, 1) := by decide +kernel
theorem dL_law_1449 : decode cL_law 1449 = .ok (.iaload, 1) := by decide +kernel
theorem dL_law_1450 : decode cL_law 1450 = .ok (.aload_n 0, 1) := by decide +kernel
theorem dL_law_1451 : decode cL_law 1451 = .ok (.iload_n 3, 1) := by decide +kernel
theorem dL_law_1452 : decode cL_law 1452 = .ok (.iconst 4, 1) := by decide +kernel
theorem dL_law_1453 : decode cL_law 1453 = .ok (.iadd, 1) := by decide +kernel
theorem dL_law_1454 : decode cL_law 1454 = .ok (.iaload, 1) := by decide +kernel
theorem dL_law_1455 : decode cL_law 1455 = .ok (.invokevirtual 156, 3) := by decide +kernel
theorem dL_law_1458 : decode cL_law 1458 = .ok (.pop, 1) := by decide +kernel
theorem dL_law_1459 : decode cL_law 1459 = .ok (.aload_n 2, 1) := by decide +kernel
theorem dL_law_1460 : decode cL_law 1460 = .ok (.aload_n 0, 1) := by decide +kernel
theorem dL_law_1461 : decode cL_law 1461 = .ok (.iload_n 3, 1) := by decide +kernel
theorem dL_law_1462 : decode cL_law 1462 = .ok (.iconst 1, 1) := by decide +kernel
theorem dL_law_1463 : decode cL_law 1463 = .ok (.iadd, 1) := by decide +kernel
theorem dL_law_1464 : decode cL_law 1464 = .ok (.iaload, 1) := by decide +kernel
theorem dL_law_1465 : decode cL_law 1465 = .ok (.aload_n 0, 1) := by decide +kernel
theorem dL_law_1466 : decode cL_law 1466 = .ok (.iload_n 3, 1) := by decide +kernel
theorem dL_law_1467 : decode cL_law 1467 = .ok (.iconst 2, 1) := by decide +kernel
theorem dL_law_1468 : decode cL_law 1468 = .ok (.iadd, 1) := by decide +kernel
theorem dL_law_1469 : decode cL_law 1469 = .ok (.iaload, 1) := by decide +kernel
theorem dL_law_1470 : decode cL_law 1470 = .ok (.aload_n 0, 1) := by decide +kernel
theorem dL_law_1471 : decode cL_law 1471 = .ok (.iload_n 3, 1) := by decide +kernel
theorem dL_law_1472 : decode cL_law 1472 = .ok (.iconst 3, 1) := by decide +kernel
theorem dL_law_1473 : decode cL_law 1473 = .ok (.iadd, 1) := by decide +kernel
theorem dL_law_1474 : decode cL_law 1474 = .ok (.iaload, 1) := by decide +kernel
theorem dL_law_1475 : decode cL_law 1475 = .ok (.aload_n 0, 1) := by decide +kernel
theorem dL_law_1476 : decode cL_law 1476 = .ok (.iload_n 3, 1) := by decide +kernel
theorem dL_law_1477 : decode cL_law 1477 = .ok (.iconst 4, 1) := by decide +kernel
theorem dL_law_1478 : decode cL_law 1478 = .ok (.iadd, 1) := by decide +kernel
theorem dL_law_1479 : decode cL_law 1479 = .ok (.iaload, 1) := by decide +kernel
theorem dL_law_1480 : decode cL_law 1480 = .ok (.invokevirtual 159, 3) := by decide +kernel
theorem dL_law_1483 : decode cL_law 1483 = .ok (.pop, 1) := by decide +kernel
theorem dL_law_1484 : decode cL_law 1484 = .ok (.goto 241, 3) := by decide +kernel
theorem dL_law_1487 : decode cL_law 1487 = .ok (.aload_n 1, 1) := by decide +kernel
theorem dL_law_1488 : decode cL_law 1488 = .ok (.aload_n 0, 1) := by decide +kernel
theorem dL_law_1489 : decode cL_law 1489 = .ok (.iload_n 3, 1) := by decide +kernel
theorem dL_law_1490 : decode cL_law 1490 = .ok (.iconst 1, 1) := by decide +kernel
theorem dL_law_1491 : decode cL_law 1491 = .ok (.iadd, 1) := by decide +kernel
theorem dL_law_1492 : decode cL_law 1492 = .ok (.iaload, 1) := by decide +kernel
theorem dL_law_1493 : decode cL_law 1493 = .ok (.aload_n 0, 1) := by decide +kernel
theorem dL_law_1494 : decode cL_law 1494 = .ok (.iload_n 3, 1) := by decide +kernel
theorem dL_law_1495 : decode cL_law 1495 = .ok (.iconst 2, 1) := by decide +kernel
theorem dL_law_1496 : decode cL_law 1496 = .ok (.iadd, 1) := by decide +kernel
theorem dL_law_1497 : decode cL_law 1497 = .ok (.iaload, 1) := by decide +kernel
theorem dL_law_1498 : decode cL_law 1498 = .ok (.aload_n 0, 1) := by decide +kernel
theorem dL_law_1499 : decode cL_law 1499 = .ok (.iload_n 3, 1) := by decide +kernel
theorem dL_law_1500 : decode cL_law 1500 = .ok (.iconst 3, 1) := by decide +kernel
theorem dL_law_1501 : decode cL_law 1501 = .ok (.iadd, 1) := by decide +kernel
theorem dL_law_1502 : decode cL_law 1502 = .ok (.iaload, 1) := by decide +kernel
theorem dL_law_1503 : decode cL_law 1503 = .ok (.invokevirtual 160, 3) := by decide +kernel
theorem dL_law_1506 : decode cL_law 1506 = .ok (.pop, 1) := by decide +kernel
theorem dL_law_1507 : decode cL_law 1507 = .ok (.aload_n 2, 1) := by decide +kernel
theorem dL_law_1508 : decode cL_law 1508 = .ok (.aload_n 0, 1) := by decide +kernel
theorem dL_law_1509 : decode cL_law 1509 = .ok (.iload_n 3, 1) := by decide +kernel
theorem dL_law_1510 : decode cL_law 1510 = .ok (.iconst 1, 1) := by decide +kernel
theorem dL_law_1511 : decode cL_law 1511 = .ok (.iadd, 1) := by decide +kernel
theorem dL_law_1512 : decode cL_law 1512 = .ok (.iaload, 1) := by decide +kernel
theorem dL_law_1513 : decode cL_law 1513 = .ok (.aload_n 0, 1) := by decide +kernel
theorem dL_law_1514 : decode cL_law 1514 = .ok (.iload_n 3, 1) := by decide +kernel
theorem dL_law_1515 : decode cL_law 1515 = .ok (.iconst 2, 1) := by decide +kernel
theorem dL_law_1516 : decode cL_law 1516 = .ok (.iadd, 1) := by decide +kernel
theorem dL_law_1517 : decode cL_law 1517 = .ok (.iaload, 1) := by decide +kernel
theorem dL_law_1518 : decode cL_law 1518 = .ok (.aload_n 0, 1) := by decide +kernel
theorem dL_law_1519 : decode cL_law 1519 = .ok (.iload_n 3, 1) := by decide +kernel
theorem dL_law_1520 : decode cL_law 1520 = .ok (.iconst 3, 1) := by decide +kernel
theorem dL_law_1521 : decode cL_law 1521 = .ok (.iadd, 1) := by decide +kernel
theorem dL_law_1522 : decode cL_law 1522 = .ok (.iaload, 1) := by decide +kernel
theorem dL_law_1523 : decode cL_law 1523 = .ok (.invokevirtual 163, 3) := by decide +kernel
theorem dL_law_1526 : decode cL_law 1526 = .ok (.pop, 1) := by decide +kernel
theorem dL_law_1527 : decode cL_law 1527 = .ok (.goto 198, 3) := by decide +kernel
theorem dL_law_1530 : decode cL_law 1530 = .ok (.aload_n 1, 1) := by decide +kernel
theorem dL_law_1531 : decode cL_law 1531 = .ok (.aload_n 0, 1) := by decide +kernel
theorem dL_law_1532 : decode cL_law 1532 = .ok (.iload_n 3, 1) := by decide +kernel
theorem dL_law_1533 : decode cL_law 1533 = .ok (.iconst 1, 1) := by decide +kernel
theorem dL_law_1534 : decode cL_law 1534 = .ok (.iadd, 1) := by decide +kernel
theorem dL_law_1535 : decode cL_law 1535 = .ok (.iaload, 1) := by decide +kernel
theorem dL_law_1536 : decode cL_law 1536 = .ok (.aload_n 0, 1) := by decide +kernel
theorem dL_law_1537 : decode cL_law 1537 = .ok (.iload_n 3, 1) := by decide +kernel
theorem dL_law_1538 : decode cL_law 1538 = .ok (.iconst 2, 1) := by decide +kernel
theorem dL_law_1539 : decode cL_law 1539 = .ok (.iadd, 1) := by decide +kernel
theorem dL_law_1540 : decode cL_law 1540 = .ok (.iaload, 1) := by decide +kernel
theorem dL_law_1541 : decode cL_law 1541 = .ok (.aload_n 0, 1) := by decide +kernel
theorem dL_law_1542 : decode cL_law 1542 = .ok (.iload_n 3, 1) := by decide +kernel
theorem dL_law_1543 : decode cL_law 1543 = .ok (.iconst 3, 1) := by decide +kernel
theorem dL_law_1544 : decode cL_law 1544 = .ok (.iadd, 1) := by decide +kernel
theorem dL_law_1545 : decode cL_law 1545 = .ok (.iaload, 1) := by decide +kernel
theorem dL_law_1546 : decode cL_law 1546 = .ok (.i2l, 1) := by decide +kernel
theorem dL_law_1547 : decode cL_law 1547 = .ok (.bipush 32, 2) := by decide +kernel
theorem dL_law_1549 : decode cL_law 1549 = .ok (.lshl, 1) := by decide +kernel
theorem dL_law_1550 : decode cL_law 1550 = .ok (.aload_n 0, 1) := by decide +kernel
theorem dL_law_1551 : decode cL_law 1551 = .ok (.iload_n 3, 1) := by decide +kernel
theorem dL_law_1552 : decode cL_law 1552 = .ok (.iconst 4, 1) := by decide +kernel
theorem dL_law_1553 : decode cL_law 1553 = .ok (.iadd, 1) := by decide +kernel
theorem dL_law_1554 : decode cL_law 1554 = .ok (.iaload, 1) := by decide +kernel
theorem dL_law_1555 : decode cL_law 1555 = .ok (.i2l, 1) := by decide +kernel
theorem dL_law_1556 : decode cL_law 1556 = .ok (.ldc2_w 164, 3) := by decide +kernel
theorem dL_law_1559 : decode cL_law 1559 = .ok (.land, 1) := by decide +kernel
theorem dL_law_1560 : decode cL_law 1560 = .ok (.lor, 1) := by decide +kernel
theorem dL_law_1561 : decode cL_law 1561 = .ok (.invokevirtual 166, 3) := by decide +kernel
theorem dL_law_1564 : decode cL_law 1564 = .ok (.pop2, 1) := by decide +kernel
theorem dL_law_1565 : decode cL_law 1565 = .ok (.aload_n 2, 1) := by decide +kernel
theorem dL_law_1566 : decode cL_law 1566 = .ok (.aload_n 0, 1) := by decide +kernel
theorem dL_law_1567 : decode cL_law 1567 = .ok (.iload_n 3, 1) := by decide +kernel
theorem dL_law_1568 : decode cL_law 1568 = .ok (.iconst 1, 1) := by decide +kernel
theorem dL_law_1569 : decode cL_law 1569 = .ok (.iadd, 1) := by decide +kernel
theorem dL_law_1570 : decode cL_law 1570 = .ok (.iaload, 1) := by decide +kernel
theorem dL_law_1571 : decode cL_law 1571 = .ok (.aload_n 0, 1) := by decide +kernel
theorem dL_law_1572 : decode cL_law 1572 = .ok (.iload_n 3, 1) := by decide +kernel
theorem dL_law_1573 : decode cL_law 1573 = .ok (.iconst 2, 1) := by decide +kernel
theorem dL_law_1574 : decode cL_law 1574 = .ok (.iadd, 1) := by decide +kernel
theorem dL_law_1575 : decode cL_law 1575 = .ok (.iaload, 1) := by decide +kernel
theorem dL_law_1576 : decode cL_law 1576 = .ok (.aload_n 0, 1) := by decide +kernel
theorem dL_law_1577 : decode cL_law 1577 = .ok (.iload_n 3, 1) := by decide +kernel
theorem dL_law_1578 : decode cL_law 1578 = .ok (.iconst 3, 1) := by decide +kernel
theorem dL_law_1579 : decode cL_law 1579 = .ok (.iadd, 1) := by decide +kernel
theorem dL_law_1580 : decode cL_law 1580 = .ok (.iaload, 1) := by decide +kernel
theorem dL_law_1581 : decode cL_law 1581 = .ok (.i2l, 1) := by decide +kernel
theorem dL_law_1582 : decode cL_law 1582 = .ok (.bipush 32, 2) := by decide +kernel
theorem dL_law_1584 : decode cL_law 1584 = .ok (.lshl, 1) := by decide +kernel
theorem dL_law_1585 : decode cL_law 1585 = .ok (.aload_n 0, 1) := by decide +kernel
theorem dL_law_1586 : decode cL_law 1586 = .ok (.iload_n 3, 1) := by decide +kernel
theorem dL_law_1587 : decode cL_law 1587 = .ok (.iconst 4, 1) := by decide +kernel
theorem dL_law_1588 : decode cL_law 1588 = .ok (.iadd, 1) := by decide +kernel
theorem dL_law_1589 : decode cL_law 1589 = .ok (.iaload, 1) := by decide +kernel
theorem dL_law_1590 : decode cL_law 1590 = .ok (.i2l, 1) := by decide +kernel
theorem dL_law_1591 : decode cL_law 1591 = .ok (.ldc2_w 164, 3) := by decide +kernel
theorem dL_law_1594 : decode cL_law 1594 = .ok (.land, 1) := by decide +kernel
theorem dL_law_1595 : decode cL_law 1595 = .ok (.lor, 1) := by decide +kernel
theorem dL_law_1596 : decode cL_law 1596 = .ok (.invokevirtual 170, 3) := by decide +kernel
theorem dL_law_1599 : decode cL_law 1599 = .ok (.pop2, 1) := by decide +kernel
theorem dL_law_1600 : decode cL_law 1600 = .ok (.goto 125, 3) := by decide +kernel
theorem dL_law_1603 : decode cL_law 1603 = .ok (.aload_n 1, 1) := by decide +kernel
theorem dL_law_1604 : decode cL_law 1604 = .ok (.aload_n 0, 1) := by decide +kernel
theorem dL_law_1605 : decode cL_law 1605 = .ok (.iload_n 3, 1) := by decide +kernel
theorem dL_law_1606 : decode cL_law 1606 = .ok (.iconst 1, 1) := by decide +kernel
theorem dL_law_1607 : decode cL_law 1607 = .ok (.iadd, 1) := by decide +kernel
theorem dL_law_1608 : decode cL_law 1608 = .ok (.iaload, 1) := by decide +kernel
theorem dL_law_1609 : decode cL_law 1609 = .ok (.aload_n 0, 1) := by decide +kernel
theorem dL_law_1610 : decode cL_law 1610 = .ok (.iload_n 3, 1) := by decide +kernel
theorem dL_law_1611 : decode cL_law 1611 = .ok (.iconst 2, 1) := by decide +kernel
theorem dL_law_1612 : decode cL_law 1612 = .ok (.iadd, 1) := by decide +kernel
theorem dL_law_1613 : decode cL_law 1613 = .ok (.iaload, 1) := by decide +kernel
theorem dL_law_1614 : decode cL_law 1614 = .ok (.aload_n 0, 1) := by decide +kernel
theorem dL_law_1615 : decode cL_law 1615 = .ok (.iload_n 3, 1) := by decide +kernel
theorem dL_law_1616 : decode cL_law 1616 = .ok (.iconst 3, 1) := by decide +kernel
theorem dL_law_1617 : decode cL_law 1617 = .ok (.iadd, 1) := by decide +kernel
theorem dL_law_1618 : decode cL_law 1618 = .ok (.iaload, 1) := by decide +kernel
theorem dL_law_1619 : decode cL_law 1619 = .ok (.aload_n 0, 1) := by decide +kernel
theorem dL_law_1620 : decode cL_law 1620 = .ok (.iload_n 3, 1) := by decide +kernel
theorem dL_law_1621 : decode cL_law 1621 = .ok (.iconst 4, 1) := by decide +kernel
theorem dL_law_1622 : decode cL_law 1622 = .ok (.iadd, 1) := by decide +kernel
theorem dL_law_1623 : decode cL_law 1623 = .ok (.iaload, 1) := by decide +kernel
theorem dL_law_1624 : decode cL_law 1624 = .ok (.invokevirtual 171, 3) := by decide +kernel
theorem dL_law_1627 : decode cL_law 1627 = .ok (.pop, 1) := by decide +kernel
theorem dL_law_1628 : decode cL_law 1628 = .ok (.aload_n 2, 1) := by decide +kernel
theorem dL_law_1629 : decode cL_law 1629 = .ok (.aload_n 0, 1) := by decide +kernel
theorem dL_law_1630 : decode cL_law 1630 = .ok (.iload_n 3, 1) := by decide +kernel
theorem dL_law_1631 : decode cL_law 1631 = .ok (.iconst 1, 1) := by decide +kernel
theorem dL_law_1632 : decode cL_law 1632 = .ok (.iadd, 1) := by decide +kernel
theorem dL_law_1633 : decode cL_law 1633 = .ok (.iaload, 1) := by decide +kernel
theorem dL_law_1634 : decode cL_law 1634 = .ok (.aload_n 0, 1) := by decide +kernel
theorem dL_law_1635 : decode cL_law 1635 = .ok (.iload_n 3, 1) := by decide +kernel
theorem dL_law_1636 : decode cL_law 1636 = .ok (.iconst 2, 1) := by decide +kernel
theorem dL_law_1637 : decode cL_law 1637 = .ok (.iadd, 1) := by decide +kernel
theorem dL_law_1638 : decode cL_law 1638 = .ok (.iaload, 1) := by decide +kernel
theorem dL_law_1639 : decode cL_law 1639 = .ok (.aload_n 0, 1) := by decide +kernel
theorem dL_law_1640 : decode cL_law 1640 = .ok (.iload_n 3, 1) := by decide +kernel
theorem dL_law_1641 : decode cL_law 1641 = .ok (.iconst 3, 1) := by decide +kernel
theorem dL_law_1642 : decode cL_law 1642 = .ok (.iadd, 1) := by decide +kernel
theorem dL_law_1643 : decode cL_law 1643 = .ok (.iaload, 1) := by decide +kernel
theorem dL_law_1644 : decode cL_law 1644 = .ok (.aload_n 0, 1) := by decide +kernel
theorem dL_law_1645 : decode cL_law 1645 = .ok (.iload_n 3, 1) := by decide +kernel
theorem dL_law_1646 : decode cL_law 1646 = .ok (.iconst 4, 1) := by decide +kernel
theorem dL_law_1647 : decode cL_law 1647 = .ok (.iadd, 1) := by decide +kernel
theorem dL_law_1648 : decode cL_law 1648 = .ok (.iaload, 1) := by decide +kernel
theorem dL_law_1649 : decode cL_law 1649 = .ok (.invokevirtual 174, 3) := by decide +kernel
theorem dL_law_1652 : decode cL_law 1652 = .ok (.pop, 1) := by decide +kernel
theorem dL_law_1653 : decode cL_law 1653 = .ok (.goto 72, 3) := by decide +kernel
theorem dL_law_1656 : decode cL_law 1656 = .ok (.aload_n 1, 1) := by decide +kernel
theorem dL_law_1657 : decode cL_law 1657 = .ok (.aload_n 0, 1) := by decide +kernel
theorem dL_law_1658 : decode cL_law 1658 = .ok (.iload_n 3, 1) := by decide +kernel
theorem dL_law_1659 : decode cL_law 1659 = .ok (.iconst 1, 1) := by decide +kernel
theorem dL_law_1660 : decode cL_law 1660 = .ok (.iadd, 1) := by decide +kernel
theorem dL_law_1661 : decode cL_law 1661 = .ok (.iaload, 1) := by decide +kernel
theorem dL_law_1662 : decode cL_law 1662 = .ok (.invokevirtual 175, 3) := by decide +kernel
theorem dL_law_1665 : decode cL_law 1665 = .ok (.pop, 1) := by decide +kernel
theorem dL_law_1666 : decode cL_law 1666 = .ok (.aload_n 2, 1) := by decide +kernel
theorem dL_law_1667 : decode cL_law 1667 = .ok (.aload_n 0, 1) := by decide +kernel
theorem dL_law_1668 : decode cL_law 1668 = .ok (.iload_n 3, 1) := by decide +kernel
theorem dL_law_1669 : decode cL_law 1669 = .ok (.iconst 1, 1) := by decide +kernel
theorem dL_law_1670 : decode cL_law 1670 = .ok (.iadd, 1) := by decide +kernel
theorem dL_law_1671 : decode cL_law 1671 = .ok (.iaload, 1) := by decide +kernel
theorem dL_law_1672 : decode cL_law 1672 = .ok (.invokevirtual 178, 3) := by decide +kernel
theorem dL_law_1675 : decode cL_law 1675 = .ok (.pop, 1) := by decide +kernel
theorem dL_law_1676 : decode cL_law 1676 = .ok (.goto 49, 3) := by decide +kernel
theorem dL_law_1679 : decode cL_law 1679 = .ok (.aload_n 1, 1) := by decide +kernel
theorem dL_law_1680 : decode cL_law 1680 = .ok (.aload_n 0, 1) := by decide +kernel
theorem dL_law_1681 : decode cL_law 1681 = .ok (.iload_n 3, 1) := by decide +kernel
theorem dL_law_1682 : decode cL_law 1682 = .ok (.iconst 1, 1) := by decide +kernel
theorem dL_law_1683 : decode cL_law 1683 = .ok (.iadd, 1) := by decide +kernel
theorem dL_law_1684 : decode cL_law 1684 = .ok (.iaload, 1) := by decide +kernel
theorem dL_law_1685 : decode cL_law 1685 = .ok (.invokevirtual 179, 3) := by decide +kernel
theorem dL_law_1688 : decode cL_law 1688 = .ok (.pop, 1) := by decide +kernel
theorem dL_law_1689 : decode cL_law 1689 = .ok (.aload_n 2, 1) := by decide +kernel
theorem dL_law_1690 : decode cL_law 1690 = .ok (.aload_n 0, 1) := by decide +kernel
theorem dL_law_1691 : decode cL_law 1691 = .ok (.iload_n 3, 1) := by decide +kernel
theorem dL_law_1692 : decode cL_law 1692 = .ok (.iconst 1, 1) := by decide +kernel
theorem dL_law_1693 : decode cL_law 1693 = .ok (.iadd, 1) := by decide +kernel
theorem dL_law_1694 : decode cL_law 1694 = .ok (.iaload, 1) := by decide +kernel
theorem dL_law_1695 : decode cL_law 1695 = .ok (.invokevirtual 182, 3) := by decide +kernel
theorem dL_law_1698 : decode cL_law 1698 = .ok (.pop, 1) := by decide +kernel
theorem dL_law_1699 : decode cL_law 1699 = .ok (.goto 26, 3) := by decide +kernel
theorem dL_law_1702 : decode cL_law 1702 = .ok (.aload_n 1, 1) := by decide +kernel
theorem dL_law_1703 : decode cL_law 1703 = .ok (.aload_n 0, 1) := by decide +kernel
theorem dL_law_1704 : decode cL_law 1704 = .ok (.iload_n 3, 1) := by decide +kernel
theorem dL_law_1705 : decode cL_law 1705 = .ok (.iconst 1, 1) := by decide +kernel
theorem dL_law_1706 : decode cL_law 1706 = .ok (.iadd, 1) := by decide +kernel
theorem dL_law_1707 : decode cL_law 1707 = .ok (.iaload, 1) := by decide +kernel
theorem dL_law_1708 : decode cL_law 1708 = .ok (.invokevirtual 183, 3) := by decide +kernel
theorem dL_law_1711 : decode cL_law 1711 = .ok (.pop, 1) := by decide +kernel
theorem dL_law_1712 : decode cL_law 1712 = .ok (.aload_n 2, 1) := by decide +kernel
theorem dL_law_1713 : decode cL_law 1713 = .ok (.aload_n 0, 1) := by decide +kernel
theorem dL_law_1714 : decode cL_law 1714 = .ok (.iload_n 3, 1) := by decide +kernel
theorem dL_law_1715 : decode cL_law 1715 = .ok (.iconst 1, 1) := by decide +kernel
theorem dL_law_1716 : decode cL_law 1716 = .ok (.iadd, 1) := by decide +kernel
theorem dL_law_1717 : decode cL_law 1717 = .ok (.iaload, 1) := by decide +kernel
theorem dL_law_1718 : decode cL_law 1718 = .ok (.invokevirtual 186, 3) := by decide +kernel
theorem dL_law_1721 : decode cL_law 1721 = .ok (.pop, 1) := by decide +kernel
theorem dL_law_1722 : decode cL_law 1722 = .ok (.goto 3, 3) := by decide +kernel
theorem dL_law_1725 : decode cL_law 1725 = .ok (.iinc 3 6, 3) := by decide +kernel
theorem dL_law_1728 : decode cL_law 1728 = .ok (.goto (-1710), 3) := by decide +kernel
theorem dL_law_1731 : decode cL_law 1731 = .ok (.iconst 1, 1) := by decide +kernel
theorem dL_law_1732 : decode cL_law 1732 = .ok (.ireturn, 1) := by decide +kernel
def RW (n : Int) (adC adM : Nat → Nat) (wc wm : va_W) : Prop := RA n (xso SC adC wc) (xso SM adM wm)
theorem RW.up {adC adM : Nat → Nat} {wc wm : va_W} {i : Int32} (h : RW (1000 + 20 * i.toInt) adC adM wc wm) (h0 : 0 ≤ i.toInt) (h4 : i.toInt ≤ 4000) : RW (1000 + 20 * (i.toInt + 6)) adC adM wc wm := by
  obtain ⟨w, hh, H⟩ := h
  exact ⟨w, hh, H.le (by omega) (by omega)⟩
theorem RW.nx {adC adM : Nat → Nat} {wc wm : va_W} {i : Int32} (h : RA (1000 + 20 * i.toInt + 120) (xso SC adC wc) (xso SM adM wm)) : RW (1000 + 20 * (i.toInt + 6)) adC adM wc wm := by
  have e : 1000 + 20 * (i.toInt + 6) = 1000 + 20 * i.toInt + 120 := by omega
  unfold RW
  rw [e]
  exact h
theorem RW.at {adC adM : Nat → Nat} {wc wm : va_W} {i : Int32} (h : RW (1000 + 20 * (i.toInt + 6)) adC adM wc wm) (e : (i + 6).toInt = i.toInt + 6) : RW (1000 + 20 * (i + 6).toInt) adC adM wc wm := by
  rw [e]
  exact h
def CI (G : GG) (ad : Nat → Nat) (ws : va_W) : Prop := Ty G SC ad ws ∧ Rel ws ∧ Hok ws
def MI (G : GG) (ad : Nat → Nat) (ws : va_W) : Prop := Ty G SM ad ws ∧ J ws
theorem lw_in {L : Nat} {x : Int32} (hL : L ≤ 3072) (h0 : 0 ≤ x.toInt) (h1 : x.toInt < L) : vp_in x L := by
  obtain ⟨e1, e2⟩ := nI_int h0 h1
  rw [e1]
  exact vp_in_nI e2 (by omega)
theorem lw_arg {p : Program} {l : Launch} {e : Env} {s : State} {m : MethodId} {below : List Frame} {meth : Method} {c : Code} {b L : Nat} {xs : Nat → Int32} {A : Nat → Prop} {G : GG} (C0 : Cx p s m #[Value.ref b] meth c RL cL_law 4 (some .boolean)) (hX : va_X b L xs s s.heap) (hbl : b < s.heap.size) (hbA : ¬ A b) (hL : L ≤ 3072) {H : Heap} {locs : List Loc} {ls : Array Slot} {ws : va_W} {i : Int32} {x o pc : Nat} {k : Int} {rest : List Value} {cells slots : Nat} {Q : State → Prop} (h : Wd G A s H locs ws) (hl : lv_has ls 4 [(0, .ref b), (1, .ref x), (2, .ref o), (3, .int i)]) (h0 : 0 ≤ i.toInt) (h6 : i.toInt + 6 ≤ L) (hk : 0 ≤ k ∧ k ≤ 5) (hn : (Int32.ofInt k).toInt = k) (d1 : decode cL_law pc = .ok (.aload_n 0, 1)) (d2 : decode cL_law (pc + 1) = .ok (.iload_n 3, 1)) (d3 : decode cL_law (pc + 2) = .ok (.iconst k, 1)) (d4 : decode cL_law (pc + 3) = .ok (.iadd, 1)) (d5 : decode cL_law (pc + 4) = .ok (.iaload, 1))
    (kk : ∀ v : Int32, v = xs (i.toInt + k).toNat → W p l e room_1 s m #[Value.ref b] below meth c H locs cells slots Q (F0 m (pc + 5) ls (.int v :: rest))) : W p l e room_1 s m #[Value.ref b] below meth c H locs cells slots Q (F0 m pc ls rest) := by
  refine lv_aload_n C0.1 C0.2.1 d1 rfl (lv_at hl 0 rfl) ?_
  refine lv_iload_n C0.1 C0.2.1 d2 rfl (lv_at hl 3 rfl) ?_
  refine y_c1 (n := k) C0 hn d3 (fun z hz => ?_)
  refine lv_iadd C0.1 C0.2.1 d4 ?_
  have e : (i + z).toInt = i.toInt + z.toInt := t_add (by omega) (by omega)
  exact va_sld C0.1 C0.2.1 hX hbl hbA h.2.2.2.1 (lw_in hL (by omega) (by omega)) d5 (kk _ (by
    show xs (i + z).toInt.toNat = _
    rw [e, hz]))
set_option maxHeartbeats 4000000 in
theorem law_case_0 {p : Program} {l : Launch} {e : Env} {s : State} {m : MethodId} {below : List Frame} {meth : Method} {c : Code} {b L : Nat} {xs : Nat → Int32} {A : Nat → Prop} {G : GG} (C0 : Cx p s m #[Value.ref b] meth c RL cL_law 4 (some .boolean)) (hX : va_X b L xs s s.heap) (hbl : b < s.heap.size) (hbA : ¬ A b) (hL : L ≤ 3072) {Z : RZ} (hZ : Ro Z A s s.heap) {adC adM : Nat → Nat} {H : Heap} {locs : List Loc} {ls : Array Slot} {wc wm : va_W} {i : Int32} (h0 : 0 ≤ i.toInt) (h6 : i.toInt + 6 ≤ L) (h : Wd G A s H locs (wc ++ wm)) (hC : CI G adC wc) (hM : MI G adM wm) (hV : RW (1000 + 20 * i.toInt) adC adM wc wm) (hl : lv_has ls 4 [(0, .ref b), (1, .ref (adC 0)), (2, .ref (adM 0)), (3, .int i)]) (kk : ∀ (H : Heap) (locs : List Loc) (wc wm : va_W), Wd G A s H locs (wc ++ wm) → CI G adC wc → MI G adM wm → RW (1000 + 20 * (i.toInt + 6)) adC adM wc wm → W p l e room_1 s m #[Value.ref b] below meth c H locs 1000 200000 (lw_Z below #[Value.ref b] s) (F0 m 1725 ls [])) : W p l e room_1 s m #[Value.ref b] below meth c H locs 1000 200000 (lw_Z below #[Value.ref b] s) (F0 m 212 ls []) := by
  obtain ⟨hTc, hR, hH⟩ := hC
  obtain ⟨hTm, hJ⟩ := hM
  refine lv_aload_n C0.1 C0.2.1 dL_law_212 rfl (lv_at hl 1 rfl) ?_
  refine lw_arg (k := 1) C0 hX hbl hbA hL h hl h0 h6 (by decide) (by decide) dL_law_213 dL_law_214 dL_law_215 dL_law_216 dL_law_217 (fun v1 ev1 => ?_)
  refine lw_arg (k := 2) C0 hX hbl hbA hL h hl h0 h6 (by decide) (by decide) dL_law_218 dL_law_219 dL_law_220 dL_law_221 dL_law_222 (fun v2 ev2 => ?_)
  refine lw_arg (k := 3) C0 hX hbl hbA hL h hl h0 h6 (by decide) (by decide) dL_law_223 dL_law_224 dL_law_225 dL_law_226 dL_law_227 (fun v3 ev3 => ?_)
  refine lw_arg (k := 4) C0 hX hbl hbA hL h hl h0 h6 (by decide) (by decide) dL_law_228 dL_law_229 dL_law_230 dL_law_231 dL_law_232 (fun v4 ev4 => ?_)
  refine lw_arg (k := 5) C0 hX hbl hbA hL h hl h0 h6 (by decide) (by decide) dL_law_233 dL_law_234 dL_law_235 dL_law_236 dL_law_237 (fun v5 ev5 => ?_)
  refine z_ci (S := SC) (ad := adC) h (z_rV (S := SC) (ad := adC) (i := 0) (κ := 0) (ci := 11) (As := [.int v1, .int v2, .int v3, .int v4, .int v5]) (rest := []) C0 hZ h hTc (c_X11_feed l G Z adC wc hTc v1 v2 v3 v4 v5 hR hH) k_X11_feed q_575 q_576 q_574 kSC_0 rfl rfl rfl hl.1 rfl rfl (Nat.le_of_ble_eq_true rfl) dL_law_238 ⟨Nat.le_of_ble_eq_true rfl, Nat.le_of_ble_eq_true rfl⟩ ⟨Nat.le_of_ble_eq_true rfl, Nat.le_of_ble_eq_true rfl⟩) (fun r6 H locs wc1 h hTc1 hFc1 hp7 => ?_)
  obtain ⟨xs1, xr1, _, _, hR1, hH1⟩ := hp7
  refine lv_pop C0.1 C0.2.1 dL_law_241 rfl ?_
  refine lv_aload_n C0.1 C0.2.1 dL_law_242 rfl (lv_at hl 2 rfl) ?_
  refine lw_arg (k := 1) C0 hX hbl hbA hL h hl h0 h6 (by decide) (by decide) dL_law_243 dL_law_244 dL_law_245 dL_law_246 dL_law_247 (fun v8 ev8 => ?_)
  refine lw_arg (k := 2) C0 hX hbl hbA hL h hl h0 h6 (by decide) (by decide) dL_law_248 dL_law_249 dL_law_250 dL_law_251 dL_law_252 (fun v9 ev9 => ?_)
  refine lw_arg (k := 3) C0 hX hbl hbA hL h hl h0 h6 (by decide) (by decide) dL_law_253 dL_law_254 dL_law_255 dL_law_256 dL_law_257 (fun v10 ev10 => ?_)
  refine lw_arg (k := 4) C0 hX hbl hbA hL h hl h0 h6 (by decide) (by decide) dL_law_258 dL_law_259 dL_law_260 dL_law_261 dL_law_262 (fun v11 ev11 => ?_)
  refine lw_arg (k := 5) C0 hX hbl hbA hL h hl h0 h6 (by decide) (by decide) dL_law_263 dL_law_264 dL_law_265 dL_law_266 dL_law_267 (fun v12 ev12 => ?_)
  have h := h.swap
  refine z_ci (S := SM) (ad := adM) h (z_rV (S := SM) (ad := adM) (i := 0) (κ := 0) (ci := 12) (As := [.int v8, .int v9, .int v10, .int v11, .int v12]) (rest := []) C0 hZ h hTm (c_X12_feed l G Z adM wm hTm v8 v9 v10 v11 v12) k_X12_feed q_1572 q_1573 q_1571 kSM_0 rfl rfl rfl hl.1 rfl rfl (Nat.le_of_ble_eq_true rfl) dL_law_268 ⟨Nat.le_of_ble_eq_true rfl, Nat.le_of_ble_eq_true rfl⟩ ⟨Nat.le_of_ble_eq_true rfl, Nat.le_of_ble_eq_true rfl⟩) (fun r13 H locs wm1 h hTm1 hFm1 hp14 => ?_)
  obtain ⟨xs2, xr2, _, _⟩ := hp14
  have hJ1 := hJ.pa hTm (Pa.fr hFm1 (by decide))
  have h := h.swap
  have e12 := (ev1).trans (ev8).symm
  rw [← e12] at xs2 xr2
  clear e12
  have e12 := (ev2).trans (ev9).symm
  rw [← e12] at xs2 xr2
  clear e12
  have e12 := (ev3).trans (ev10).symm
  rw [← e12] at xs2 xr2
  clear e12
  have e12 := (ev4).trans (ev11).symm
  rw [← e12] at xs2 xr2
  clear e12
  have e12 := (ev5).trans (ev12).symm
  rw [← e12] at xs2 xr2
  clear e12
  have hq := RA_feed (N := 1000 + 20 * i.toInt) (a1 := v1.toInt) (a2 := v2.toInt) (a3 := v3.toInt) (a4 := v4.toInt) (a5 := v5.toInt) (by omega) (show RA (1000 + 20 * i.toInt) (xso SC adC wc) (xso SM adM wm) from hV) (by rw [← xs1, xso0]; exact (ty_fI (k := 2) hTc1 kSC_77 rfl rfl).2)
  rw [← xs1, ← xs2, ← xr1, ← xr2] at hq
  have hr12 : r6.toInt = r13.toInt := hq.1
  have hV1 : RW (1000 + 20 * (i.toInt + 6)) adC adM wc1 wm1 := RW.nx hq.2
  refine lv_pop C0.1 C0.2.1 dL_law_271 rfl ?_
  refine lv_goto (tgt := 1725) C0.1 C0.2.1 dL_law_272 (by decide) ?_
  exact kk _ _ _ _ h ⟨hTc1, hR1, hH1⟩ ⟨hTm1, hJ1⟩ hV1
set_option maxHeartbeats 4000000 in
theorem law_case_1 {p : Program} {l : Launch} {e : Env} {s : State} {m : MethodId} {below : List Frame} {meth : Method} {c : Code} {b L : Nat} {xs : Nat → Int32} {A : Nat → Prop} {G : GG} (C0 : Cx p s m #[Value.ref b] meth c RL cL_law 4 (some .boolean)) (hX : va_X b L xs s s.heap) (hbl : b < s.heap.size) (hbA : ¬ A b) (hL : L ≤ 3072) {Z : RZ} (hZ : Ro Z A s s.heap) {adC adM : Nat → Nat} {H : Heap} {locs : List Loc} {ls : Array Slot} {wc wm : va_W} {i : Int32} (h0 : 0 ≤ i.toInt) (h6 : i.toInt + 6 ≤ L) (h : Wd G A s H locs (wc ++ wm)) (hC : CI G adC wc) (hM : MI G adM wm) (hV : RW (1000 + 20 * i.toInt) adC adM wc wm) (hl : lv_has ls 4 [(0, .ref b), (1, .ref (adC 0)), (2, .ref (adM 0)), (3, .int i)]) (kk : ∀ (H : Heap) (locs : List Loc) (wc wm : va_W), Wd G A s H locs (wc ++ wm) → CI G adC wc → MI G adM wm → RW (1000 + 20 * (i.toInt + 6)) adC adM wc wm → W p l e room_1 s m #[Value.ref b] below meth c H locs 1000 200000 (lw_Z below #[Value.ref b] s) (F0 m 1725 ls [])) : W p l e room_1 s m #[Value.ref b] below meth c H locs 1000 200000 (lw_Z below #[Value.ref b] s) (F0 m 275 ls []) := by
  obtain ⟨hTc, hR, hH⟩ := hC
  obtain ⟨hTm, hJ⟩ := hM
  refine lv_aload_n C0.1 C0.2.1 dL_law_275 rfl (lv_at hl 1 rfl) ?_
  refine lw_arg (k := 1) C0 hX hbl hbA hL h hl h0 h6 (by decide) (by decide) dL_law_276 dL_law_277 dL_law_278 dL_law_279 dL_law_280 (fun v1 ev1 => ?_)
  refine z_ci (S := SC) (ad := adC) h (z_rV (S := SC) (ad := adC) (i := 0) (κ := 0) (ci := 11) (As := [.int v1]) (rest := []) C0 hZ h hTc (c_X11_city l G Z adC wc hTc v1 hR hH) k_X11_city q_591 q_592 q_590 kSC_0 rfl rfl rfl hl.1 rfl rfl (Nat.le_of_ble_eq_true rfl) dL_law_281 ⟨Nat.le_of_ble_eq_true rfl, Nat.le_of_ble_eq_true rfl⟩ ⟨Nat.le_of_ble_eq_true rfl, Nat.le_of_ble_eq_true rfl⟩) (fun r2 H locs wc1 h hTc1 hFc1 hp3 => ?_)
  obtain ⟨xs1, xr1, hR1, hH1⟩ := hp3
  refine lv_pop C0.1 C0.2.1 dL_law_284 rfl ?_
  refine lv_aload_n C0.1 C0.2.1 dL_law_285 rfl (lv_at hl 2 rfl) ?_
  refine lw_arg (k := 1) C0 hX hbl hbA hL h hl h0 h6 (by decide) (by decide) dL_law_286 dL_law_287 dL_law_288 dL_law_289 dL_law_290 (fun v4 ev4 => ?_)
  have h := h.swap
  refine z_ci (S := SM) (ad := adM) h (z_rV (S := SM) (ad := adM) (i := 0) (κ := 0) (ci := 12) (As := [.int v4]) (rest := []) C0 hZ h hTm (c_X12_city l G Z adM wm hTm v4 hJ) k_X12_city q_1576 q_1577 q_1575 kSM_0 rfl rfl rfl hl.1 rfl rfl (Nat.le_of_ble_eq_true rfl) dL_law_291 ⟨Nat.le_of_ble_eq_true rfl, Nat.le_of_ble_eq_true rfl⟩ ⟨Nat.le_of_ble_eq_true rfl, Nat.le_of_ble_eq_true rfl⟩) (fun r5 H locs wm1 h hTm1 hFm1 hp6 => ?_)
  obtain ⟨xs2, xr2, hJ1⟩ := hp6
  have h := h.swap
  have e12 := (ev1).trans (ev4).symm
  rw [← e12] at xs2 xr2
  clear e12
  have hq := RA_city (N := 1000 + 20 * i.toInt) (a1 := v1.toInt) (by omega) (show RA (1000 + 20 * i.toInt) (xso SC adC wc) (xso SM adM wm) from hV) (by rw [← xs1, xso0]; exact (ty_fI (k := 3) hTc1 kSC_2 rfl rfl).2) (by rw [← xs1, xso0]; exact (ty_fI (k := 3) hTc1 kSC_6 rfl rfl).2) (by rw [← xs2, xso1]; exact rg_i _)
  rw [← xs1, ← xs2, ← xr1, ← xr2] at hq
  have hr12 : r2.toInt = r5.toInt := hq.1
  have hV1 : RW (1000 + 20 * (i.toInt + 6)) adC adM wc1 wm1 := RW.nx hq.2
  refine lv_pop C0.1 C0.2.1 dL_law_294 rfl ?_
  refine lv_goto (tgt := 1725) C0.1 C0.2.1 dL_law_295 (by decide) ?_
  exact kk _ _ _ _ h ⟨hTc1, hR1, hH1⟩ ⟨hTm1, hJ1⟩ hV1
set_option maxHeartbeats 4000000 in
theorem law_case_2 {p : Program} {l : Launch} {e : Env} {s : State} {m : MethodId} {below : List Frame} {meth : Method} {c : Code} {b L : Nat} {xs : Nat → Int32} {A : Nat → Prop} {G : GG} (C0 : Cx p s m #[Value.ref b] meth c RL cL_law 4 (some .boolean)) (hX : va_X b L xs s s.heap) (hbl : b < s.heap.size) (hbA : ¬ A b) (hL : L ≤ 3072) {Z : RZ} (hZ : Ro Z A s s.heap) {adC adM : Nat → Nat} {H : Heap} {locs : List Loc} {ls : Array Slot} {wc wm : va_W} {i : Int32} (h0 : 0 ≤ i.toInt) (h6 : i.toInt + 6 ≤ L) (h : Wd G A s H locs (wc ++ wm)) (hC : CI G adC wc) (hM : MI G adM wm) (hV : RW (1000 + 20 * i.toInt) adC adM wc wm) (hl : lv_has ls 4 [(0, .ref b), (1, .ref (adC 0)), (2, .ref (adM 0)), (3, .int i)]) (kk : ∀ (H : Heap) (locs : List Loc) (wc wm : va_W), Wd G A s H locs (wc ++ wm) → CI G adC wc → MI G adM wm → RW (1000 + 20 * (i.toInt + 6)) adC adM wc wm → W p l e room_1 s m #[Value.ref b] below meth c H locs 1000 200000 (lw_Z below #[Value.ref b] s) (F0 m 1725 ls [])) : W p l e room_1 s m #[Value.ref b] below meth c H locs 1000 200000 (lw_Z below #[Value.ref b] s) (F0 m 298 ls []) := by
  obtain ⟨hTc, hR, hH⟩ := hC
  obtain ⟨hTm, hJ⟩ := hM
  refine lv_aload_n C0.1 C0.2.1 dL_law_298 rfl (lv_at hl 1 rfl) ?_
  refine lw_arg (k := 1) C0 hX hbl hbA hL h hl h0 h6 (by decide) (by decide) dL_law_299 dL_law_300 dL_law_301 dL_law_302 dL_law_303 (fun v1 ev1 => ?_)
  refine z_ci (S := SC) (ad := adC) h (z_rV (S := SC) (ad := adC) (i := 0) (κ := 0) (ci := 11) (As := [.int v1]) (rest := []) C0 hZ h hTc (c_X11_fault l G Z adC wc hTc v1 hR hH) k_X11_fault q_886 q_887 q_885 kSC_0 rfl rfl rfl hl.1 rfl rfl (Nat.le_of_ble_eq_true rfl) dL_law_304 ⟨Nat.le_of_ble_eq_true rfl, Nat.le_of_ble_eq_true rfl⟩ ⟨Nat.le_of_ble_eq_true rfl, Nat.le_of_ble_eq_true rfl⟩) (fun r2 H locs wc1 h hTc1 hFc1 hp3 => ?_)
  obtain ⟨xs1, xr1, hR1, hH1⟩ := hp3
  refine lv_pop C0.1 C0.2.1 dL_law_307 rfl ?_
  refine lv_aload_n C0.1 C0.2.1 dL_law_308 rfl (lv_at hl 2 rfl) ?_
  refine lw_arg (k := 1) C0 hX hbl hbA hL h hl h0 h6 (by decide) (by decide) dL_law_309 dL_law_310 dL_law_311 dL_law_312 dL_law_313 (fun v4 ev4 => ?_)
  have h := h.swap
  refine z_ci (S := SM) (ad := adM) h (z_rV (S := SM) (ad := adM) (i := 0) (κ := 0) (ci := 12) (As := [.int v4]) (rest := []) C0 hZ h hTm (c_X12_fault l G Z adM wm hTm v4) k_X12_fault q_1684 q_1685 q_1683 kSM_0 rfl rfl rfl hl.1 rfl rfl (Nat.le_of_ble_eq_true rfl) dL_law_314 ⟨Nat.le_of_ble_eq_true rfl, Nat.le_of_ble_eq_true rfl⟩ ⟨Nat.le_of_ble_eq_true rfl, Nat.le_of_ble_eq_true rfl⟩) (fun r5 H locs wm1 h hTm1 hFm1 hp6 => ?_)
  obtain ⟨xs2, xr2⟩ := hp6
  have hJ1 := hJ.pa hTm (Pa.fr hFm1 (by decide))
  have h := h.swap
  have e12 := (ev1).trans (ev4).symm
  rw [← e12] at xs2 xr2
  clear e12
  have hq := RK_fault (N := 1000 + 20 * i.toInt) (a1 := v1.toInt) (by omega) (show RA (1000 + 20 * i.toInt) (xso SC adC wc) (xso SM adM wm) from hV)
  rw [← xs1, ← xs2] at hq
  have hV1 : RW (1000 + 20 * (i.toInt + 6)) adC adM wc1 wm1 := RW.nx hq
  refine lv_pop C0.1 C0.2.1 dL_law_317 rfl ?_
  refine lv_goto (tgt := 1725) C0.1 C0.2.1 dL_law_318 (by decide) ?_
  exact kk _ _ _ _ h ⟨hTc1, hR1, hH1⟩ ⟨hTm1, hJ1⟩ hV1
set_option maxHeartbeats 4000000 in
theorem law_case_3 {p : Program} {l : Launch} {e : Env} {s : State} {m : MethodId} {below : List Frame} {meth : Method} {c : Code} {b L : Nat} {xs : Nat → Int32} {A : Nat → Prop} {G : GG} (C0 : Cx p s m #[Value.ref b] meth c RL cL_law 4 (some .boolean)) (hX : va_X b L xs s s.heap) (hbl : b < s.heap.size) (hbA : ¬ A b) (hL : L ≤ 3072) {Z : RZ} (hZ : Ro Z A s s.heap) {adC adM : Nat → Nat} {H : Heap} {locs : List Loc} {ls : Array Slot} {wc wm : va_W} {i : Int32} (h0 : 0 ≤ i.toInt) (h6 : i.toInt + 6 ≤ L) (h : Wd G A s H locs (wc ++ wm)) (hC : CI G adC wc) (hM : MI G adM wm) (hV : RW (1000 + 20 * i.toInt) adC adM wc wm) (hl : lv_has ls 4 [(0, .ref b), (1, .ref (adC 0)), (2, .ref (adM 0)), (3, .int i)]) (kk : ∀ (H : Heap) (locs : List Loc) (wc wm : va_W), Wd G A s H locs (wc ++ wm) → CI G adC wc → MI G adM wm → RW (1000 + 20 * (i.toInt + 6)) adC adM wc wm → W p l e room_1 s m #[Value.ref b] below meth c H locs 1000 200000 (lw_Z below #[Value.ref b] s) (F0 m 1725 ls [])) : W p l e room_1 s m #[Value.ref b] below meth c H locs 1000 200000 (lw_Z below #[Value.ref b] s) (F0 m 321 ls []) := by
  obtain ⟨hTc, hR, hH⟩ := hC
  obtain ⟨hTm, hJ⟩ := hM
  refine lv_aload_n C0.1 C0.2.1 dL_law_321 rfl (lv_at hl 1 rfl) ?_
  refine lw_arg (k := 1) C0 hX hbl hbA hL h hl h0 h6 (by decide) (by decide) dL_law_322 dL_law_323 dL_law_324 dL_law_325 dL_law_326 (fun v1 ev1 => ?_)
  refine lw_arg (k := 2) C0 hX hbl hbA hL h hl h0 h6 (by decide) (by decide) dL_law_327 dL_law_328 dL_law_329 dL_law_330 dL_law_331 (fun v2 ev2 => ?_)
  refine z_ci (S := SC) (ad := adC) h (z_rV (S := SC) (ad := adC) (i := 0) (κ := 0) (ci := 11) (As := [.int v1, .int v2]) (rest := []) C0 hZ h hTc (c_X11_person l G Z adC wc hTc v1 v2 hR hH) k_X11_person q_898 q_899 q_897 kSC_0 rfl rfl rfl hl.1 rfl rfl (Nat.le_of_ble_eq_true rfl) dL_law_332 ⟨Nat.le_of_ble_eq_true rfl, Nat.le_of_ble_eq_true rfl⟩ ⟨Nat.le_of_ble_eq_true rfl, Nat.le_of_ble_eq_true rfl⟩) (fun r3 H locs wc1 h hTc1 hFc1 hp4 => ?_)
  obtain ⟨xs1, xr1, hR1, hH1⟩ := hp4
  refine lv_pop C0.1 C0.2.1 dL_law_335 rfl ?_
  refine lv_aload_n C0.1 C0.2.1 dL_law_336 rfl (lv_at hl 2 rfl) ?_
  refine lw_arg (k := 1) C0 hX hbl hbA hL h hl h0 h6 (by decide) (by decide) dL_law_337 dL_law_338 dL_law_339 dL_law_340 dL_law_341 (fun v5 ev5 => ?_)
  refine lw_arg (k := 2) C0 hX hbl hbA hL h hl h0 h6 (by decide) (by decide) dL_law_342 dL_law_343 dL_law_344 dL_law_345 dL_law_346 (fun v6 ev6 => ?_)
  have h := h.swap
  refine z_ci (S := SM) (ad := adM) h (z_rV (S := SM) (ad := adM) (i := 0) (κ := 0) (ci := 12) (As := [.int v5, .int v6]) (rest := []) C0 hZ h hTm (c_X12_person l G Z adM wm hTm v5 v6 hJ) k_X12_person q_1688 q_1689 q_1687 kSM_0 rfl rfl rfl hl.1 rfl rfl (Nat.le_of_ble_eq_true rfl) dL_law_347 ⟨Nat.le_of_ble_eq_true rfl, Nat.le_of_ble_eq_true rfl⟩ ⟨Nat.le_of_ble_eq_true rfl, Nat.le_of_ble_eq_true rfl⟩) (fun r7 H locs wm1 h hTm1 hFm1 hp8 => ?_)
  obtain ⟨xs2, xr2⟩ := hp8
  have hJ1 := hJ.pa hTm (Pa.fr hFm1 (by decide))
  have h := h.swap
  have e12 := (ev1).trans (ev5).symm
  rw [← e12] at xs2 xr2
  clear e12
  have e12 := (ev2).trans (ev6).symm
  rw [← e12] at xs2 xr2
  clear e12
  have hq := RA_person (N := 1000 + 20 * i.toInt) (a1 := v1.toInt) (a2 := v2.toInt) (by omega) (show RA (1000 + 20 * i.toInt) (xso SC adC wc) (xso SM adM wm) from hV)
  rw [← xs1, ← xs2, ← xr1, ← xr2] at hq
  have hr12 : r3.toInt = r7.toInt := hq.1
  have hV1 : RW (1000 + 20 * (i.toInt + 6)) adC adM wc1 wm1 := RW.nx hq.2
  refine lv_pop C0.1 C0.2.1 dL_law_350 rfl ?_
  refine lv_goto (tgt := 1725) C0.1 C0.2.1 dL_law_351 (by decide) ?_
  exact kk _ _ _ _ h ⟨hTc1, hR1, hH1⟩ ⟨hTm1, hJ1⟩ hV1
set_option maxHeartbeats 4000000 in
theorem law_case_4 {p : Program} {l : Launch} {e : Env} {s : State} {m : MethodId} {below : List Frame} {meth : Method} {c : Code} {b L : Nat} {xs : Nat → Int32} {A : Nat → Prop} {G : GG} (C0 : Cx p s m #[Value.ref b] meth c RL cL_law 4 (some .boolean)) (hX : va_X b L xs s s.heap) (hbl : b < s.heap.size) (hbA : ¬ A b) (hL : L ≤ 3072) {Z : RZ} (hZ : Ro Z A s s.heap) {adC adM : Nat → Nat} {H : Heap} {locs : List Loc} {ls : Array Slot} {wc wm : va_W} {i : Int32} (h0 : 0 ≤ i.toInt) (h6 : i.toInt + 6 ≤ L) (h : Wd G A s H locs (wc ++ wm)) (hC : CI G adC wc) (hM : MI G adM wm) (hV : RW (1000 + 20 * i.toInt) adC adM wc wm) (hl : lv_has ls 4 [(0, .ref b), (1, .ref (adC 0)), (2, .ref (adM 0)), (3, .int i)]) (kk : ∀ (H : Heap) (locs : List Loc) (wc wm : va_W), Wd G A s H locs (wc ++ wm) → CI G adC wc → MI G adM wm → RW (1000 + 20 * (i.toInt + 6)) adC adM wc wm → W p l e room_1 s m #[Value.ref b] below meth c H locs 1000 200000 (lw_Z below #[Value.ref b] s) (F0 m 1725 ls [])) : W p l e room_1 s m #[Value.ref b] below meth c H locs 1000 200000 (lw_Z below #[Value.ref b] s) (F0 m 354 ls []) := by
  obtain ⟨hTc, hR, hH⟩ := hC
  obtain ⟨hTm, hJ⟩ := hM
  refine lv_aload_n C0.1 C0.2.1 dL_law_354 rfl (lv_at hl 1 rfl) ?_
  refine lw_arg (k := 1) C0 hX hbl hbA hL h hl h0 h6 (by decide) (by decide) dL_law_355 dL_law_356 dL_law_357 dL_law_358 dL_law_359 (fun v1 ev1 => ?_)
  refine lw_arg (k := 2) C0 hX hbl hbA hL h hl h0 h6 (by decide) (by decide) dL_law_360 dL_law_361 dL_law_362 dL_law_363 dL_law_364 (fun v2 ev2 => ?_)
  refine z_ci (S := SC) (ad := adC) h (z_rV (S := SC) (ad := adC) (i := 0) (κ := 0) (ci := 11) (As := [.int v1, .int v2]) (rest := []) C0 hZ h hTc (c_X11_street l G Z adC wc hTc v1 v2 hR hH) k_X11_street q_906 q_907 q_905 kSC_0 rfl rfl rfl hl.1 rfl rfl (Nat.le_of_ble_eq_true rfl) dL_law_365 ⟨Nat.le_of_ble_eq_true rfl, Nat.le_of_ble_eq_true rfl⟩ ⟨Nat.le_of_ble_eq_true rfl, Nat.le_of_ble_eq_true rfl⟩) (fun r3 H locs wc1 h hTc1 hFc1 hp4 => ?_)
  obtain ⟨xs1, xr1, _, _, hR1, hH1⟩ := hp4
  refine lv_pop C0.1 C0.2.1 dL_law_368 rfl ?_
  refine lv_aload_n C0.1 C0.2.1 dL_law_369 rfl (lv_at hl 2 rfl) ?_
  refine lw_arg (k := 1) C0 hX hbl hbA hL h hl h0 h6 (by decide) (by decide) dL_law_370 dL_law_371 dL_law_372 dL_law_373 dL_law_374 (fun v5 ev5 => ?_)
  refine lw_arg (k := 2) C0 hX hbl hbA hL h hl h0 h6 (by decide) (by decide) dL_law_375 dL_law_376 dL_law_377 dL_law_378 dL_law_379 (fun v6 ev6 => ?_)
  have h := h.swap
  refine z_ci (S := SM) (ad := adM) h (z_rV (S := SM) (ad := adM) (i := 0) (κ := 0) (ci := 12) (As := [.int v5, .int v6]) (rest := []) C0 hZ h hTm (c_X12_street l G Z adM wm hTm v5 v6 hJ) k_X12_street q_1696 q_1697 q_1695 kSM_0 rfl rfl rfl hl.1 rfl rfl (Nat.le_of_ble_eq_true rfl) dL_law_380 ⟨Nat.le_of_ble_eq_true rfl, Nat.le_of_ble_eq_true rfl⟩ ⟨Nat.le_of_ble_eq_true rfl, Nat.le_of_ble_eq_true rfl⟩) (fun r7 H locs wm1 h hTm1 hFm1 hp8 => ?_)
  obtain ⟨xs2, xr2, _, _⟩ := hp8
  have hJ1 := hJ.pa hTm (Pa.fr hFm1 (by decide))
  have h := h.swap
  have e12 := (ev1).trans (ev5).symm
  rw [← e12] at xs2 xr2
  clear e12
  have e12 := (ev2).trans (ev6).symm
  rw [← e12] at xs2 xr2
  clear e12
  have hq := RA_street (N := 1000 + 20 * i.toInt) (a1 := v1.toInt) (a2 := v2.toInt) (by omega) (show RA (1000 + 20 * i.toInt) (xso SC adC wc) (xso SM adM wm) from hV)
  rw [← xs1, ← xs2, ← xr1, ← xr2] at hq
  have hr12 : r3.toInt = r7.toInt := hq.1
  have hV1 : RW (1000 + 20 * (i.toInt + 6)) adC adM wc1 wm1 := RW.nx hq.2
  refine lv_pop C0.1 C0.2.1 dL_law_383 rfl ?_
  refine lv_goto (tgt := 1725) C0.1 C0.2.1 dL_law_384 (by decide) ?_
  exact kk _ _ _ _ h ⟨hTc1, hR1, hH1⟩ ⟨hTm1, hJ1⟩ hV1
set_option maxHeartbeats 4000000 in
theorem law_case_5 {p : Program} {l : Launch} {e : Env} {s : State} {m : MethodId} {below : List Frame} {meth : Method} {c : Code} {b L : Nat} {xs : Nat → Int32} {A : Nat → Prop} {G : GG} (C0 : Cx p s m #[Value.ref b] meth c RL cL_law 4 (some .boolean)) (hX : va_X b L xs s s.heap) (hbl : b < s.heap.size) (hbA : ¬ A b) (hL : L ≤ 3072) {Z : RZ} (hZ : Ro Z A s s.heap) {adC adM : Nat → Nat} {H : Heap} {locs : List Loc} {ls : Array Slot} {wc wm : va_W} {i : Int32} (h0 : 0 ≤ i.toInt) (h6 : i.toInt + 6 ≤ L) (h : Wd G A s H locs (wc ++ wm)) (hC : CI G adC wc) (hM : MI G adM wm) (hV : RW (1000 + 20 * i.toInt) adC adM wc wm) (hl : lv_has ls 4 [(0, .ref b), (1, .ref (adC 0)), (2, .ref (adM 0)), (3, .int i)]) (kk : ∀ (H : Heap) (locs : List Loc) (wc wm : va_W), Wd G A s H locs (wc ++ wm) → CI G adC wc → MI G adM wm → RW (1000 + 20 * (i.toInt + 6)) adC adM wc wm → W p l e room_1 s m #[Value.ref b] below meth c H locs 1000 200000 (lw_Z below #[Value.ref b] s) (F0 m 1725 ls [])) : W p l e room_1 s m #[Value.ref b] below meth c H locs 1000 200000 (lw_Z below #[Value.ref b] s) (F0 m 387 ls []) := by
  obtain ⟨hTc, hR, hH⟩ := hC
  obtain ⟨hTm, hJ⟩ := hM
  refine lv_aload_n C0.1 C0.2.1 dL_law_387 rfl (lv_at hl 1 rfl) ?_
  refine lw_arg (k := 1) C0 hX hbl hbA hL h hl h0 h6 (by decide) (by decide) dL_law_388 dL_law_389 dL_law_390 dL_law_391 dL_law_392 (fun v1 ev1 => ?_)
  refine lw_arg (k := 2) C0 hX hbl hbA hL h hl h0 h6 (by decide) (by decide) dL_law_393 dL_law_394 dL_law_395 dL_law_396 dL_law_397 (fun v2 ev2 => ?_)
  refine z_ci (S := SC) (ad := adC) h (z_rV (S := SC) (ad := adC) (i := 0) (κ := 0) (ci := 11) (As := [.int v1, .int v2]) (rest := []) C0 hZ h hTc (c_X11_crossing l G Z adC wc hTc v1 v2 hR hH) k_X11_crossing q_923 q_924 q_922 kSC_0 rfl rfl rfl hl.1 rfl rfl (Nat.le_of_ble_eq_true rfl) dL_law_398 ⟨Nat.le_of_ble_eq_true rfl, Nat.le_of_ble_eq_true rfl⟩ ⟨Nat.le_of_ble_eq_true rfl, Nat.le_of_ble_eq_true rfl⟩) (fun r3 H locs wc1 h hTc1 hFc1 hp4 => ?_)
  obtain ⟨xs1, xr1, hR1, hH1⟩ := hp4
  refine lv_aload_n C0.1 C0.2.1 dL_law_401 rfl (lv_at hl 2 rfl) ?_
  refine lw_arg (k := 1) C0 hX hbl hbA hL h hl h0 h6 (by decide) (by decide) dL_law_402 dL_law_403 dL_law_404 dL_law_405 dL_law_406 (fun v5 ev5 => ?_)
  refine lw_arg (k := 2) C0 hX hbl hbA hL h hl h0 h6 (by decide) (by decide) dL_law_407 dL_law_408 dL_law_409 dL_law_410 dL_law_411 (fun v6 ev6 => ?_)
  have h := h.swap
  refine z_ci (S := SM) (ad := adM) h (z_rV (S := SM) (ad := adM) (i := 0) (κ := 0) (ci := 12) (As := [.int v5, .int v6]) (rest := [.int r3]) C0 hZ h hTm (c_X12_crossing l G Z adM wm hTm v5 v6 hJ) k_X12_crossing q_1719 q_1720 q_1718 kSM_0 rfl rfl rfl hl.1 rfl rfl (Nat.le_of_ble_eq_true rfl) dL_law_412 ⟨Nat.le_of_ble_eq_true rfl, Nat.le_of_ble_eq_true rfl⟩ ⟨Nat.le_of_ble_eq_true rfl, Nat.le_of_ble_eq_true rfl⟩) (fun r7 H locs wm1 h hTm1 hFm1 hp8 => ?_)
  obtain ⟨xs2, xr2⟩ := hp8
  have hJ1 := hJ.pa hTm (Pa.fr hFm1 (by decide))
  have h := h.swap
  have e12 := (ev1).trans (ev5).symm
  rw [← e12] at xs2 xr2
  clear e12
  have e12 := (ev2).trans (ev6).symm
  rw [← e12] at xs2 xr2
  clear e12
  have hq := RA_crossing (N := 1000 + 20 * i.toInt) (a1 := v1.toInt) (a2 := v2.toInt) (by omega) (show RA (1000 + 20 * i.toInt) (xso SC adC wc) (xso SM adM wm) from hV)
  rw [← xs1, ← xs2, ← xr1, ← xr2] at hq
  have hr12 : r3.toInt = r7.toInt := hq.1
  have hV1 : RW (1000 + 20 * (i.toInt + 6)) adC adM wc1 wm1 := RW.nx hq.2
  refine lv_icmp_eq (tgt := 1725) C0.1 C0.2.1 dL_law_415 (by decide) (fun _ => ?_) (fun hne => absurd (Int32.toInt_inj.mp (hr12)) hne)
  exact kk _ _ _ _ h ⟨hTc1, hR1, hH1⟩ ⟨hTm1, hJ1⟩ hV1
set_option maxHeartbeats 4000000 in
theorem law_case_6 {p : Program} {l : Launch} {e : Env} {s : State} {m : MethodId} {below : List Frame} {meth : Method} {c : Code} {b L : Nat} {xs : Nat → Int32} {A : Nat → Prop} {G : GG} (C0 : Cx p s m #[Value.ref b] meth c RL cL_law 4 (some .boolean)) (hX : va_X b L xs s s.heap) (hbl : b < s.heap.size) (hbA : ¬ A b) (hL : L ≤ 3072) {Z : RZ} (hZ : Ro Z A s s.heap) {adC adM : Nat → Nat} {H : Heap} {locs : List Loc} {ls : Array Slot} {wc wm : va_W} {i : Int32} (h0 : 0 ≤ i.toInt) (h6 : i.toInt + 6 ≤ L) (h : Wd G A s H locs (wc ++ wm)) (hC : CI G adC wc) (hM : MI G adM wm) (hV : RW (1000 + 20 * i.toInt) adC adM wc wm) (hl : lv_has ls 4 [(0, .ref b), (1, .ref (adC 0)), (2, .ref (adM 0)), (3, .int i)]) (kk : ∀ (H : Heap) (locs : List Loc) (wc wm : va_W), Wd G A s H locs (wc ++ wm) → CI G adC wc → MI G adM wm → RW (1000 + 20 * (i.toInt + 6)) adC adM wc wm → W p l e room_1 s m #[Value.ref b] below meth c H locs 1000 200000 (lw_Z below #[Value.ref b] s) (F0 m 1725 ls [])) : W p l e room_1 s m #[Value.ref b] below meth c H locs 1000 200000 (lw_Z below #[Value.ref b] s) (F0 m 420 ls []) := by
  obtain ⟨hTc, hR, hH⟩ := hC
  obtain ⟨hTm, hJ⟩ := hM
  refine lv_aload_n C0.1 C0.2.1 dL_law_420 rfl (lv_at hl 1 rfl) ?_
  refine lw_arg (k := 1) C0 hX hbl hbA hL h hl h0 h6 (by decide) (by decide) dL_law_421 dL_law_422 dL_law_423 dL_law_424 dL_law_425 (fun v1 ev1 => ?_)
  refine lw_arg (k := 2) C0 hX hbl hbA hL h hl h0 h6 (by decide) (by decide) dL_law_426 dL_law_427 dL_law_428 dL_law_429 dL_law_430 (fun v2 ev2 => ?_)
  refine lw_arg (k := 3) C0 hX hbl hbA hL h hl h0 h6 (by decide) (by decide) dL_law_431 dL_law_432 dL_law_433 dL_law_434 dL_law_435 (fun v3 ev3 => ?_)
  refine z_ci (S := SC) (ad := adC) h (z_rV (S := SC) (ad := adC) (i := 0) (κ := 0) (ci := 11) (As := [.int v1, .int v2, .int v3]) (rest := []) C0 hZ h hTc (c_X11_price l G Z adC wc hTc v1 v2 v3 hR hH) k_X11_price q_957 q_958 q_956 kSC_0 rfl rfl rfl hl.1 rfl rfl (Nat.le_of_ble_eq_true rfl) dL_law_436 ⟨Nat.le_of_ble_eq_true rfl, Nat.le_of_ble_eq_true rfl⟩ ⟨Nat.le_of_ble_eq_true rfl, Nat.le_of_ble_eq_true rfl⟩) (fun r4 H locs wc1 h hTc1 hFc1 hp5 => ?_)
  obtain ⟨xs1, xr1, _, hR1, hH1⟩ := hp5
  refine lv_pop C0.1 C0.2.1 dL_law_439 rfl ?_
  refine lv_aload_n C0.1 C0.2.1 dL_law_440 rfl (lv_at hl 2 rfl) ?_
  refine lw_arg (k := 1) C0 hX hbl hbA hL h hl h0 h6 (by decide) (by decide) dL_law_441 dL_law_442 dL_law_443 dL_law_444 dL_law_445 (fun v6 ev6 => ?_)
  refine lw_arg (k := 2) C0 hX hbl hbA hL h hl h0 h6 (by decide) (by decide) dL_law_446 dL_law_447 dL_law_448 dL_law_449 dL_law_450 (fun v7 ev7 => ?_)
  refine lw_arg (k := 3) C0 hX hbl hbA hL h hl h0 h6 (by decide) (by decide) dL_law_451 dL_law_452 dL_law_453 dL_law_454 dL_law_455 (fun v8 ev8 => ?_)
  have h := h.swap
  refine z_ci (S := SM) (ad := adM) h (z_rV (S := SM) (ad := adM) (i := 0) (κ := 0) (ci := 12) (As := [.int v6, .int v7, .int v8]) (rest := []) C0 hZ h hTm (c_X12_price l G Z adM wm hTm v6 v7 v8 hJ) k_X12_price q_1748 q_1749 q_1747 kSM_0 rfl rfl rfl hl.1 rfl rfl (Nat.le_of_ble_eq_true rfl) dL_law_456 ⟨Nat.le_of_ble_eq_true rfl, Nat.le_of_ble_eq_true rfl⟩ ⟨Nat.le_of_ble_eq_true rfl, Nat.le_of_ble_eq_true rfl⟩) (fun r9 H locs wm1 h hTm1 hFm1 hp10 => ?_)
  obtain ⟨xs2, xr2, _⟩ := hp10
  have hJ1 := hJ.pa hTm (Pa.fr hFm1 (by decide))
  have h := h.swap
  have e12 := (ev1).trans (ev6).symm
  rw [← e12] at xs2 xr2
  clear e12
  have e12 := (ev2).trans (ev7).symm
  rw [← e12] at xs2 xr2
  clear e12
  have e12 := (ev3).trans (ev8).symm
  rw [← e12] at xs2 xr2
  clear e12
  have hq := RA_price (N := 1000 + 20 * i.toInt) (a1 := v1.toInt) (a2 := v2.toInt) (a3 := v3.toInt) (by omega) (show RA (1000 + 20 * i.toInt) (xso SC adC wc) (xso SM adM wm) from hV)
  rw [← xs1, ← xs2, ← xr1, ← xr2] at hq
  have hr12 : r4.toInt = r9.toInt := hq.1
  have hV1 : RW (1000 + 20 * (i.toInt + 6)) adC adM wc1 wm1 := RW.nx hq.2
  refine lv_pop C0.1 C0.2.1 dL_law_459 rfl ?_
  refine lv_goto (tgt := 1725) C0.1 C0.2.1 dL_law_460 (by decide) ?_
  exact kk _ _ _ _ h ⟨hTc1, hR1, hH1⟩ ⟨hTm1, hJ1⟩ hV1
set_option maxHeartbeats 4000000 in
theorem law_case_7 {p : Program} {l : Launch} {e : Env} {s : State} {m : MethodId} {below : List Frame} {meth : Method} {c : Code} {b L : Nat} {xs : Nat → Int32} {A : Nat → Prop} {G : GG} (C0 : Cx p s m #[Value.ref b] meth c RL cL_law 4 (some .boolean)) (hX : va_X b L xs s s.heap) (hbl : b < s.heap.size) (hbA : ¬ A b) (hL : L ≤ 3072) {Z : RZ} (hZ : Ro Z A s s.heap) {adC adM : Nat → Nat} {H : Heap} {locs : List Loc} {ls : Array Slot} {wc wm : va_W} {i : Int32} (h0 : 0 ≤ i.toInt) (h6 : i.toInt + 6 ≤ L) (h : Wd G A s H locs (wc ++ wm)) (hC : CI G adC wc) (hM : MI G adM wm) (hV : RW (1000 + 20 * i.toInt) adC adM wc wm) (hl : lv_has ls 4 [(0, .ref b), (1, .ref (adC 0)), (2, .ref (adM 0)), (3, .int i)]) (kk : ∀ (H : Heap) (locs : List Loc) (wc wm : va_W), Wd G A s H locs (wc ++ wm) → CI G adC wc → MI G adM wm → RW (1000 + 20 * (i.toInt + 6)) adC adM wc wm → W p l e room_1 s m #[Value.ref b] below meth c H locs 1000 200000 (lw_Z below #[Value.ref b] s) (F0 m 1725 ls [])) : W p l e room_1 s m #[Value.ref b] below meth c H locs 1000 200000 (lw_Z below #[Value.ref b] s) (F0 m 463 ls []) := by
  obtain ⟨hTc, hR, hH⟩ := hC
  obtain ⟨hTm, hJ⟩ := hM
  refine lv_aload_n C0.1 C0.2.1 dL_law_463 rfl (lv_at hl 1 rfl) ?_
  refine lw_arg (k := 1) C0 hX hbl hbA hL h hl h0 h6 (by decide) (by decide) dL_law_464 dL_law_465 dL_law_466 dL_law_467 dL_law_468 (fun v1 ev1 => ?_)
  refine lw_arg (k := 2) C0 hX hbl hbA hL h hl h0 h6 (by decide) (by decide) dL_law_469 dL_law_470 dL_law_471 dL_law_472 dL_law_473 (fun v2 ev2 => ?_)
  refine z_ci (S := SC) (ad := adC) h (z_rV (S := SC) (ad := adC) (i := 0) (κ := 0) (ci := 11) (As := [.int v1, .int v2]) (rest := []) C0 hZ h hTc (c_X11_why l G Z adC wc hTc v1 v2 hR hH) k_X11_why q_961 q_962 q_960 kSC_0 rfl rfl rfl hl.1 rfl rfl (Nat.le_of_ble_eq_true rfl) dL_law_474 ⟨Nat.le_of_ble_eq_true rfl, Nat.le_of_ble_eq_true rfl⟩ ⟨Nat.le_of_ble_eq_true rfl, Nat.le_of_ble_eq_true rfl⟩) (fun r3 H locs wc1 h hTc1 hFc1 hp4 => ?_)
  obtain ⟨xs1, xr1, _, _, hR1, hH1⟩ := hp4
  refine lv_pop C0.1 C0.2.1 dL_law_477 rfl ?_
  refine lv_aload_n C0.1 C0.2.1 dL_law_478 rfl (lv_at hl 2 rfl) ?_
  refine lw_arg (k := 1) C0 hX hbl hbA hL h hl h0 h6 (by decide) (by decide) dL_law_479 dL_law_480 dL_law_481 dL_law_482 dL_law_483 (fun v5 ev5 => ?_)
  refine lw_arg (k := 2) C0 hX hbl hbA hL h hl h0 h6 (by decide) (by decide) dL_law_484 dL_law_485 dL_law_486 dL_law_487 dL_law_488 (fun v6 ev6 => ?_)
  have h := h.swap
  refine z_ci (S := SM) (ad := adM) h (z_rV (S := SM) (ad := adM) (i := 0) (κ := 0) (ci := 12) (As := [.int v5, .int v6]) (rest := []) C0 hZ h hTm (c_X12_why l G Z adM wm hTm v5 v6 hJ) k_X12_why q_1753 q_1754 q_1752 kSM_0 rfl rfl rfl hl.1 rfl rfl (Nat.le_of_ble_eq_true rfl) dL_law_489 ⟨Nat.le_of_ble_eq_true rfl, Nat.le_of_ble_eq_true rfl⟩ ⟨Nat.le_of_ble_eq_true rfl, Nat.le_of_ble_eq_true rfl⟩) (fun r7 H locs wm1 h hTm1 hFm1 hp8 => ?_)
  obtain ⟨xs2, xr2, _, _⟩ := hp8
  have hJ1 := hJ.pa hTm (Pa.fr hFm1 (by decide))
  have h := h.swap
  have e12 := (ev1).trans (ev5).symm
  rw [← e12] at xs2 xr2
  clear e12
  have e12 := (ev2).trans (ev6).symm
  rw [← e12] at xs2 xr2
  clear e12
  have hq := RA_why (N := 1000 + 20 * i.toInt) (a1 := v1.toInt) (a2 := v2.toInt) (by omega) (show RA (1000 + 20 * i.toInt) (xso SC adC wc) (xso SM adM wm) from hV)
  rw [← xs1, ← xs2, ← xr1, ← xr2] at hq
  have hr12 : r3.toInt = r7.toInt := hq.1
  have hV1 : RW (1000 + 20 * (i.toInt + 6)) adC adM wc1 wm1 := RW.nx hq.2
  refine lv_pop C0.1 C0.2.1 dL_law_492 rfl ?_
  refine lv_goto (tgt := 1725) C0.1 C0.2.1 dL_law_493 (by decide) ?_
  exact kk _ _ _ _ h ⟨hTc1, hR1, hH1⟩ ⟨hTm1, hJ1⟩ hV1
set_option maxHeartbeats 4000000 in
theorem law_case_8 {p : Program} {l : Launch} {e : Env} {s : State} {m : MethodId} {below : List Frame} {meth : Method} {c : Code} {b L : Nat} {xs : Nat → Int32} {A : Nat → Prop} {G : GG} (C0 : Cx p s m #[Value.ref b] meth c RL cL_law 4 (some .boolean)) (hX : va_X b L xs s s.heap) (hbl : b < s.heap.size) (hbA : ¬ A b) (hL : L ≤ 3072) {Z : RZ} (hZ : Ro Z A s s.heap) {adC adM : Nat → Nat} {H : Heap} {locs : List Loc} {ls : Array Slot} {wc wm : va_W} {i : Int32} (h0 : 0 ≤ i.toInt) (h6 : i.toInt + 6 ≤ L) (h : Wd G A s H locs (wc ++ wm)) (hC : CI G adC wc) (hM : MI G adM wm) (hV : RW (1000 + 20 * i.toInt) adC adM wc wm) (hl : lv_has ls 4 [(0, .ref b), (1, .ref (adC 0)), (2, .ref (adM 0)), (3, .int i)]) (kk : ∀ (H : Heap) (locs : List Loc) (wc wm : va_W), Wd G A s H locs (wc ++ wm) → CI G adC wc → MI G adM wm → RW (1000 + 20 * (i.toInt + 6)) adC adM wc wm → W p l e room_1 s m #[Value.ref b] below meth c H locs 1000 200000 (lw_Z below #[Value.ref b] s) (F0 m 1725 ls [])) : W p l e room_1 s m #[Value.ref b] below meth c H locs 1000 200000 (lw_Z below #[Value.ref b] s) (F0 m 496 ls []) := by
  obtain ⟨hTc, hR, hH⟩ := hC
  obtain ⟨hTm, hJ⟩ := hM
  refine lv_aload_n C0.1 C0.2.1 dL_law_496 rfl (lv_at hl 1 rfl) ?_
  refine lw_arg (k := 1) C0 hX hbl hbA hL h hl h0 h6 (by decide) (by decide) dL_law_497 dL_law_498 dL_law_499 dL_law_500 dL_law_501 (fun v1 ev1 => ?_)
  refine lw_arg (k := 2) C0 hX hbl hbA hL h hl h0 h6 (by decide) (by decide) dL_law_502 dL_law_503 dL_law_504 dL_law_505 dL_law_506 (fun v2 ev2 => ?_)
  refine z_ci (S := SC) (ad := adC) h (z_rV (S := SC) (ad := adC) (i := 0) (κ := 0) (ci := 11) (As := [.int v1, .int v2]) (rest := []) C0 hZ h hTc (c_X11_go l G Z adC wc hTc v1 v2 hR hH) k_X11_go q_980 q_981 q_979 kSC_0 rfl rfl rfl hl.1 rfl rfl (Nat.le_of_ble_eq_true rfl) dL_law_507 ⟨Nat.le_of_ble_eq_true rfl, Nat.le_of_ble_eq_true rfl⟩ ⟨Nat.le_of_ble_eq_true rfl, Nat.le_of_ble_eq_true rfl⟩) (fun r3 H locs wc1 h hTc1 hFc1 hp4 => ?_)
  obtain ⟨xs1, xr1, _, _, hR1, hH1⟩ := hp4
  refine lv_pop C0.1 C0.2.1 dL_law_510 rfl ?_
  refine lv_aload_n C0.1 C0.2.1 dL_law_511 rfl (lv_at hl 2 rfl) ?_
  refine lw_arg (k := 1) C0 hX hbl hbA hL h hl h0 h6 (by decide) (by decide) dL_law_512 dL_law_513 dL_law_514 dL_law_515 dL_law_516 (fun v5 ev5 => ?_)
  refine lw_arg (k := 2) C0 hX hbl hbA hL h hl h0 h6 (by decide) (by decide) dL_law_517 dL_law_518 dL_law_519 dL_law_520 dL_law_521 (fun v6 ev6 => ?_)
  have h := h.swap
  refine z_ci (S := SM) (ad := adM) h (z_rV (S := SM) (ad := adM) (i := 0) (κ := 0) (ci := 12) (As := [.int v5, .int v6]) (rest := []) C0 hZ h hTm (c_X12_go l G Z adM wm hTm v5 v6 hJ) k_X12_go q_1772 q_1773 q_1771 kSM_0 rfl rfl rfl hl.1 rfl rfl (Nat.le_of_ble_eq_true rfl) dL_law_522 ⟨Nat.le_of_ble_eq_true rfl, Nat.le_of_ble_eq_true rfl⟩ ⟨Nat.le_of_ble_eq_true rfl, Nat.le_of_ble_eq_true rfl⟩) (fun r7 H locs wm1 h hTm1 hFm1 hp8 => ?_)
  obtain ⟨xs2, xr2, _, _, hPa, hPw⟩ := hp8
  have hJ1 := hJ.pa hTm hPa
  have h := h.swap
  have e12 := (ev1).trans (ev5).symm
  rw [← e12] at xs2 xr2
  clear e12
  have e12 := (ev2).trans (ev6).symm
  rw [← e12] at xs2 xr2
  clear e12
  have hq := RA_go (N := 1000 + 20 * i.toInt) (a1 := v1.toInt) (a2 := v2.toInt) (by omega) (show RA (1000 + 20 * i.toInt) (xso SC adC wc) (xso SM adM wm) from hV)
  rw [← xs1, ← xs2, ← xr1, ← xr2] at hq
  have hr12 : r3.toInt = r7.toInt := hq.1
  have hV1 : RW (1000 + 20 * (i.toInt + 6)) adC adM wc1 wm1 := RW.nx hq.2
  refine lv_pop C0.1 C0.2.1 dL_law_525 rfl ?_
  refine lv_goto (tgt := 1725) C0.1 C0.2.1 dL_law_526 (by decide) ?_
  exact kk _ _ _ _ h ⟨hTc1, hR1, hH1⟩ ⟨hTm1, hJ1⟩ hV1
set_option maxHeartbeats 4000000 in
theorem law_case_9 {p : Program} {l : Launch} {e : Env} {s : State} {m : MethodId} {below : List Frame} {meth : Method} {c : Code} {b L : Nat} {xs : Nat → Int32} {A : Nat → Prop} {G : GG} (C0 : Cx p s m #[Value.ref b] meth c RL cL_law 4 (some .boolean)) (hX : va_X b L xs s s.heap) (hbl : b < s.heap.size) (hbA : ¬ A b) (hL : L ≤ 3072) {Z : RZ} (hZ : Ro Z A s s.heap) {adC adM : Nat → Nat} {H : Heap} {locs : List Loc} {ls : Array Slot} {wc wm : va_W} {i : Int32} (h0 : 0 ≤ i.toInt) (h6 : i.toInt + 6 ≤ L) (h : Wd G A s H locs (wc ++ wm)) (hC : CI G adC wc) (hM : MI G adM wm) (hV : RW (1000 + 20 * i.toInt) adC adM wc wm) (hl : lv_has ls 4 [(0, .ref b), (1, .ref (adC 0)), (2, .ref (adM 0)), (3, .int i)]) (kk : ∀ (H : Heap) (locs : List Loc) (wc wm : va_W), Wd G A s H locs (wc ++ wm) → CI G adC wc → MI G adM wm → RW (1000 + 20 * (i.toInt + 6)) adC adM wc wm → W p l e room_1 s m #[Value.ref b] below meth c H locs 1000 200000 (lw_Z below #[Value.ref b] s) (F0 m 1725 ls [])) : W p l e room_1 s m #[Value.ref b] below meth c H locs 1000 200000 (lw_Z below #[Value.ref b] s) (F0 m 529 ls []) := by
  obtain ⟨hTc, hR, hH⟩ := hC
  obtain ⟨hTm, hJ⟩ := hM
  refine lv_aload_n C0.1 C0.2.1 dL_law_529 rfl (lv_at hl 1 rfl) ?_
  refine lw_arg (k := 1) C0 hX hbl hbA hL h hl h0 h6 (by decide) (by decide) dL_law_530 dL_law_531 dL_law_532 dL_law_533 dL_law_534 (fun v1 ev1 => ?_)
  refine lw_arg (k := 2) C0 hX hbl hbA hL h hl h0 h6 (by decide) (by decide) dL_law_535 dL_law_536 dL_law_537 dL_law_538 dL_law_539 (fun v2 ev2 => ?_)
  refine z_ci (S := SC) (ad := adC) h (z_rV (S := SC) (ad := adC) (i := 0) (κ := 0) (ci := 11) (As := [.int v1, .int v2]) (rest := []) C0 hZ h hTc (c_X11_judge l G Z adC wc hTc v1 v2 hR hH) k_X11_judge q_994 q_995 q_993 kSC_0 rfl rfl rfl hl.1 rfl rfl (Nat.le_of_ble_eq_true rfl) dL_law_540 ⟨Nat.le_of_ble_eq_true rfl, Nat.le_of_ble_eq_true rfl⟩ ⟨Nat.le_of_ble_eq_true rfl, Nat.le_of_ble_eq_true rfl⟩) (fun r3 H locs wc1 h hTc1 hFc1 hp4 => ?_)
  obtain ⟨xs1, xr1, hR1, hH1⟩ := hp4
  refine lv_pop C0.1 C0.2.1 dL_law_543 rfl ?_
  refine lv_aload_n C0.1 C0.2.1 dL_law_544 rfl (lv_at hl 2 rfl) ?_
  refine lw_arg (k := 1) C0 hX hbl hbA hL h hl h0 h6 (by decide) (by decide) dL_law_545 dL_law_546 dL_law_547 dL_law_548 dL_law_549 (fun v5 ev5 => ?_)
  refine lw_arg (k := 2) C0 hX hbl hbA hL h hl h0 h6 (by decide) (by decide) dL_law_550 dL_law_551 dL_law_552 dL_law_553 dL_law_554 (fun v6 ev6 => ?_)
  have h := h.swap
  refine z_ci (S := SM) (ad := adM) h (z_rV (S := SM) (ad := adM) (i := 0) (κ := 0) (ci := 12) (As := [.int v5, .int v6]) (rest := []) C0 hZ h hTm (c_X12_judge l G Z adM wm hTm v5 v6 hJ) k_X12_judge q_1791 q_1792 q_1790 kSM_0 rfl rfl rfl hl.1 rfl rfl (Nat.le_of_ble_eq_true rfl) dL_law_555 ⟨Nat.le_of_ble_eq_true rfl, Nat.le_of_ble_eq_true rfl⟩ ⟨Nat.le_of_ble_eq_true rfl, Nat.le_of_ble_eq_true rfl⟩) (fun r7 H locs wm1 h hTm1 hFm1 hp8 => ?_)
  obtain ⟨xs2, xr2, hPa, hPw⟩ := hp8
  have hJ1 := hJ.pa hTm hPa
  have h := h.swap
  have e12 := (ev1).trans (ev5).symm
  rw [← e12] at xs2 xr2
  clear e12
  have e12 := (ev2).trans (ev6).symm
  rw [← e12] at xs2 xr2
  clear e12
  have hq := RA_judge (N := 1000 + 20 * i.toInt) (a1 := v1.toInt) (a2 := v2.toInt) (by omega) (show RA (1000 + 20 * i.toInt) (xso SC adC wc) (xso SM adM wm) from hV)
  rw [← xs1, ← xs2, ← xr1, ← xr2] at hq
  have hr12 : r3.toInt = r7.toInt := hq.1
  have hV1 : RW (1000 + 20 * (i.toInt + 6)) adC adM wc1 wm1 := RW.nx hq.2
  refine lv_pop C0.1 C0.2.1 dL_law_558 rfl ?_
  refine lv_goto (tgt := 1725) C0.1 C0.2.1 dL_law_559 (by decide) ?_
  exact kk _ _ _ _ h ⟨hTc1, hR1, hH1⟩ ⟨hTm1, hJ1⟩ hV1
set_option maxHeartbeats 4000000 in
theorem law_case_10 {p : Program} {l : Launch} {e : Env} {s : State} {m : MethodId} {below : List Frame} {meth : Method} {c : Code} {b L : Nat} {xs : Nat → Int32} {A : Nat → Prop} {G : GG} (C0 : Cx p s m #[Value.ref b] meth c RL cL_law 4 (some .boolean)) (hX : va_X b L xs s s.heap) (hbl : b < s.heap.size) (hbA : ¬ A b) (hL : L ≤ 3072) {Z : RZ} (hZ : Ro Z A s s.heap) {adC adM : Nat → Nat} {H : Heap} {locs : List Loc} {ls : Array Slot} {wc wm : va_W} {i : Int32} (h0 : 0 ≤ i.toInt) (h6 : i.toInt + 6 ≤ L) (h : Wd G A s H locs (wc ++ wm)) (hC : CI G adC wc) (hM : MI G adM wm) (hV : RW (1000 + 20 * i.toInt) adC adM wc wm) (hl : lv_has ls 4 [(0, .ref b), (1, .ref (adC 0)), (2, .ref (adM 0)), (3, .int i)]) (kk : ∀ (H : Heap) (locs : List Loc) (wc wm : va_W), Wd G A s H locs (wc ++ wm) → CI G adC wc → MI G adM wm → RW (1000 + 20 * (i.toInt + 6)) adC adM wc wm → W p l e room_1 s m #[Value.ref b] below meth c H locs 1000 200000 (lw_Z below #[Value.ref b] s) (F0 m 1725 ls [])) : W p l e room_1 s m #[Value.ref b] below meth c H locs 1000 200000 (lw_Z below #[Value.ref b] s) (F0 m 562 ls []) := by
  obtain ⟨hTc, hR, hH⟩ := hC
  obtain ⟨hTm, hJ⟩ := hM
  refine lv_aload_n C0.1 C0.2.1 dL_law_562 rfl (lv_at hl 1 rfl) ?_
  refine lw_arg (k := 1) C0 hX hbl hbA hL h hl h0 h6 (by decide) (by decide) dL_law_563 dL_law_564 dL_law_565 dL_law_566 dL_law_567 (fun v1 ev1 => ?_)
  refine z_ci (S := SC) (ad := adC) h (z_rV (S := SC) (ad := adC) (i := 0) (κ := 0) (ci := 11) (As := [.int v1]) (rest := []) C0 hZ h hTc (c_X11_walk l G Z adC wc hTc v1 hR hH) k_X11_walk q_1009 q_1010 q_1008 kSC_0 rfl rfl rfl hl.1 rfl rfl (Nat.le_of_ble_eq_true rfl) dL_law_568 ⟨Nat.le_of_ble_eq_true rfl, Nat.le_of_ble_eq_true rfl⟩ ⟨Nat.le_of_ble_eq_true rfl, Nat.le_of_ble_eq_true rfl⟩) (fun r2 H locs wc1 h hTc1 hFc1 hp3 => ?_)
  obtain ⟨xs1, xr1, hR1, hH1⟩ := hp3
  refine lv_pop C0.1 C0.2.1 dL_law_571 rfl ?_
  refine lv_aload_n C0.1 C0.2.1 dL_law_572 rfl (lv_at hl 2 rfl) ?_
  refine lw_arg (k := 1) C0 hX hbl hbA hL h hl h0 h6 (by decide) (by decide) dL_law_573 dL_law_574 dL_law_575 dL_law_576 dL_law_577 (fun v4 ev4 => ?_)
  have h := h.swap
  refine z_ci (S := SM) (ad := adM) h (z_rV (S := SM) (ad := adM) (i := 0) (κ := 0) (ci := 12) (As := [.int v4]) (rest := []) C0 hZ h hTm (c_X12_walk l G Z adM wm hTm v4 hJ) k_X12_walk q_1807 q_1808 q_1806 kSM_0 rfl rfl rfl hl.1 rfl rfl (Nat.le_of_ble_eq_true rfl) dL_law_578 ⟨Nat.le_of_ble_eq_true rfl, Nat.le_of_ble_eq_true rfl⟩ ⟨Nat.le_of_ble_eq_true rfl, Nat.le_of_ble_eq_true rfl⟩) (fun r5 H locs wm1 h hTm1 hFm1 hp6 => ?_)
  obtain ⟨xs2, xr2, _, _, hPa, hPw⟩ := hp6
  have hJ1 := hJ.pa hTm hPa
  have h := h.swap
  have e12 := (ev1).trans (ev4).symm
  rw [← e12] at xs2 xr2
  clear e12
  have hq := RA_walk (N := 1000 + 20 * i.toInt) (a1 := v1.toInt) (by omega) (show RA (1000 + 20 * i.toInt) (xso SC adC wc) (xso SM adM wm) from hV)
  rw [← xs1, ← xs2, ← xr1, ← xr2] at hq
  have hr12 : r2.toInt = r5.toInt := hq.1
  have hV1 : RW (1000 + 20 * (i.toInt + 6)) adC adM wc1 wm1 := RW.nx hq.2
  refine lv_pop C0.1 C0.2.1 dL_law_581 rfl ?_
  refine lv_goto (tgt := 1725) C0.1 C0.2.1 dL_law_582 (by decide) ?_
  exact kk _ _ _ _ h ⟨hTc1, hR1, hH1⟩ ⟨hTm1, hJ1⟩ hV1
set_option maxHeartbeats 4000000 in
theorem law_case_11 {p : Program} {l : Launch} {e : Env} {s : State} {m : MethodId} {below : List Frame} {meth : Method} {c : Code} {b L : Nat} {xs : Nat → Int32} {A : Nat → Prop} {G : GG} (C0 : Cx p s m #[Value.ref b] meth c RL cL_law 4 (some .boolean)) (hX : va_X b L xs s s.heap) (hbl : b < s.heap.size) (hbA : ¬ A b) (hL : L ≤ 3072) {Z : RZ} (hZ : Ro Z A s s.heap) {adC adM : Nat → Nat} {H : Heap} {locs : List Loc} {ls : Array Slot} {wc wm : va_W} {i : Int32} (h0 : 0 ≤ i.toInt) (h6 : i.toInt + 6 ≤ L) (h : Wd G A s H locs (wc ++ wm)) (hC : CI G adC wc) (hM : MI G adM wm) (hV : RW (1000 + 20 * i.toInt) adC adM wc wm) (hl : lv_has ls 4 [(0, .ref b), (1, .ref (adC 0)), (2, .ref (adM 0)), (3, .int i)]) (kk : ∀ (H : Heap) (locs : List Loc) (wc wm : va_W), Wd G A s H locs (wc ++ wm) → CI G adC wc → MI G adM wm → RW (1000 + 20 * (i.toInt + 6)) adC adM wc wm → W p l e room_1 s m #[Value.ref b] below meth c H locs 1000 200000 (lw_Z below #[Value.ref b] s) (F0 m 1725 ls [])) : W p l e room_1 s m #[Value.ref b] below meth c H locs 1000 200000 (lw_Z below #[Value.ref b] s) (F0 m 585 ls []) := by
  obtain ⟨hTc, hR, hH⟩ := hC
  obtain ⟨hTm, hJ⟩ := hM
  refine lv_aload_n C0.1 C0.2.1 dL_law_585 rfl (lv_at hl 1 rfl) ?_
  refine lw_arg (k := 1) C0 hX hbl hbA hL h hl h0 h6 (by decide) (by decide) dL_law_586 dL_law_587 dL_law_588 dL_law_589 dL_law_590 (fun v1 ev1 => ?_)
  refine lw_arg (k := 2) C0 hX hbl hbA hL h hl h0 h6 (by decide) (by decide) dL_law_591 dL_law_592 dL_law_593 dL_law_594 dL_law_595 (fun v2 ev2 => ?_)
  refine z_ci (S := SC) (ad := adC) h (z_rV (S := SC) (ad := adC) (i := 0) (κ := 0) (ci := 11) (As := [.int v1, .int v2]) (rest := []) C0 hZ h hTc (c_X11_buy l G Z adC wc hTc v1 v2 hR hH) k_X11_buy q_1013 q_1014 q_1012 kSC_0 rfl rfl rfl hl.1 rfl rfl (Nat.le_of_ble_eq_true rfl) dL_law_596 ⟨Nat.le_of_ble_eq_true rfl, Nat.le_of_ble_eq_true rfl⟩ ⟨Nat.le_of_ble_eq_true rfl, Nat.le_of_ble_eq_true rfl⟩) (fun r3 H locs wc1 h hTc1 hFc1 hp4 => ?_)
  obtain ⟨xs1, xr1, hR1, hH1⟩ := hp4
  refine lv_pop C0.1 C0.2.1 dL_law_599 rfl ?_
  refine lv_aload_n C0.1 C0.2.1 dL_law_600 rfl (lv_at hl 2 rfl) ?_
  refine lw_arg (k := 1) C0 hX hbl hbA hL h hl h0 h6 (by decide) (by decide) dL_law_601 dL_law_602 dL_law_603 dL_law_604 dL_law_605 (fun v5 ev5 => ?_)
  refine lw_arg (k := 2) C0 hX hbl hbA hL h hl h0 h6 (by decide) (by decide) dL_law_606 dL_law_607 dL_law_608 dL_law_609 dL_law_610 (fun v6 ev6 => ?_)
  have h := h.swap
  refine z_ci (S := SM) (ad := adM) h (z_rV (S := SM) (ad := adM) (i := 0) (κ := 0) (ci := 12) (As := [.int v5, .int v6]) (rest := []) C0 hZ h hTm (c_X12_buy l G Z adM wm hTm v5 v6 hJ) k_X12_buy q_1811 q_1812 q_1810 kSM_0 rfl rfl rfl hl.1 rfl rfl (Nat.le_of_ble_eq_true rfl) dL_law_611 ⟨Nat.le_of_ble_eq_true rfl, Nat.le_of_ble_eq_true rfl⟩ ⟨Nat.le_of_ble_eq_true rfl, Nat.le_of_ble_eq_true rfl⟩) (fun r7 H locs wm1 h hTm1 hFm1 hp8 => ?_)
  obtain ⟨xs2, xr2, hPa, hPw⟩ := hp8
  have hJ1 := hJ.pa hTm hPa
  have h := h.swap
  have e12 := (ev1).trans (ev5).symm
  rw [← e12] at xs2 xr2
  clear e12
  have e12 := (ev2).trans (ev6).symm
  rw [← e12] at xs2 xr2
  clear e12
  have hq := RA_buy (N := 1000 + 20 * i.toInt) (a1 := v1.toInt) (a2 := v2.toInt) (by omega) (show RA (1000 + 20 * i.toInt) (xso SC adC wc) (xso SM adM wm) from hV)
  rw [← xs1, ← xs2, ← xr1, ← xr2] at hq
  have hr12 : r3.toInt = r7.toInt := hq.1
  have hV1 : RW (1000 + 20 * (i.toInt + 6)) adC adM wc1 wm1 := RW.nx hq.2
  refine lv_pop C0.1 C0.2.1 dL_law_614 rfl ?_
  refine lv_goto (tgt := 1725) C0.1 C0.2.1 dL_law_615 (by decide) ?_
  exact kk _ _ _ _ h ⟨hTc1, hR1, hH1⟩ ⟨hTm1, hJ1⟩ hV1
set_option maxHeartbeats 4000000 in
theorem law_case_12 {p : Program} {l : Launch} {e : Env} {s : State} {m : MethodId} {below : List Frame} {meth : Method} {c : Code} {b L : Nat} {xs : Nat → Int32} {A : Nat → Prop} {G : GG} (C0 : Cx p s m #[Value.ref b] meth c RL cL_law 4 (some .boolean)) (hX : va_X b L xs s s.heap) (hbl : b < s.heap.size) (hbA : ¬ A b) (hL : L ≤ 3072) {Z : RZ} (hZ : Ro Z A s s.heap) {adC adM : Nat → Nat} {H : Heap} {locs : List Loc} {ls : Array Slot} {wc wm : va_W} {i : Int32} (h0 : 0 ≤ i.toInt) (h6 : i.toInt + 6 ≤ L) (h : Wd G A s H locs (wc ++ wm)) (hC : CI G adC wc) (hM : MI G adM wm) (hV : RW (1000 + 20 * i.toInt) adC adM wc wm) (hl : lv_has ls 4 [(0, .ref b), (1, .ref (adC 0)), (2, .ref (adM 0)), (3, .int i)]) (kk : ∀ (H : Heap) (locs : List Loc) (wc wm : va_W), Wd G A s H locs (wc ++ wm) → CI G adC wc → MI G adM wm → RW (1000 + 20 * (i.toInt + 6)) adC adM wc wm → W p l e room_1 s m #[Value.ref b] below meth c H locs 1000 200000 (lw_Z below #[Value.ref b] s) (F0 m 1725 ls [])) : W p l e room_1 s m #[Value.ref b] below meth c H locs 1000 200000 (lw_Z below #[Value.ref b] s) (F0 m 618 ls []) := by
  obtain ⟨hTc, hR, hH⟩ := hC
  obtain ⟨hTm, hJ⟩ := hM
  refine lv_aload_n C0.1 C0.2.1 dL_law_618 rfl (lv_at hl 1 rfl) ?_
  refine lw_arg (k := 1) C0 hX hbl hbA hL h hl h0 h6 (by decide) (by decide) dL_law_619 dL_law_620 dL_law_621 dL_law_622 dL_law_623 (fun v1 ev1 => ?_)
  refine z_ci (S := SC) (ad := adC) h (z_rV (S := SC) (ad := adC) (i := 0) (κ := 0) (ci := 11) (As := [.int v1]) (rest := []) C0 hZ h hTc (c_X11_sell l G Z adC wc hTc v1 hR hH) k_X11_sell q_1022 q_1023 q_1021 kSC_0 rfl rfl rfl hl.1 rfl rfl (Nat.le_of_ble_eq_true rfl) dL_law_624 ⟨Nat.le_of_ble_eq_true rfl, Nat.le_of_ble_eq_true rfl⟩ ⟨Nat.le_of_ble_eq_true rfl, Nat.le_of_ble_eq_true rfl⟩) (fun r2 H locs wc1 h hTc1 hFc1 hp3 => ?_)
  obtain ⟨xs1, xr1, hR1, hH1⟩ := hp3
  refine lv_pop C0.1 C0.2.1 dL_law_627 rfl ?_
  refine lv_aload_n C0.1 C0.2.1 dL_law_628 rfl (lv_at hl 2 rfl) ?_
  refine lw_arg (k := 1) C0 hX hbl hbA hL h hl h0 h6 (by decide) (by decide) dL_law_629 dL_law_630 dL_law_631 dL_law_632 dL_law_633 (fun v4 ev4 => ?_)
  have h := h.swap
  refine z_ci (S := SM) (ad := adM) h (z_rV (S := SM) (ad := adM) (i := 0) (κ := 0) (ci := 12) (As := [.int v4]) (rest := []) C0 hZ h hTm (c_X12_sell l G Z adM wm hTm v4 hJ) k_X12_sell q_1823 q_1824 q_1822 kSM_0 rfl rfl rfl hl.1 rfl rfl (Nat.le_of_ble_eq_true rfl) dL_law_634 ⟨Nat.le_of_ble_eq_true rfl, Nat.le_of_ble_eq_true rfl⟩ ⟨Nat.le_of_ble_eq_true rfl, Nat.le_of_ble_eq_true rfl⟩) (fun r5 H locs wm1 h hTm1 hFm1 hp6 => ?_)
  obtain ⟨xs2, xr2, hPa, hPw⟩ := hp6
  have hJ1 := hJ.pa hTm hPa
  have h := h.swap
  have e12 := (ev1).trans (ev4).symm
  rw [← e12] at xs2 xr2
  clear e12
  have hq := RA_sell (N := 1000 + 20 * i.toInt) (a1 := v1.toInt) (by omega) (show RA (1000 + 20 * i.toInt) (xso SC adC wc) (xso SM adM wm) from hV)
  rw [← xs1, ← xs2, ← xr1, ← xr2] at hq
  have hr12 : r2.toInt = r5.toInt := hq.1
  have hV1 : RW (1000 + 20 * (i.toInt + 6)) adC adM wc1 wm1 := RW.nx hq.2
  refine lv_pop C0.1 C0.2.1 dL_law_637 rfl ?_
  refine lv_goto (tgt := 1725) C0.1 C0.2.1 dL_law_638 (by decide) ?_
  exact kk _ _ _ _ h ⟨hTc1, hR1, hH1⟩ ⟨hTm1, hJ1⟩ hV1
set_option maxHeartbeats 4000000 in
theorem law_case_13 {p : Program} {l : Launch} {e : Env} {s : State} {m : MethodId} {below : List Frame} {meth : Method} {c : Code} {b L : Nat} {xs : Nat → Int32} {A : Nat → Prop} {G : GG} (C0 : Cx p s m #[Value.ref b] meth c RL cL_law 4 (some .boolean)) (hX : va_X b L xs s s.heap) (hbl : b < s.heap.size) (hbA : ¬ A b) (hL : L ≤ 3072) {Z : RZ} (hZ : Ro Z A s s.heap) {adC adM : Nat → Nat} {H : Heap} {locs : List Loc} {ls : Array Slot} {wc wm : va_W} {i : Int32} (h0 : 0 ≤ i.toInt) (h6 : i.toInt + 6 ≤ L) (h : Wd G A s H locs (wc ++ wm)) (hC : CI G adC wc) (hM : MI G adM wm) (hV : RW (1000 + 20 * i.toInt) adC adM wc wm) (hl : lv_has ls 4 [(0, .ref b), (1, .ref (adC 0)), (2, .ref (adM 0)), (3, .int i)]) (kk : ∀ (H : Heap) (locs : List Loc) (wc wm : va_W), Wd G A s H locs (wc ++ wm) → CI G adC wc → MI G adM wm → RW (1000 + 20 * (i.toInt + 6)) adC adM wc wm → W p l e room_1 s m #[Value.ref b] below meth c H locs 1000 200000 (lw_Z below #[Value.ref b] s) (F0 m 1725 ls [])) : W p l e room_1 s m #[Value.ref b] below meth c H locs 1000 200000 (lw_Z below #[Value.ref b] s) (F0 m 641 ls []) := by
  obtain ⟨hTc, hR, hH⟩ := hC
  obtain ⟨hTm, hJ⟩ := hM
  refine lv_aload_n C0.1 C0.2.1 dL_law_641 rfl (lv_at hl 1 rfl) ?_
  refine lw_arg (k := 1) C0 hX hbl hbA hL h hl h0 h6 (by decide) (by decide) dL_law_642 dL_law_643 dL_law_644 dL_law_645 dL_law_646 (fun v1 ev1 => ?_)
  refine lw_arg (k := 2) C0 hX hbl hbA hL h hl h0 h6 (by decide) (by decide) dL_law_647 dL_law_648 dL_law_649 dL_law_650 dL_law_651 (fun v2 ev2 => ?_)
  refine lw_arg (k := 3) C0 hX hbl hbA hL h hl h0 h6 (by decide) (by decide) dL_law_652 dL_law_653 dL_law_654 dL_law_655 dL_law_656 (fun v3 ev3 => ?_)
  refine z_ci (S := SC) (ad := adC) h (z_rV (S := SC) (ad := adC) (i := 0) (κ := 0) (ci := 11) (As := [.int v1, .int v2, .int v3]) (rest := []) C0 hZ h hTc (c_X11_hand l G Z adC wc hTc v1 v2 v3 hR hH) k_X11_hand q_1027 q_1028 q_1026 kSC_0 rfl rfl rfl hl.1 rfl rfl (Nat.le_of_ble_eq_true rfl) dL_law_657 ⟨Nat.le_of_ble_eq_true rfl, Nat.le_of_ble_eq_true rfl⟩ ⟨Nat.le_of_ble_eq_true rfl, Nat.le_of_ble_eq_true rfl⟩) (fun r4 H locs wc1 h hTc1 hFc1 hp5 => ?_)
  obtain ⟨xs1, xr1, hR1, hH1⟩ := hp5
  refine lv_pop C0.1 C0.2.1 dL_law_660 rfl ?_
  refine lv_aload_n C0.1 C0.2.1 dL_law_661 rfl (lv_at hl 2 rfl) ?_
  refine lw_arg (k := 1) C0 hX hbl hbA hL h hl h0 h6 (by decide) (by decide) dL_law_662 dL_law_663 dL_law_664 dL_law_665 dL_law_666 (fun v6 ev6 => ?_)
  refine lw_arg (k := 2) C0 hX hbl hbA hL h hl h0 h6 (by decide) (by decide) dL_law_667 dL_law_668 dL_law_669 dL_law_670 dL_law_671 (fun v7 ev7 => ?_)
  refine lw_arg (k := 3) C0 hX hbl hbA hL h hl h0 h6 (by decide) (by decide) dL_law_672 dL_law_673 dL_law_674 dL_law_675 dL_law_676 (fun v8 ev8 => ?_)
  have h := h.swap
  refine z_ci (S := SM) (ad := adM) h (z_rV (S := SM) (ad := adM) (i := 0) (κ := 0) (ci := 12) (As := [.int v6, .int v7, .int v8]) (rest := []) C0 hZ h hTm (c_X12_hand l G Z adM wm hTm v6 v7 v8 hJ) k_X12_hand q_1827 q_1828 q_1826 kSM_0 rfl rfl rfl hl.1 rfl rfl (Nat.le_of_ble_eq_true rfl) dL_law_677 ⟨Nat.le_of_ble_eq_true rfl, Nat.le_of_ble_eq_true rfl⟩ ⟨Nat.le_of_ble_eq_true rfl, Nat.le_of_ble_eq_true rfl⟩) (fun r9 H locs wm1 h hTm1 hFm1 hp10 => ?_)
  obtain ⟨xs2, xr2, _, _, hPa, hPw⟩ := hp10
  have hJ1 := hJ.pa hTm hPa
  have h := h.swap
  have e12 := (ev1).trans (ev6).symm
  rw [← e12] at xs2 xr2
  clear e12
  have e12 := (ev2).trans (ev7).symm
  rw [← e12] at xs2 xr2
  clear e12
  have e12 := (ev3).trans (ev8).symm
  rw [← e12] at xs2 xr2
  clear e12
  have hq := RA_hand (N := 1000 + 20 * i.toInt) (a1 := v1.toInt) (a2 := v2.toInt) (a3 := v3.toInt) (by omega) (show RA (1000 + 20 * i.toInt) (xso SC adC wc) (xso SM adM wm) from hV)
  rw [← xs1, ← xs2, ← xr1, ← xr2] at hq
  have hr12 : r4.toInt = r9.toInt := hq.1
  have hV1 : RW (1000 + 20 * (i.toInt + 6)) adC adM wc1 wm1 := RW.nx hq.2
  refine lv_pop C0.1 C0.2.1 dL_law_680 rfl ?_
  refine lv_goto (tgt := 1725) C0.1 C0.2.1 dL_law_681 (by decide) ?_
  exact kk _ _ _ _ h ⟨hTc1, hR1, hH1⟩ ⟨hTm1, hJ1⟩ hV1
set_option maxHeartbeats 4000000 in
theorem law_case_14 {p : Program} {l : Launch} {e : Env} {s : State} {m : MethodId} {below : List Frame} {meth : Method} {c : Code} {b L : Nat} {xs : Nat → Int32} {A : Nat → Prop} {G : GG} (C0 : Cx p s m #[Value.ref b] meth c RL cL_law 4 (some .boolean)) (hX : va_X b L xs s s.heap) (hbl : b < s.heap.size) (hbA : ¬ A b) (hL : L ≤ 3072) {Z : RZ} (hZ : Ro Z A s s.heap) {adC adM : Nat → Nat} {H : Heap} {locs : List Loc} {ls : Array Slot} {wc wm : va_W} {i : Int32} (h0 : 0 ≤ i.toInt) (h6 : i.toInt + 6 ≤ L) (h : Wd G A s H locs (wc ++ wm)) (hC : CI G adC wc) (hM : MI G adM wm) (hV : RW (1000 + 20 * i.toInt) adC adM wc wm) (hl : lv_has ls 4 [(0, .ref b), (1, .ref (adC 0)), (2, .ref (adM 0)), (3, .int i)]) (kk : ∀ (H : Heap) (locs : List Loc) (wc wm : va_W), Wd G A s H locs (wc ++ wm) → CI G adC wc → MI G adM wm → RW (1000 + 20 * (i.toInt + 6)) adC adM wc wm → W p l e room_1 s m #[Value.ref b] below meth c H locs 1000 200000 (lw_Z below #[Value.ref b] s) (F0 m 1725 ls [])) : W p l e room_1 s m #[Value.ref b] below meth c H locs 1000 200000 (lw_Z below #[Value.ref b] s) (F0 m 684 ls []) := by
  obtain ⟨hTc, hR, hH⟩ := hC
  obtain ⟨hTm, hJ⟩ := hM
  refine lv_aload_n C0.1 C0.2.1 dL_law_684 rfl (lv_at hl 1 rfl) ?_
  refine lw_arg (k := 1) C0 hX hbl hbA hL h hl h0 h6 (by decide) (by decide) dL_law_685 dL_law_686 dL_law_687 dL_law_688 dL_law_689 (fun v1 ev1 => ?_)
  refine lw_arg (k := 2) C0 hX hbl hbA hL h hl h0 h6 (by decide) (by decide) dL_law_690 dL_law_691 dL_law_692 dL_law_693 dL_law_694 (fun v2 ev2 => ?_)
  refine z_ci (S := SC) (ad := adC) h (z_rV (S := SC) (ad := adC) (i := 0) (κ := 0) (ci := 11) (As := [.int v1, .int v2]) (rest := []) C0 hZ h hTc (c_X11_fog l G Z adC wc hTc v1 v2 hR hH) k_X11_fog q_1031 q_1032 q_1030 kSC_0 rfl rfl rfl hl.1 rfl rfl (Nat.le_of_ble_eq_true rfl) dL_law_695 ⟨Nat.le_of_ble_eq_true rfl, Nat.le_of_ble_eq_true rfl⟩ ⟨Nat.le_of_ble_eq_true rfl, Nat.le_of_ble_eq_true rfl⟩) (fun r3 H locs wc1 h hTc1 hFc1 hp4 => ?_)
  obtain ⟨xs1, xr1, _, _, hR1, hH1⟩ := hp4
  refine lv_pop C0.1 C0.2.1 dL_law_698 rfl ?_
  refine lv_aload_n C0.1 C0.2.1 dL_law_699 rfl (lv_at hl 2 rfl) ?_
  refine lw_arg (k := 1) C0 hX hbl hbA hL h hl h0 h6 (by decide) (by decide) dL_law_700 dL_law_701 dL_law_702 dL_law_703 dL_law_704 (fun v5 ev5 => ?_)
  refine lw_arg (k := 2) C0 hX hbl hbA hL h hl h0 h6 (by decide) (by decide) dL_law_705 dL_law_706 dL_law_707 dL_law_708 dL_law_709 (fun v6 ev6 => ?_)
  have h := h.swap
  refine z_ci (S := SM) (ad := adM) h (z_rV (S := SM) (ad := adM) (i := 0) (κ := 0) (ci := 12) (As := [.int v5, .int v6]) (rest := []) C0 hZ h hTm (c_X12_fog l G Z adM wm hTm v5 v6 hJ) k_X12_fog q_1832 q_1833 q_1831 kSM_0 rfl rfl rfl hl.1 rfl rfl (Nat.le_of_ble_eq_true rfl) dL_law_710 ⟨Nat.le_of_ble_eq_true rfl, Nat.le_of_ble_eq_true rfl⟩ ⟨Nat.le_of_ble_eq_true rfl, Nat.le_of_ble_eq_true rfl⟩) (fun r7 H locs wm1 h hTm1 hFm1 hp8 => ?_)
  obtain ⟨xs2, xr2, hPa, hPw⟩ := hp8
  have hJ1 := hJ.pa hTm hPa
  have h := h.swap
  have e12 := (ev1).trans (ev5).symm
  rw [← e12] at xs2 xr2
  clear e12
  have e12 := (ev2).trans (ev6).symm
  rw [← e12] at xs2 xr2
  clear e12
  have hq := RK_fog (N := 1000 + 20 * i.toInt) (a1 := v1.toInt) (a2 := v2.toInt) (by omega) (show RA (1000 + 20 * i.toInt) (xso SC adC wc) (xso SM adM wm) from hV)
  rw [← xs1, ← xs2] at hq
  have hV1 : RW (1000 + 20 * (i.toInt + 6)) adC adM wc1 wm1 := RW.nx hq
  refine lv_pop C0.1 C0.2.1 dL_law_713 rfl ?_
  refine lv_goto (tgt := 1725) C0.1 C0.2.1 dL_law_714 (by decide) ?_
  exact kk _ _ _ _ h ⟨hTc1, hR1, hH1⟩ ⟨hTm1, hJ1⟩ hV1
set_option maxHeartbeats 4000000 in
theorem law_case_15 {p : Program} {l : Launch} {e : Env} {s : State} {m : MethodId} {below : List Frame} {meth : Method} {c : Code} {b L : Nat} {xs : Nat → Int32} {A : Nat → Prop} {G : GG} (C0 : Cx p s m #[Value.ref b] meth c RL cL_law 4 (some .boolean)) (hX : va_X b L xs s s.heap) (hbl : b < s.heap.size) (hbA : ¬ A b) (hL : L ≤ 3072) {Z : RZ} (hZ : Ro Z A s s.heap) {adC adM : Nat → Nat} {H : Heap} {locs : List Loc} {ls : Array Slot} {wc wm : va_W} {i : Int32} (h0 : 0 ≤ i.toInt) (h6 : i.toInt + 6 ≤ L) (h : Wd G A s H locs (wc ++ wm)) (hC : CI G adC wc) (hM : MI G adM wm) (hV : RW (1000 + 20 * i.toInt) adC adM wc wm) (hl : lv_has ls 4 [(0, .ref b), (1, .ref (adC 0)), (2, .ref (adM 0)), (3, .int i)]) (kk : ∀ (H : Heap) (locs : List Loc) (wc wm : va_W), Wd G A s H locs (wc ++ wm) → CI G adC wc → MI G adM wm → RW (1000 + 20 * (i.toInt + 6)) adC adM wc wm → W p l e room_1 s m #[Value.ref b] below meth c H locs 1000 200000 (lw_Z below #[Value.ref b] s) (F0 m 1725 ls [])) : W p l e room_1 s m #[Value.ref b] below meth c H locs 1000 200000 (lw_Z below #[Value.ref b] s) (F0 m 717 ls []) := by
  obtain ⟨hTc, hR, hH⟩ := hC
  obtain ⟨hTm, hJ⟩ := hM
  refine lv_aload_n C0.1 C0.2.1 dL_law_717 rfl (lv_at hl 1 rfl) ?_
  refine lw_arg (k := 1) C0 hX hbl hbA hL h hl h0 h6 (by decide) (by decide) dL_law_718 dL_law_719 dL_law_720 dL_law_721 dL_law_722 (fun v1 ev1 => ?_)
  refine z_ci (S := SC) (ad := adC) h (z_rV (S := SC) (ad := adC) (i := 0) (κ := 0) (ci := 11) (As := [.int v1]) (rest := []) C0 hZ h hTc (c_X11_hours l G Z adC wc hTc v1 hR hH) k_X11_hours q_1041 q_1042 q_1040 kSC_0 rfl rfl rfl hl.1 rfl rfl (Nat.le_of_ble_eq_true rfl) dL_law_723 ⟨Nat.le_of_ble_eq_true rfl, Nat.le_of_ble_eq_true rfl⟩ ⟨Nat.le_of_ble_eq_true rfl, Nat.le_of_ble_eq_true rfl⟩) (fun r2 H locs wc1 h hTc1 hFc1 hp3 => ?_)
  obtain ⟨xs1, xr1, hR1, hH1⟩ := hp3
  refine lv_pop C0.1 C0.2.1 dL_law_726 rfl ?_
  refine lv_aload_n C0.1 C0.2.1 dL_law_727 rfl (lv_at hl 2 rfl) ?_
  refine lw_arg (k := 1) C0 hX hbl hbA hL h hl h0 h6 (by decide) (by decide) dL_law_728 dL_law_729 dL_law_730 dL_law_731 dL_law_732 (fun v4 ev4 => ?_)
  have h := h.swap
  refine z_ci (S := SM) (ad := adM) h (z_rV (S := SM) (ad := adM) (i := 0) (κ := 0) (ci := 12) (As := [.int v4]) (rest := []) C0 hZ h hTm (c_X12_hours l G Z adM wm hTm v4 hJ) k_X12_hours q_1840 q_1841 q_1839 kSM_0 rfl rfl rfl hl.1 rfl rfl (Nat.le_of_ble_eq_true rfl) dL_law_733 ⟨Nat.le_of_ble_eq_true rfl, Nat.le_of_ble_eq_true rfl⟩ ⟨Nat.le_of_ble_eq_true rfl, Nat.le_of_ble_eq_true rfl⟩) (fun r5 H locs wm1 h hTm1 hFm1 hp6 => ?_)
  obtain ⟨xs2, xr2, hPa, hPw⟩ := hp6
  have hJ1 := hJ.pa hTm hPa
  have h := h.swap
  have e12 := (ev1).trans (ev4).symm
  rw [← e12] at xs2 xr2
  clear e12
  have hq := RA_hours (N := 1000 + 20 * i.toInt) (a1 := v1.toInt) (by omega) (show RA (1000 + 20 * i.toInt) (xso SC adC wc) (xso SM adM wm) from hV)
  rw [← xs1, ← xs2, ← xr1, ← xr2] at hq
  have hr12 : r2.toInt = r5.toInt := hq.1
  have hV1 : RW (1000 + 20 * (i.toInt + 6)) adC adM wc1 wm1 := RW.nx hq.2
  refine lv_pop C0.1 C0.2.1 dL_law_736 rfl ?_
  refine lv_goto (tgt := 1725) C0.1 C0.2.1 dL_law_737 (by decide) ?_
  exact kk _ _ _ _ h ⟨hTc1, hR1, hH1⟩ ⟨hTm1, hJ1⟩ hV1
set_option maxHeartbeats 4000000 in
theorem law_case_16 {p : Program} {l : Launch} {e : Env} {s : State} {m : MethodId} {below : List Frame} {meth : Method} {c : Code} {b L : Nat} {xs : Nat → Int32} {A : Nat → Prop} {G : GG} (C0 : Cx p s m #[Value.ref b] meth c RL cL_law 4 (some .boolean)) (hX : va_X b L xs s s.heap) (hbl : b < s.heap.size) (hbA : ¬ A b) (hL : L ≤ 3072) {Z : RZ} (hZ : Ro Z A s s.heap) {adC adM : Nat → Nat} {H : Heap} {locs : List Loc} {ls : Array Slot} {wc wm : va_W} {i : Int32} (h0 : 0 ≤ i.toInt) (h6 : i.toInt + 6 ≤ L) (h : Wd G A s H locs (wc ++ wm)) (hC : CI G adC wc) (hM : MI G adM wm) (hV : RW (1000 + 20 * i.toInt) adC adM wc wm) (hl : lv_has ls 4 [(0, .ref b), (1, .ref (adC 0)), (2, .ref (adM 0)), (3, .int i)]) (kk : ∀ (H : Heap) (locs : List Loc) (wc wm : va_W), Wd G A s H locs (wc ++ wm) → CI G adC wc → MI G adM wm → RW (1000 + 20 * (i.toInt + 6)) adC adM wc wm → W p l e room_1 s m #[Value.ref b] below meth c H locs 1000 200000 (lw_Z below #[Value.ref b] s) (F0 m 1725 ls [])) : W p l e room_1 s m #[Value.ref b] below meth c H locs 1000 200000 (lw_Z below #[Value.ref b] s) (F0 m 740 ls []) := by
  obtain ⟨hTc, hR, hH⟩ := hC
  obtain ⟨hTm, hJ⟩ := hM
  refine lv_aload_n C0.1 C0.2.1 dL_law_740 rfl (lv_at hl 1 rfl) ?_
  refine lw_arg (k := 1) C0 hX hbl hbA hL h hl h0 h6 (by decide) (by decide) dL_law_741 dL_law_742 dL_law_743 dL_law_744 dL_law_745 (fun v1 ev1 => ?_)
  refine z_ci (S := SC) (ad := adC) h (z_rV (S := SC) (ad := adC) (i := 0) (κ := 0) (ci := 11) (As := [.int v1]) (rest := []) C0 hZ h hTc (c_X11_undo l G Z adC wc hTc v1 hR hH) k_X11_undo q_1045 q_1046 q_1044 kSC_0 rfl rfl rfl hl.1 rfl rfl (Nat.le_of_ble_eq_true rfl) dL_law_746 ⟨Nat.le_of_ble_eq_true rfl, Nat.le_of_ble_eq_true rfl⟩ ⟨Nat.le_of_ble_eq_true rfl, Nat.le_of_ble_eq_true rfl⟩) (fun r2 H locs wc1 h hTc1 hFc1 hp3 => ?_)
  obtain ⟨xs1, xr1, _, _, hR1, hH1⟩ := hp3
  refine lv_pop C0.1 C0.2.1 dL_law_749 rfl ?_
  refine lv_aload_n C0.1 C0.2.1 dL_law_750 rfl (lv_at hl 2 rfl) ?_
  refine lw_arg (k := 1) C0 hX hbl hbA hL h hl h0 h6 (by decide) (by decide) dL_law_751 dL_law_752 dL_law_753 dL_law_754 dL_law_755 (fun v4 ev4 => ?_)
  have h := h.swap
  refine z_ci (S := SM) (ad := adM) h (z_rV (S := SM) (ad := adM) (i := 0) (κ := 0) (ci := 12) (As := [.int v4]) (rest := []) C0 hZ h hTm (c_X12_undo l G Z adM wm hTm v4 hJ) k_X12_undo q_1844 q_1845 q_1843 kSM_0 rfl rfl rfl hl.1 rfl rfl (Nat.le_of_ble_eq_true rfl) dL_law_756 ⟨Nat.le_of_ble_eq_true rfl, Nat.le_of_ble_eq_true rfl⟩ ⟨Nat.le_of_ble_eq_true rfl, Nat.le_of_ble_eq_true rfl⟩) (fun r5 H locs wm1 h hTm1 hFm1 hp6 => ?_)
  obtain ⟨xs2, xr2, _, _, hPa, hPw⟩ := hp6
  have hJ1 := hJ.pa hTm hPa
  have h := h.swap
  have e12 := (ev1).trans (ev4).symm
  rw [← e12] at xs2 xr2
  clear e12
  have hq := RA_undo (N := 1000 + 20 * i.toInt) (a1 := v1.toInt) (by omega) (show RA (1000 + 20 * i.toInt) (xso SC adC wc) (xso SM adM wm) from hV)
  rw [← xs1, ← xs2, ← xr1, ← xr2] at hq
  have hr12 : r2.toInt = r5.toInt := hq.1
  have hV1 : RW (1000 + 20 * (i.toInt + 6)) adC adM wc1 wm1 := RW.nx hq.2
  refine lv_pop C0.1 C0.2.1 dL_law_759 rfl ?_
  refine lv_goto (tgt := 1725) C0.1 C0.2.1 dL_law_760 (by decide) ?_
  exact kk _ _ _ _ h ⟨hTc1, hR1, hH1⟩ ⟨hTm1, hJ1⟩ hV1
set_option maxHeartbeats 4000000 in
theorem law_case_17 {p : Program} {l : Launch} {e : Env} {s : State} {m : MethodId} {below : List Frame} {meth : Method} {c : Code} {b L : Nat} {xs : Nat → Int32} {A : Nat → Prop} {G : GG} (C0 : Cx p s m #[Value.ref b] meth c RL cL_law 4 (some .boolean)) (hX : va_X b L xs s s.heap) (hbl : b < s.heap.size) (hbA : ¬ A b) (hL : L ≤ 3072) {Z : RZ} (hZ : Ro Z A s s.heap) {adC adM : Nat → Nat} {H : Heap} {locs : List Loc} {ls : Array Slot} {wc wm : va_W} {i : Int32} (h0 : 0 ≤ i.toInt) (h6 : i.toInt + 6 ≤ L) (h : Wd G A s H locs (wc ++ wm)) (hC : CI G adC wc) (hM : MI G adM wm) (hV : RW (1000 + 20 * i.toInt) adC adM wc wm) (hl : lv_has ls 4 [(0, .ref b), (1, .ref (adC 0)), (2, .ref (adM 0)), (3, .int i)]) (kk : ∀ (H : Heap) (locs : List Loc) (wc wm : va_W), Wd G A s H locs (wc ++ wm) → CI G adC wc → MI G adM wm → RW (1000 + 20 * (i.toInt + 6)) adC adM wc wm → W p l e room_1 s m #[Value.ref b] below meth c H locs 1000 200000 (lw_Z below #[Value.ref b] s) (F0 m 1725 ls [])) : W p l e room_1 s m #[Value.ref b] below meth c H locs 1000 200000 (lw_Z below #[Value.ref b] s) (F0 m 763 ls []) := by
  obtain ⟨hTc, hR, hH⟩ := hC
  obtain ⟨hTm, hJ⟩ := hM
  refine lv_aload_n C0.1 C0.2.1 dL_law_763 rfl (lv_at hl 1 rfl) ?_
  refine lw_arg (k := 1) C0 hX hbl hbA hL h hl h0 h6 (by decide) (by decide) dL_law_764 dL_law_765 dL_law_766 dL_law_767 dL_law_768 (fun v1 ev1 => ?_)
  refine lw_arg (k := 2) C0 hX hbl hbA hL h hl h0 h6 (by decide) (by decide) dL_law_769 dL_law_770 dL_law_771 dL_law_772 dL_law_773 (fun v2 ev2 => ?_)
  refine z_ci (S := SC) (ad := adC) h (z_rV (S := SC) (ad := adC) (i := 0) (κ := 0) (ci := 11) (As := [.int v1, .int v2]) (rest := []) C0 hZ h hTc (c_X11_week l G Z adC wc hTc v1 v2 hR hH) k_X11_week q_1049 q_1050 q_1048 kSC_0 rfl rfl rfl hl.1 rfl rfl (Nat.le_of_ble_eq_true rfl) dL_law_774 ⟨Nat.le_of_ble_eq_true rfl, Nat.le_of_ble_eq_true rfl⟩ ⟨Nat.le_of_ble_eq_true rfl, Nat.le_of_ble_eq_true rfl⟩) (fun r3 H locs wc1 h hTc1 hFc1 hp4 => ?_)
  obtain ⟨xs1, xr1, hR1, hH1⟩ := hp4
  refine lv_pop C0.1 C0.2.1 dL_law_777 rfl ?_
  refine lv_aload_n C0.1 C0.2.1 dL_law_778 rfl (lv_at hl 2 rfl) ?_
  refine lw_arg (k := 1) C0 hX hbl hbA hL h hl h0 h6 (by decide) (by decide) dL_law_779 dL_law_780 dL_law_781 dL_law_782 dL_law_783 (fun v5 ev5 => ?_)
  refine lw_arg (k := 2) C0 hX hbl hbA hL h hl h0 h6 (by decide) (by decide) dL_law_784 dL_law_785 dL_law_786 dL_law_787 dL_law_788 (fun v6 ev6 => ?_)
  have h := h.swap
  refine z_ci (S := SM) (ad := adM) h (z_rV (S := SM) (ad := adM) (i := 0) (κ := 0) (ci := 12) (As := [.int v5, .int v6]) (rest := []) C0 hZ h hTm (c_X12_week l G Z adM wm hTm v5 v6 hJ) k_X12_week q_1849 q_1850 q_1848 kSM_0 rfl rfl rfl hl.1 rfl rfl (Nat.le_of_ble_eq_true rfl) dL_law_789 ⟨Nat.le_of_ble_eq_true rfl, Nat.le_of_ble_eq_true rfl⟩ ⟨Nat.le_of_ble_eq_true rfl, Nat.le_of_ble_eq_true rfl⟩) (fun r7 H locs wm1 h hTm1 hFm1 hp8 => ?_)
  obtain ⟨xs2, xr2, hPa, hPw⟩ := hp8
  have hJ1 := hJ.pa hTm hPa
  have h := h.swap
  have e12 := (ev1).trans (ev5).symm
  rw [← e12] at xs2 xr2
  clear e12
  have e12 := (ev2).trans (ev6).symm
  rw [← e12] at xs2 xr2
  clear e12
  have hq := RA_week (N := 1000 + 20 * i.toInt) (a1 := v1.toInt) (a2 := v2.toInt) (by omega) (show RA (1000 + 20 * i.toInt) (xso SC adC wc) (xso SM adM wm) from hV)
  rw [← xs1, ← xs2, ← xr1, ← xr2] at hq
  have hr12 : r3.toInt = r7.toInt := hq.1
  have hV1 : RW (1000 + 20 * (i.toInt + 6)) adC adM wc1 wm1 := RW.nx hq.2
  refine lv_pop C0.1 C0.2.1 dL_law_792 rfl ?_
  refine lv_goto (tgt := 1725) C0.1 C0.2.1 dL_law_793 (by decide) ?_
  exact kk _ _ _ _ h ⟨hTc1, hR1, hH1⟩ ⟨hTm1, hJ1⟩ hV1
set_option maxHeartbeats 4000000 in
theorem law_case_18 {p : Program} {l : Launch} {e : Env} {s : State} {m : MethodId} {below : List Frame} {meth : Method} {c : Code} {b L : Nat} {xs : Nat → Int32} {A : Nat → Prop} {G : GG} (C0 : Cx p s m #[Value.ref b] meth c RL cL_law 4 (some .boolean)) (hX : va_X b L xs s s.heap) (hbl : b < s.heap.size) (hbA : ¬ A b) (hL : L ≤ 3072) {Z : RZ} (hZ : Ro Z A s s.heap) {adC adM : Nat → Nat} {H : Heap} {locs : List Loc} {ls : Array Slot} {wc wm : va_W} {i : Int32} (h0 : 0 ≤ i.toInt) (h6 : i.toInt + 6 ≤ L) (h : Wd G A s H locs (wc ++ wm)) (hC : CI G adC wc) (hM : MI G adM wm) (hV : RW (1000 + 20 * i.toInt) adC adM wc wm) (hl : lv_has ls 4 [(0, .ref b), (1, .ref (adC 0)), (2, .ref (adM 0)), (3, .int i)]) (kk : ∀ (H : Heap) (locs : List Loc) (wc wm : va_W), Wd G A s H locs (wc ++ wm) → CI G adC wc → MI G adM wm → RW (1000 + 20 * (i.toInt + 6)) adC adM wc wm → W p l e room_1 s m #[Value.ref b] below meth c H locs 1000 200000 (lw_Z below #[Value.ref b] s) (F0 m 1725 ls [])) : W p l e room_1 s m #[Value.ref b] below meth c H locs 1000 200000 (lw_Z below #[Value.ref b] s) (F0 m 796 ls []) := by
  obtain ⟨hTc, hR, hH⟩ := hC
  obtain ⟨hTm, hJ⟩ := hM
  refine lv_aload_n C0.1 C0.2.1 dL_law_796 rfl (lv_at hl 1 rfl) ?_
  refine lw_arg (k := 1) C0 hX hbl hbA hL h hl h0 h6 (by decide) (by decide) dL_law_797 dL_law_798 dL_law_799 dL_law_800 dL_law_801 (fun v1 ev1 => ?_)
  refine lw_arg (k := 2) C0 hX hbl hbA hL h hl h0 h6 (by decide) (by decide) dL_law_802 dL_law_803 dL_law_804 dL_law_805 dL_law_806 (fun v2 ev2 => ?_)
  refine lw_arg (k := 3) C0 hX hbl hbA hL h hl h0 h6 (by decide) (by decide) dL_law_807 dL_law_808 dL_law_809 dL_law_810 dL_law_811 (fun v3 ev3 => ?_)
  refine z_ci (S := SC) (ad := adC) h (z_rV (S := SC) (ad := adC) (i := 0) (κ := 0) (ci := 11) (As := [.int v1, .int v2, .int v3]) (rest := []) C0 hZ h hTc (c_X11_way l G Z adC wc hTc v1 v2 v3 hR hH) k_X11_way q_1067 q_1068 q_1066 kSC_0 rfl rfl rfl hl.1 rfl rfl (Nat.le_of_ble_eq_true rfl) dL_law_812 ⟨Nat.le_of_ble_eq_true rfl, Nat.le_of_ble_eq_true rfl⟩ ⟨Nat.le_of_ble_eq_true rfl, Nat.le_of_ble_eq_true rfl⟩) (fun r4 H locs wc1 h hTc1 hFc1 hp5 => ?_)
  obtain ⟨xs1, xr1, _, _, hR1, hH1⟩ := hp5
  refine lv_pop C0.1 C0.2.1 dL_law_815 rfl ?_
  refine lv_aload_n C0.1 C0.2.1 dL_law_816 rfl (lv_at hl 2 rfl) ?_
  refine lw_arg (k := 1) C0 hX hbl hbA hL h hl h0 h6 (by decide) (by decide) dL_law_817 dL_law_818 dL_law_819 dL_law_820 dL_law_821 (fun v6 ev6 => ?_)
  refine lw_arg (k := 2) C0 hX hbl hbA hL h hl h0 h6 (by decide) (by decide) dL_law_822 dL_law_823 dL_law_824 dL_law_825 dL_law_826 (fun v7 ev7 => ?_)
  refine lw_arg (k := 3) C0 hX hbl hbA hL h hl h0 h6 (by decide) (by decide) dL_law_827 dL_law_828 dL_law_829 dL_law_830 dL_law_831 (fun v8 ev8 => ?_)
  have h := h.swap
  refine z_ci (S := SM) (ad := adM) h (z_rV (S := SM) (ad := adM) (i := 0) (κ := 0) (ci := 12) (As := [.int v6, .int v7, .int v8]) (rest := []) C0 hZ h hTm (c_X12_way l G Z adM wm hTm v6 v7 v8 hJ) k_X12_way q_1863 q_1864 q_1862 kSM_0 rfl rfl rfl hl.1 rfl rfl (Nat.le_of_ble_eq_true rfl) dL_law_832 ⟨Nat.le_of_ble_eq_true rfl, Nat.le_of_ble_eq_true rfl⟩ ⟨Nat.le_of_ble_eq_true rfl, Nat.le_of_ble_eq_true rfl⟩) (fun r9 H locs wm1 h hTm1 hFm1 hp10 => ?_)
  obtain ⟨xs2, xr2, _, _⟩ := hp10
  have hJ1 := hJ.pa hTm (Pa.fr hFm1 (by decide))
  have h := h.swap
  have e12 := (ev1).trans (ev6).symm
  rw [← e12] at xs2 xr2
  clear e12
  have e12 := (ev2).trans (ev7).symm
  rw [← e12] at xs2 xr2
  clear e12
  have e12 := (ev3).trans (ev8).symm
  rw [← e12] at xs2 xr2
  clear e12
  have hq := RA_way (N := 1000 + 20 * i.toInt) (a1 := v1.toInt) (a2 := v2.toInt) (a3 := v3.toInt) (by omega) (show RA (1000 + 20 * i.toInt) (xso SC adC wc) (xso SM adM wm) from hV)
  rw [← xs1, ← xs2, ← xr1, ← xr2] at hq
  have hr12 : r4.toInt = r9.toInt := hq.1
  have hV1 : RW (1000 + 20 * (i.toInt + 6)) adC adM wc1 wm1 := RW.nx hq.2
  refine lv_pop C0.1 C0.2.1 dL_law_835 rfl ?_
  refine lv_goto (tgt := 1725) C0.1 C0.2.1 dL_law_836 (by decide) ?_
  exact kk _ _ _ _ h ⟨hTc1, hR1, hH1⟩ ⟨hTm1, hJ1⟩ hV1
set_option maxHeartbeats 4000000 in
theorem law_case_19 {p : Program} {l : Launch} {e : Env} {s : State} {m : MethodId} {below : List Frame} {meth : Method} {c : Code} {b L : Nat} {xs : Nat → Int32} {A : Nat → Prop} {G : GG} (C0 : Cx p s m #[Value.ref b] meth c RL cL_law 4 (some .boolean)) (hX : va_X b L xs s s.heap) (hbl : b < s.heap.size) (hbA : ¬ A b) (hL : L ≤ 3072) {Z : RZ} (hZ : Ro Z A s s.heap) {adC adM : Nat → Nat} {H : Heap} {locs : List Loc} {ls : Array Slot} {wc wm : va_W} {i : Int32} (h0 : 0 ≤ i.toInt) (h6 : i.toInt + 6 ≤ L) (h : Wd G A s H locs (wc ++ wm)) (hC : CI G adC wc) (hM : MI G adM wm) (hV : RW (1000 + 20 * i.toInt) adC adM wc wm) (hl : lv_has ls 4 [(0, .ref b), (1, .ref (adC 0)), (2, .ref (adM 0)), (3, .int i)]) (kk : ∀ (H : Heap) (locs : List Loc) (wc wm : va_W), Wd G A s H locs (wc ++ wm) → CI G adC wc → MI G adM wm → RW (1000 + 20 * (i.toInt + 6)) adC adM wc wm → W p l e room_1 s m #[Value.ref b] below meth c H locs 1000 200000 (lw_Z below #[Value.ref b] s) (F0 m 1725 ls [])) : W p l e room_1 s m #[Value.ref b] below meth c H locs 1000 200000 (lw_Z below #[Value.ref b] s) (F0 m 839 ls []) := by
  obtain ⟨hTc, hR, hH⟩ := hC
  obtain ⟨hTm, hJ⟩ := hM
  refine lv_aload_n C0.1 C0.2.1 dL_law_839 rfl (lv_at hl 1 rfl) ?_
  refine lw_arg (k := 1) C0 hX hbl hbA hL h hl h0 h6 (by decide) (by decide) dL_law_840 dL_law_841 dL_law_842 dL_law_843 dL_law_844 (fun v1 ev1 => ?_)
  refine lw_arg (k := 2) C0 hX hbl hbA hL h hl h0 h6 (by decide) (by decide) dL_law_845 dL_law_846 dL_law_847 dL_law_848 dL_law_849 (fun v2 ev2 => ?_)
  refine lw_arg (k := 3) C0 hX hbl hbA hL h hl h0 h6 (by decide) (by decide) dL_law_850 dL_law_851 dL_law_852 dL_law_853 dL_law_854 (fun v3 ev3 => ?_)
  refine lw_arg (k := 4) C0 hX hbl hbA hL h hl h0 h6 (by decide) (by decide) dL_law_855 dL_law_856 dL_law_857 dL_law_858 dL_law_859 (fun v4 ev4 => ?_)
  refine z_ci (S := SC) (ad := adC) h (z_rV (S := SC) (ad := adC) (i := 0) (κ := 0) (ci := 11) (As := [.int v1, .int v2, .int v3, .int v4]) (rest := []) C0 hZ h hTc (c_X11_turn l G Z adC wc hTc v1 v2 v3 v4 hR hH) k_X11_turn q_1145 q_1146 q_1144 kSC_0 rfl rfl rfl hl.1 rfl rfl (Nat.le_of_ble_eq_true rfl) dL_law_860 ⟨Nat.le_of_ble_eq_true rfl, Nat.le_of_ble_eq_true rfl⟩ ⟨Nat.le_of_ble_eq_true rfl, Nat.le_of_ble_eq_true rfl⟩) (fun r5 H locs wc1 h hTc1 hFc1 hp6 => ?_)
  obtain ⟨xs1, xr1, hR1, hH1⟩ := hp6
  refine lv_pop C0.1 C0.2.1 dL_law_863 rfl ?_
  refine lv_aload_n C0.1 C0.2.1 dL_law_864 rfl (lv_at hl 2 rfl) ?_
  refine lw_arg (k := 1) C0 hX hbl hbA hL h hl h0 h6 (by decide) (by decide) dL_law_865 dL_law_866 dL_law_867 dL_law_868 dL_law_869 (fun v7 ev7 => ?_)
  refine lw_arg (k := 2) C0 hX hbl hbA hL h hl h0 h6 (by decide) (by decide) dL_law_870 dL_law_871 dL_law_872 dL_law_873 dL_law_874 (fun v8 ev8 => ?_)
  refine lw_arg (k := 3) C0 hX hbl hbA hL h hl h0 h6 (by decide) (by decide) dL_law_875 dL_law_876 dL_law_877 dL_law_878 dL_law_879 (fun v9 ev9 => ?_)
  refine lw_arg (k := 4) C0 hX hbl hbA hL h hl h0 h6 (by decide) (by decide) dL_law_880 dL_law_881 dL_law_882 dL_law_883 dL_law_884 (fun v10 ev10 => ?_)
  have h := h.swap
  refine z_ci (S := SM) (ad := adM) h (z_rV (S := SM) (ad := adM) (i := 0) (κ := 0) (ci := 12) (As := [.int v7, .int v8, .int v9, .int v10]) (rest := []) C0 hZ h hTm (c_X12_turn l G Z adM wm hTm v7 v8 v9 v10 hJ) k_X12_turn q_1901 q_1902 q_1900 kSM_0 rfl rfl rfl hl.1 rfl rfl (Nat.le_of_ble_eq_true rfl) dL_law_885 ⟨Nat.le_of_ble_eq_true rfl, Nat.le_of_ble_eq_true rfl⟩ ⟨Nat.le_of_ble_eq_true rfl, Nat.le_of_ble_eq_true rfl⟩) (fun r11 H locs wm1 h hTm1 hFm1 hp12 => ?_)
  obtain ⟨xs2, xr2, _, _⟩ := hp12
  have hJ1 := hJ.pa hTm (Pa.fr hFm1 (by decide))
  have h := h.swap
  have e12 := (ev1).trans (ev7).symm
  rw [← e12] at xs2 xr2
  clear e12
  have e12 := (ev2).trans (ev8).symm
  rw [← e12] at xs2 xr2
  clear e12
  have e12 := (ev3).trans (ev9).symm
  rw [← e12] at xs2 xr2
  clear e12
  have e12 := (ev4).trans (ev10).symm
  rw [← e12] at xs2 xr2
  clear e12
  have hq := RA_turn (N := 1000 + 20 * i.toInt) (a1 := v1.toInt) (a2 := v2.toInt) (a3 := v3.toInt) (a4 := v4.toInt) (by omega) (show RA (1000 + 20 * i.toInt) (xso SC adC wc) (xso SM adM wm) from hV)
  rw [← xs1, ← xs2, ← xr1, ← xr2] at hq
  have hr12 : r5.toInt = r11.toInt := hq.1
  have hV1 : RW (1000 + 20 * (i.toInt + 6)) adC adM wc1 wm1 := RW.nx hq.2
  refine lv_pop C0.1 C0.2.1 dL_law_888 rfl ?_
  refine lv_goto (tgt := 1725) C0.1 C0.2.1 dL_law_889 (by decide) ?_
  exact kk _ _ _ _ h ⟨hTc1, hR1, hH1⟩ ⟨hTm1, hJ1⟩ hV1
set_option maxHeartbeats 4000000 in
theorem law_case_20 {p : Program} {l : Launch} {e : Env} {s : State} {m : MethodId} {below : List Frame} {meth : Method} {c : Code} {b L : Nat} {xs : Nat → Int32} {A : Nat → Prop} {G : GG} (C0 : Cx p s m #[Value.ref b] meth c RL cL_law 4 (some .boolean)) (hX : va_X b L xs s s.heap) (hbl : b < s.heap.size) (hbA : ¬ A b) (hL : L ≤ 3072) {Z : RZ} (hZ : Ro Z A s s.heap) {adC adM : Nat → Nat} {H : Heap} {locs : List Loc} {ls : Array Slot} {wc wm : va_W} {i : Int32} (h0 : 0 ≤ i.toInt) (h6 : i.toInt + 6 ≤ L) (h : Wd G A s H locs (wc ++ wm)) (hC : CI G adC wc) (hM : MI G adM wm) (hV : RW (1000 + 20 * i.toInt) adC adM wc wm) (hl : lv_has ls 4 [(0, .ref b), (1, .ref (adC 0)), (2, .ref (adM 0)), (3, .int i)]) (kk : ∀ (H : Heap) (locs : List Loc) (wc wm : va_W), Wd G A s H locs (wc ++ wm) → CI G adC wc → MI G adM wm → RW (1000 + 20 * (i.toInt + 6)) adC adM wc wm → W p l e room_1 s m #[Value.ref b] below meth c H locs 1000 200000 (lw_Z below #[Value.ref b] s) (F0 m 1725 ls [])) : W p l e room_1 s m #[Value.ref b] below meth c H locs 1000 200000 (lw_Z below #[Value.ref b] s) (F0 m 892 ls []) := by
  obtain ⟨hTc, hR, hH⟩ := hC
  obtain ⟨hTm, hJ⟩ := hM
  refine lv_aload_n C0.1 C0.2.1 dL_law_892 rfl (lv_at hl 1 rfl) ?_
  refine lw_arg (k := 1) C0 hX hbl hbA hL h hl h0 h6 (by decide) (by decide) dL_law_893 dL_law_894 dL_law_895 dL_law_896 dL_law_897 (fun v1 ev1 => ?_)
  refine lw_arg (k := 2) C0 hX hbl hbA hL h hl h0 h6 (by decide) (by decide) dL_law_898 dL_law_899 dL_law_900 dL_law_901 dL_law_902 (fun v2 ev2 => ?_)
  refine lw_arg (k := 3) C0 hX hbl hbA hL h hl h0 h6 (by decide) (by decide) dL_law_903 dL_law_904 dL_law_905 dL_law_906 dL_law_907 (fun v3 ev3 => ?_)
  refine z_ci (S := SC) (ad := adC) h (z_rV (S := SC) (ad := adC) (i := 0) (κ := 0) (ci := 11) (As := [.int v1, .int v2, .int v3]) (rest := []) C0 hZ h hTc (c_X11_fewest l G Z adC wc hTc v1 v2 v3 hR hH) k_X11_fewest q_1199 q_1200 q_1198 kSC_0 rfl rfl rfl hl.1 rfl rfl (Nat.le_of_ble_eq_true rfl) dL_law_908 ⟨Nat.le_of_ble_eq_true rfl, Nat.le_of_ble_eq_true rfl⟩ ⟨Nat.le_of_ble_eq_true rfl, Nat.le_of_ble_eq_true rfl⟩) (fun r4 H locs wc1 h hTc1 hFc1 hp5 => ?_)
  obtain ⟨xs1, xr1, _, _, hR1, hH1⟩ := hp5
  refine lv_pop C0.1 C0.2.1 dL_law_911 rfl ?_
  refine lv_aload_n C0.1 C0.2.1 dL_law_912 rfl (lv_at hl 2 rfl) ?_
  refine lw_arg (k := 1) C0 hX hbl hbA hL h hl h0 h6 (by decide) (by decide) dL_law_913 dL_law_914 dL_law_915 dL_law_916 dL_law_917 (fun v6 ev6 => ?_)
  refine lw_arg (k := 2) C0 hX hbl hbA hL h hl h0 h6 (by decide) (by decide) dL_law_918 dL_law_919 dL_law_920 dL_law_921 dL_law_922 (fun v7 ev7 => ?_)
  refine lw_arg (k := 3) C0 hX hbl hbA hL h hl h0 h6 (by decide) (by decide) dL_law_923 dL_law_924 dL_law_925 dL_law_926 dL_law_927 (fun v8 ev8 => ?_)
  have h := h.swap
  refine z_ci (S := SM) (ad := adM) h (z_rV (S := SM) (ad := adM) (i := 0) (κ := 0) (ci := 12) (As := [.int v6, .int v7, .int v8]) (rest := []) C0 hZ h hTm (c_X12_fewest l G Z adM wm hTm v6 v7 v8 hJ) k_X12_fewest q_1921 q_1922 q_1920 kSM_0 rfl rfl rfl hl.1 rfl rfl (Nat.le_of_ble_eq_true rfl) dL_law_928 ⟨Nat.le_of_ble_eq_true rfl, Nat.le_of_ble_eq_true rfl⟩ ⟨Nat.le_of_ble_eq_true rfl, Nat.le_of_ble_eq_true rfl⟩) (fun r9 H locs wm1 h hTm1 hFm1 hp10 => ?_)
  obtain ⟨xs2, xr2⟩ := hp10
  have hJ1 := hJ.pa hTm (Pa.fr hFm1 (by decide))
  have h := h.swap
  have e12 := (ev1).trans (ev6).symm
  rw [← e12] at xs2 xr2
  clear e12
  have e12 := (ev2).trans (ev7).symm
  rw [← e12] at xs2 xr2
  clear e12
  have e12 := (ev3).trans (ev8).symm
  rw [← e12] at xs2 xr2
  clear e12
  have hq := RA_fewest (N := 1000 + 20 * i.toInt) (a1 := v1.toInt) (a2 := v2.toInt) (a3 := v3.toInt) (by omega) (show RA (1000 + 20 * i.toInt) (xso SC adC wc) (xso SM adM wm) from hV)
  rw [← xs1, ← xs2, ← xr1, ← xr2] at hq
  have hr12 : r4.toInt = r9.toInt := hq.1
  have hV1 : RW (1000 + 20 * (i.toInt + 6)) adC adM wc1 wm1 := RW.nx hq.2
  refine lv_pop C0.1 C0.2.1 dL_law_931 rfl ?_
  refine lv_goto (tgt := 1725) C0.1 C0.2.1 dL_law_932 (by decide) ?_
  exact kk _ _ _ _ h ⟨hTc1, hR1, hH1⟩ ⟨hTm1, hJ1⟩ hV1
set_option maxHeartbeats 4000000 in
theorem law_case_21 {p : Program} {l : Launch} {e : Env} {s : State} {m : MethodId} {below : List Frame} {meth : Method} {c : Code} {b L : Nat} {xs : Nat → Int32} {A : Nat → Prop} {G : GG} (C0 : Cx p s m #[Value.ref b] meth c RL cL_law 4 (some .boolean)) (hX : va_X b L xs s s.heap) (hbl : b < s.heap.size) (hbA : ¬ A b) (hL : L ≤ 3072) {Z : RZ} (hZ : Ro Z A s s.heap) {adC adM : Nat → Nat} {H : Heap} {locs : List Loc} {ls : Array Slot} {wc wm : va_W} {i : Int32} (h0 : 0 ≤ i.toInt) (h6 : i.toInt + 6 ≤ L) (h : Wd G A s H locs (wc ++ wm)) (hC : CI G adC wc) (hM : MI G adM wm) (hV : RW (1000 + 20 * i.toInt) adC adM wc wm) (hl : lv_has ls 4 [(0, .ref b), (1, .ref (adC 0)), (2, .ref (adM 0)), (3, .int i)]) (kk : ∀ (H : Heap) (locs : List Loc) (wc wm : va_W), Wd G A s H locs (wc ++ wm) → CI G adC wc → MI G adM wm → RW (1000 + 20 * (i.toInt + 6)) adC adM wc wm → W p l e room_1 s m #[Value.ref b] below meth c H locs 1000 200000 (lw_Z below #[Value.ref b] s) (F0 m 1725 ls [])) : W p l e room_1 s m #[Value.ref b] below meth c H locs 1000 200000 (lw_Z below #[Value.ref b] s) (F0 m 935 ls []) := by
  obtain ⟨hTc, hR, hH⟩ := hC
  obtain ⟨hTm, hJ⟩ := hM
  refine lv_aload_n C0.1 C0.2.1 dL_law_935 rfl (lv_at hl 1 rfl) ?_
  refine lw_arg (k := 1) C0 hX hbl hbA hL h hl h0 h6 (by decide) (by decide) dL_law_936 dL_law_937 dL_law_938 dL_law_939 dL_law_940 (fun v1 ev1 => ?_)
  refine lw_arg (k := 2) C0 hX hbl hbA hL h hl h0 h6 (by decide) (by decide) dL_law_941 dL_law_942 dL_law_943 dL_law_944 dL_law_945 (fun v2 ev2 => ?_)
  refine lw_arg (k := 3) C0 hX hbl hbA hL h hl h0 h6 (by decide) (by decide) dL_law_946 dL_law_947 dL_law_948 dL_law_949 dL_law_950 (fun v3 ev3 => ?_)
  refine z_ci (S := SC) (ad := adC) h (z_rV (S := SC) (ad := adC) (i := 0) (κ := 0) (ci := 11) (As := [.int v1, .int v2, .int v3]) (rest := []) C0 hZ h hTc (c_X11_cheapest l G Z adC wc hTc v1 v2 v3 hR hH) k_X11_cheapest q_1207 q_1208 q_1206 kSC_0 rfl rfl rfl hl.1 rfl rfl (Nat.le_of_ble_eq_true rfl) dL_law_951 ⟨Nat.le_of_ble_eq_true rfl, Nat.le_of_ble_eq_true rfl⟩ ⟨Nat.le_of_ble_eq_true rfl, Nat.le_of_ble_eq_true rfl⟩) (fun r4 H locs wc1 h hTc1 hFc1 hp5 => ?_)
  obtain ⟨xs1, xr1, _, hR1, hH1⟩ := hp5
  refine lv_pop C0.1 C0.2.1 dL_law_954 rfl ?_
  refine lv_aload_n C0.1 C0.2.1 dL_law_955 rfl (lv_at hl 2 rfl) ?_
  refine lw_arg (k := 1) C0 hX hbl hbA hL h hl h0 h6 (by decide) (by decide) dL_law_956 dL_law_957 dL_law_958 dL_law_959 dL_law_960 (fun v6 ev6 => ?_)
  refine lw_arg (k := 2) C0 hX hbl hbA hL h hl h0 h6 (by decide) (by decide) dL_law_961 dL_law_962 dL_law_963 dL_law_964 dL_law_965 (fun v7 ev7 => ?_)
  refine lw_arg (k := 3) C0 hX hbl hbA hL h hl h0 h6 (by decide) (by decide) dL_law_966 dL_law_967 dL_law_968 dL_law_969 dL_law_970 (fun v8 ev8 => ?_)
  have h := h.swap
  refine z_ci (S := SM) (ad := adM) h (z_rV (S := SM) (ad := adM) (i := 0) (κ := 0) (ci := 12) (As := [.int v6, .int v7, .int v8]) (rest := []) C0 hZ h hTm (c_X12_cheapest l G Z adM wm hTm v6 v7 v8 hJ) k_X12_cheapest q_1932 q_1933 q_1931 kSM_0 rfl rfl rfl hl.1 rfl rfl (Nat.le_of_ble_eq_true rfl) dL_law_971 ⟨Nat.le_of_ble_eq_true rfl, Nat.le_of_ble_eq_true rfl⟩ ⟨Nat.le_of_ble_eq_true rfl, Nat.le_of_ble_eq_true rfl⟩) (fun r9 H locs wm1 h hTm1 hFm1 hp10 => ?_)
  obtain ⟨xs2, xr2⟩ := hp10
  have hJ1 := hJ.pa hTm (Pa.fr hFm1 (by decide))
  have h := h.swap
  have e12 := (ev1).trans (ev6).symm
  rw [← e12] at xs2 xr2
  clear e12
  have e12 := (ev2).trans (ev7).symm
  rw [← e12] at xs2 xr2
  clear e12
  have e12 := (ev3).trans (ev8).symm
  rw [← e12] at xs2 xr2
  clear e12
  have hq := RK_cheapest (N := 1000 + 20 * i.toInt) (a1 := v1.toInt) (a2 := v2.toInt) (a3 := v3.toInt) (by omega) (show RA (1000 + 20 * i.toInt) (xso SC adC wc) (xso SM adM wm) from hV)
  rw [← xs1, ← xs2] at hq
  have hV1 : RW (1000 + 20 * (i.toInt + 6)) adC adM wc1 wm1 := RW.nx hq
  refine lv_pop C0.1 C0.2.1 dL_law_974 rfl ?_
  refine lv_goto (tgt := 1725) C0.1 C0.2.1 dL_law_975 (by decide) ?_
  exact kk _ _ _ _ h ⟨hTc1, hR1, hH1⟩ ⟨hTm1, hJ1⟩ hV1
set_option maxHeartbeats 4000000 in
theorem law_case_22 {p : Program} {l : Launch} {e : Env} {s : State} {m : MethodId} {below : List Frame} {meth : Method} {c : Code} {b L : Nat} {xs : Nat → Int32} {A : Nat → Prop} {G : GG} (C0 : Cx p s m #[Value.ref b] meth c RL cL_law 4 (some .boolean)) (hX : va_X b L xs s s.heap) (hbl : b < s.heap.size) (hbA : ¬ A b) (hL : L ≤ 3072) {Z : RZ} (hZ : Ro Z A s s.heap) {adC adM : Nat → Nat} {H : Heap} {locs : List Loc} {ls : Array Slot} {wc wm : va_W} {i : Int32} (h0 : 0 ≤ i.toInt) (h6 : i.toInt + 6 ≤ L) (h : Wd G A s H locs (wc ++ wm)) (hC : CI G adC wc) (hM : MI G adM wm) (hV : RW (1000 + 20 * i.toInt) adC adM wc wm) (hl : lv_has ls 4 [(0, .ref b), (1, .ref (adC 0)), (2, .ref (adM 0)), (3, .int i)]) (kk : ∀ (H : Heap) (locs : List Loc) (wc wm : va_W), Wd G A s H locs (wc ++ wm) → CI G adC wc → MI G adM wm → RW (1000 + 20 * (i.toInt + 6)) adC adM wc wm → W p l e room_1 s m #[Value.ref b] below meth c H locs 1000 200000 (lw_Z below #[Value.ref b] s) (F0 m 1725 ls [])) : W p l e room_1 s m #[Value.ref b] below meth c H locs 1000 200000 (lw_Z below #[Value.ref b] s) (F0 m 978 ls []) := by
  obtain ⟨hTc, hR, hH⟩ := hC
  obtain ⟨hTm, hJ⟩ := hM
  refine lv_aload_n C0.1 C0.2.1 dL_law_978 rfl (lv_at hl 1 rfl) ?_
  refine lw_arg (k := 1) C0 hX hbl hbA hL h hl h0 h6 (by decide) (by decide) dL_law_979 dL_law_980 dL_law_981 dL_law_982 dL_law_983 (fun v1 ev1 => ?_)
  refine lw_arg (k := 2) C0 hX hbl hbA hL h hl h0 h6 (by decide) (by decide) dL_law_984 dL_law_985 dL_law_986 dL_law_987 dL_law_988 (fun v2 ev2 => ?_)
  refine lw_arg (k := 3) C0 hX hbl hbA hL h hl h0 h6 (by decide) (by decide) dL_law_989 dL_law_990 dL_law_991 dL_law_992 dL_law_993 (fun v3 ev3 => ?_)
  refine lw_arg (k := 4) C0 hX hbl hbA hL h hl h0 h6 (by decide) (by decide) dL_law_994 dL_law_995 dL_law_996 dL_law_997 dL_law_998 (fun v4 ev4 => ?_)
  refine z_cl (S := SC) (ad := adC) h (z_rV (S := SC) (ad := adC) (i := 0) (κ := 0) (ci := 11) (As := [.int v1, .int v2, .int v3, .int v4]) (rest := []) C0 hZ h hTc (c_X11_ways l G Z adC wc hTc v1 v2 v3 v4 hR hH) k_X11_ways q_1226 q_1227 q_1225 kSC_0 rfl rfl rfl hl.1 rfl rfl (Nat.le_of_ble_eq_true rfl) dL_law_999 ⟨Nat.le_of_ble_eq_true rfl, Nat.le_of_ble_eq_true rfl⟩ ⟨Nat.le_of_ble_eq_true rfl, Nat.le_of_ble_eq_true rfl⟩) (fun r5 H locs wc1 h hTc1 hFc1 hp6 => ?_)
  obtain ⟨xs1, xr1, hR1, hH1⟩ := hp6
  refine lv_pop2_2 C0.1 C0.2.1 dL_law_1002 rfl ?_
  refine lv_aload_n C0.1 C0.2.1 dL_law_1003 rfl (lv_at hl 2 rfl) ?_
  refine lw_arg (k := 1) C0 hX hbl hbA hL h hl h0 h6 (by decide) (by decide) dL_law_1004 dL_law_1005 dL_law_1006 dL_law_1007 dL_law_1008 (fun v7 ev7 => ?_)
  refine lw_arg (k := 2) C0 hX hbl hbA hL h hl h0 h6 (by decide) (by decide) dL_law_1009 dL_law_1010 dL_law_1011 dL_law_1012 dL_law_1013 (fun v8 ev8 => ?_)
  refine lw_arg (k := 3) C0 hX hbl hbA hL h hl h0 h6 (by decide) (by decide) dL_law_1014 dL_law_1015 dL_law_1016 dL_law_1017 dL_law_1018 (fun v9 ev9 => ?_)
  refine lw_arg (k := 4) C0 hX hbl hbA hL h hl h0 h6 (by decide) (by decide) dL_law_1019 dL_law_1020 dL_law_1021 dL_law_1022 dL_law_1023 (fun v10 ev10 => ?_)
  have h := h.swap
  refine z_cl (S := SM) (ad := adM) h (z_rV (S := SM) (ad := adM) (i := 0) (κ := 0) (ci := 12) (As := [.int v7, .int v8, .int v9, .int v10]) (rest := []) C0 hZ h hTm (c_X12_ways l G Z adM wm hTm v7 v8 v9 v10 hJ) k_X12_ways q_1936 q_1937 q_1935 kSM_0 rfl rfl rfl hl.1 rfl rfl (Nat.le_of_ble_eq_true rfl) dL_law_1024 ⟨Nat.le_of_ble_eq_true rfl, Nat.le_of_ble_eq_true rfl⟩ ⟨Nat.le_of_ble_eq_true rfl, Nat.le_of_ble_eq_true rfl⟩) (fun r11 H locs wm1 h hTm1 hFm1 hp12 => ?_)
  obtain ⟨xs2, xr2⟩ := hp12
  have hJ1 := hJ.pa hTm (Pa.fr hFm1 (by decide))
  have h := h.swap
  have e12 := (ev1).trans (ev7).symm
  rw [← e12] at xs2 xr2
  clear e12
  have e12 := (ev2).trans (ev8).symm
  rw [← e12] at xs2 xr2
  clear e12
  have e12 := (ev3).trans (ev9).symm
  rw [← e12] at xs2 xr2
  clear e12
  have e12 := (ev4).trans (ev10).symm
  rw [← e12] at xs2 xr2
  clear e12
  have hq := RK_ways (N := 1000 + 20 * i.toInt) (a1 := v1.toInt) (a2 := v2.toInt) (a3 := v3.toInt) (a4 := v4.toInt) (by omega) (show RA (1000 + 20 * i.toInt) (xso SC adC wc) (xso SM adM wm) from hV)
  rw [← xs1, ← xs2] at hq
  have hV1 : RW (1000 + 20 * (i.toInt + 6)) adC adM wc1 wm1 := RW.nx hq
  refine lv_pop2_2 C0.1 C0.2.1 dL_law_1027 rfl ?_
  refine lv_goto (tgt := 1725) C0.1 C0.2.1 dL_law_1028 (by decide) ?_
  exact kk _ _ _ _ h ⟨hTc1, hR1, hH1⟩ ⟨hTm1, hJ1⟩ hV1
set_option maxHeartbeats 4000000 in
theorem law_case_23 {p : Program} {l : Launch} {e : Env} {s : State} {m : MethodId} {below : List Frame} {meth : Method} {c : Code} {b L : Nat} {xs : Nat → Int32} {A : Nat → Prop} {G : GG} (C0 : Cx p s m #[Value.ref b] meth c RL cL_law 4 (some .boolean)) (hX : va_X b L xs s s.heap) (hbl : b < s.heap.size) (hbA : ¬ A b) (hL : L ≤ 3072) {Z : RZ} (hZ : Ro Z A s s.heap) {adC adM : Nat → Nat} {H : Heap} {locs : List Loc} {ls : Array Slot} {wc wm : va_W} {i : Int32} (h0 : 0 ≤ i.toInt) (h6 : i.toInt + 6 ≤ L) (h : Wd G A s H locs (wc ++ wm)) (hC : CI G adC wc) (hM : MI G adM wm) (hV : RW (1000 + 20 * i.toInt) adC adM wc wm) (hl : lv_has ls 4 [(0, .ref b), (1, .ref (adC 0)), (2, .ref (adM 0)), (3, .int i)]) (kk : ∀ (H : Heap) (locs : List Loc) (wc wm : va_W), Wd G A s H locs (wc ++ wm) → CI G adC wc → MI G adM wm → RW (1000 + 20 * (i.toInt + 6)) adC adM wc wm → W p l e room_1 s m #[Value.ref b] below meth c H locs 1000 200000 (lw_Z below #[Value.ref b] s) (F0 m 1725 ls [])) : W p l e room_1 s m #[Value.ref b] below meth c H locs 1000 200000 (lw_Z below #[Value.ref b] s) (F0 m 1031 ls []) := by
  obtain ⟨hTc, hR, hH⟩ := hC
  obtain ⟨hTm, hJ⟩ := hM
  refine lv_aload_n C0.1 C0.2.1 dL_law_1031 rfl (lv_at hl 1 rfl) ?_
  refine lw_arg (k := 1) C0 hX hbl hbA hL h hl h0 h6 (by decide) (by decide) dL_law_1032 dL_law_1033 dL_law_1034 dL_law_1035 dL_law_1036 (fun v1 ev1 => ?_)
  refine lw_arg (k := 2) C0 hX hbl hbA hL h hl h0 h6 (by decide) (by decide) dL_law_1037 dL_law_1038 dL_law_1039 dL_law_1040 dL_law_1041 (fun v2 ev2 => ?_)
  refine z_ci (S := SC) (ad := adC) h (z_rV (S := SC) (ad := adC) (i := 0) (κ := 0) (ci := 11) (As := [.int v1, .int v2]) (rest := []) C0 hZ h hTc (c_X11_reach l G Z adC wc hTc v1 v2 hR hH) k_X11_reach q_1245 q_1246 q_1244 kSC_0 rfl rfl rfl hl.1 rfl rfl (Nat.le_of_ble_eq_true rfl) dL_law_1042 ⟨Nat.le_of_ble_eq_true rfl, Nat.le_of_ble_eq_true rfl⟩ ⟨Nat.le_of_ble_eq_true rfl, Nat.le_of_ble_eq_true rfl⟩) (fun r3 H locs wc1 h hTc1 hFc1 hp4 => ?_)
  obtain ⟨xs1, xr1, hR1, hH1⟩ := hp4
  refine lv_pop C0.1 C0.2.1 dL_law_1045 rfl ?_
  refine lv_aload_n C0.1 C0.2.1 dL_law_1046 rfl (lv_at hl 2 rfl) ?_
  refine lw_arg (k := 1) C0 hX hbl hbA hL h hl h0 h6 (by decide) (by decide) dL_law_1047 dL_law_1048 dL_law_1049 dL_law_1050 dL_law_1051 (fun v5 ev5 => ?_)
  refine lw_arg (k := 2) C0 hX hbl hbA hL h hl h0 h6 (by decide) (by decide) dL_law_1052 dL_law_1053 dL_law_1054 dL_law_1055 dL_law_1056 (fun v6 ev6 => ?_)
  have h := h.swap
  refine z_ci (S := SM) (ad := adM) h (z_rV (S := SM) (ad := adM) (i := 0) (κ := 0) (ci := 12) (As := [.int v5, .int v6]) (rest := []) C0 hZ h hTm (c_X12_reach l G Z adM wm hTm v5 v6 hJ) k_X12_reach q_1947 q_1948 q_1946 kSM_0 rfl rfl rfl hl.1 rfl rfl (Nat.le_of_ble_eq_true rfl) dL_law_1057 ⟨Nat.le_of_ble_eq_true rfl, Nat.le_of_ble_eq_true rfl⟩ ⟨Nat.le_of_ble_eq_true rfl, Nat.le_of_ble_eq_true rfl⟩) (fun r7 H locs wm1 h hTm1 hFm1 hp8 => ?_)
  obtain ⟨xs2, xr2⟩ := hp8
  have hJ1 := hJ.pa hTm (Pa.fr hFm1 (by decide))
  have h := h.swap
  have e12 := (ev1).trans (ev5).symm
  rw [← e12] at xs2 xr2
  clear e12
  have e12 := (ev2).trans (ev6).symm
  rw [← e12] at xs2 xr2
  clear e12
  have hq := RA_reach (N := 1000 + 20 * i.toInt) (a1 := v1.toInt) (a2 := v2.toInt) (by omega) (show RA (1000 + 20 * i.toInt) (xso SC adC wc) (xso SM adM wm) from hV)
  rw [← xs1, ← xs2, ← xr1, ← xr2] at hq
  have hr12 : r3.toInt = r7.toInt := hq.1
  have hV1 : RW (1000 + 20 * (i.toInt + 6)) adC adM wc1 wm1 := RW.nx hq.2
  refine lv_pop C0.1 C0.2.1 dL_law_1060 rfl ?_
  refine lv_goto (tgt := 1725) C0.1 C0.2.1 dL_law_1061 (by decide) ?_
  exact kk _ _ _ _ h ⟨hTc1, hR1, hH1⟩ ⟨hTm1, hJ1⟩ hV1
set_option maxHeartbeats 4000000 in
theorem law_case_24 {p : Program} {l : Launch} {e : Env} {s : State} {m : MethodId} {below : List Frame} {meth : Method} {c : Code} {b L : Nat} {xs : Nat → Int32} {A : Nat → Prop} {G : GG} (C0 : Cx p s m #[Value.ref b] meth c RL cL_law 4 (some .boolean)) (hX : va_X b L xs s s.heap) (hbl : b < s.heap.size) (hbA : ¬ A b) (hL : L ≤ 3072) {Z : RZ} (hZ : Ro Z A s s.heap) {adC adM : Nat → Nat} {H : Heap} {locs : List Loc} {ls : Array Slot} {wc wm : va_W} {i : Int32} (h0 : 0 ≤ i.toInt) (h6 : i.toInt + 6 ≤ L) (h : Wd G A s H locs (wc ++ wm)) (hC : CI G adC wc) (hM : MI G adM wm) (hV : RW (1000 + 20 * i.toInt) adC adM wc wm) (hl : lv_has ls 4 [(0, .ref b), (1, .ref (adC 0)), (2, .ref (adM 0)), (3, .int i)]) (kk : ∀ (H : Heap) (locs : List Loc) (wc wm : va_W), Wd G A s H locs (wc ++ wm) → CI G adC wc → MI G adM wm → RW (1000 + 20 * (i.toInt + 6)) adC adM wc wm → W p l e room_1 s m #[Value.ref b] below meth c H locs 1000 200000 (lw_Z below #[Value.ref b] s) (F0 m 1725 ls [])) : W p l e room_1 s m #[Value.ref b] below meth c H locs 1000 200000 (lw_Z below #[Value.ref b] s) (F0 m 1064 ls []) := by
  obtain ⟨hTc, hR, hH⟩ := hC
  obtain ⟨hTm, hJ⟩ := hM
  refine lv_aload_n C0.1 C0.2.1 dL_law_1064 rfl (lv_at hl 1 rfl) ?_
  refine lw_arg (k := 1) C0 hX hbl hbA hL h hl h0 h6 (by decide) (by decide) dL_law_1065 dL_law_1066 dL_law_1067 dL_law_1068 dL_law_1069 (fun v1 ev1 => ?_)
  refine z_ci (S := SC) (ad := adC) h (z_rV (S := SC) (ad := adC) (i := 0) (κ := 0) (ci := 11) (As := [.int v1]) (rest := []) C0 hZ h hTc (c_X11_enough l G Z adC wc hTc v1 hR hH) k_X11_enough q_1258 q_1259 q_1257 kSC_0 rfl rfl rfl hl.1 rfl rfl (Nat.le_of_ble_eq_true rfl) dL_law_1070 ⟨Nat.le_of_ble_eq_true rfl, Nat.le_of_ble_eq_true rfl⟩ ⟨Nat.le_of_ble_eq_true rfl, Nat.le_of_ble_eq_true rfl⟩) (fun r2 H locs wc1 h hTc1 hFc1 hp3 => ?_)
  obtain ⟨xs1, xr1, _, _, hR1, hH1⟩ := hp3
  refine lv_pop C0.1 C0.2.1 dL_law_1073 rfl ?_
  refine lv_aload_n C0.1 C0.2.1 dL_law_1074 rfl (lv_at hl 2 rfl) ?_
  refine lw_arg (k := 1) C0 hX hbl hbA hL h hl h0 h6 (by decide) (by decide) dL_law_1075 dL_law_1076 dL_law_1077 dL_law_1078 dL_law_1079 (fun v4 ev4 => ?_)
  have h := h.swap
  refine z_ci (S := SM) (ad := adM) h (z_rV (S := SM) (ad := adM) (i := 0) (κ := 0) (ci := 12) (As := [.int v4]) (rest := []) C0 hZ h hTm (c_X12_enough l G Z adM wm hTm v4 hJ) k_X12_enough q_1951 q_1952 q_1950 kSM_0 rfl rfl rfl hl.1 rfl rfl (Nat.le_of_ble_eq_true rfl) dL_law_1080 ⟨Nat.le_of_ble_eq_true rfl, Nat.le_of_ble_eq_true rfl⟩ ⟨Nat.le_of_ble_eq_true rfl, Nat.le_of_ble_eq_true rfl⟩) (fun r5 H locs wm1 h hTm1 hFm1 hp6 => ?_)
  obtain ⟨xs2, xr2, _⟩ := hp6
  have hJ1 := hJ.pa hTm (Pa.fr hFm1 (by decide))
  have h := h.swap
  have e12 := (ev1).trans (ev4).symm
  rw [← e12] at xs2 xr2
  clear e12
  have hq := RA_enough (N := 1000 + 20 * i.toInt) (a1 := v1.toInt) (by omega) (show RA (1000 + 20 * i.toInt) (xso SC adC wc) (xso SM adM wm) from hV)
  rw [← xs1, ← xs2, ← xr1, ← xr2] at hq
  have hr12 : r2.toInt = r5.toInt := hq.1
  have hV1 : RW (1000 + 20 * (i.toInt + 6)) adC adM wc1 wm1 := RW.nx hq.2
  refine lv_pop C0.1 C0.2.1 dL_law_1083 rfl ?_
  refine lv_goto (tgt := 1725) C0.1 C0.2.1 dL_law_1084 (by decide) ?_
  exact kk _ _ _ _ h ⟨hTc1, hR1, hH1⟩ ⟨hTm1, hJ1⟩ hV1
set_option maxHeartbeats 4000000 in
theorem law_case_25 {p : Program} {l : Launch} {e : Env} {s : State} {m : MethodId} {below : List Frame} {meth : Method} {c : Code} {b L : Nat} {xs : Nat → Int32} {A : Nat → Prop} {G : GG} (C0 : Cx p s m #[Value.ref b] meth c RL cL_law 4 (some .boolean)) (hX : va_X b L xs s s.heap) (hbl : b < s.heap.size) (hbA : ¬ A b) (hL : L ≤ 3072) {Z : RZ} (hZ : Ro Z A s s.heap) {adC adM : Nat → Nat} {H : Heap} {locs : List Loc} {ls : Array Slot} {wc wm : va_W} {i : Int32} (h0 : 0 ≤ i.toInt) (h6 : i.toInt + 6 ≤ L) (h : Wd G A s H locs (wc ++ wm)) (hC : CI G adC wc) (hM : MI G adM wm) (hV : RW (1000 + 20 * i.toInt) adC adM wc wm) (hl : lv_has ls 4 [(0, .ref b), (1, .ref (adC 0)), (2, .ref (adM 0)), (3, .int i)]) (kk : ∀ (H : Heap) (locs : List Loc) (wc wm : va_W), Wd G A s H locs (wc ++ wm) → CI G adC wc → MI G adM wm → RW (1000 + 20 * (i.toInt + 6)) adC adM wc wm → W p l e room_1 s m #[Value.ref b] below meth c H locs 1000 200000 (lw_Z below #[Value.ref b] s) (F0 m 1725 ls [])) : W p l e room_1 s m #[Value.ref b] below meth c H locs 1000 200000 (lw_Z below #[Value.ref b] s) (F0 m 1087 ls []) := by
  obtain ⟨hTc, hR, hH⟩ := hC
  obtain ⟨hTm, hJ⟩ := hM
  refine lv_aload_n C0.1 C0.2.1 dL_law_1087 rfl (lv_at hl 1 rfl) ?_
  refine lw_arg (k := 1) C0 hX hbl hbA hL h hl h0 h6 (by decide) (by decide) dL_law_1088 dL_law_1089 dL_law_1090 dL_law_1091 dL_law_1092 (fun v1 ev1 => ?_)
  refine lw_arg (k := 2) C0 hX hbl hbA hL h hl h0 h6 (by decide) (by decide) dL_law_1093 dL_law_1094 dL_law_1095 dL_law_1096 dL_law_1097 (fun v2 ev2 => ?_)
  refine z_ci (S := SC) (ad := adC) h (z_rV (S := SC) (ad := adC) (i := 0) (κ := 0) (ci := 11) (As := [.int v1, .int v2]) (rest := []) C0 hZ h hTc (c_X11_byRights l G Z adC wc hTc v1 v2 hR hH) k_X11_byRights q_1266 q_1267 q_1265 kSC_0 rfl rfl rfl hl.1 rfl rfl (Nat.le_of_ble_eq_true rfl) dL_law_1098 ⟨Nat.le_of_ble_eq_true rfl, Nat.le_of_ble_eq_true rfl⟩ ⟨Nat.le_of_ble_eq_true rfl, Nat.le_of_ble_eq_true rfl⟩) (fun r3 H locs wc1 h hTc1 hFc1 hp4 => ?_)
  obtain ⟨xs1, xr1, _, _, hR1, hH1⟩ := hp4
  refine lv_pop C0.1 C0.2.1 dL_law_1101 rfl ?_
  refine lv_aload_n C0.1 C0.2.1 dL_law_1102 rfl (lv_at hl 2 rfl) ?_
  refine lw_arg (k := 1) C0 hX hbl hbA hL h hl h0 h6 (by decide) (by decide) dL_law_1103 dL_law_1104 dL_law_1105 dL_law_1106 dL_law_1107 (fun v5 ev5 => ?_)
  refine lw_arg (k := 2) C0 hX hbl hbA hL h hl h0 h6 (by decide) (by decide) dL_law_1108 dL_law_1109 dL_law_1110 dL_law_1111 dL_law_1112 (fun v6 ev6 => ?_)
  have h := h.swap
  refine z_ci (S := SM) (ad := adM) h (z_rV (S := SM) (ad := adM) (i := 0) (κ := 0) (ci := 12) (As := [.int v5, .int v6]) (rest := []) C0 hZ h hTm (c_X12_byRights l G Z adM wm hTm v5 v6 hJ) k_X12_byRights q_1955 q_1956 q_1954 kSM_0 rfl rfl rfl hl.1 rfl rfl (Nat.le_of_ble_eq_true rfl) dL_law_1113 ⟨Nat.le_of_ble_eq_true rfl, Nat.le_of_ble_eq_true rfl⟩ ⟨Nat.le_of_ble_eq_true rfl, Nat.le_of_ble_eq_true rfl⟩) (fun r7 H locs wm1 h hTm1 hFm1 hp8 => ?_)
  obtain ⟨xs2, xr2, _, _⟩ := hp8
  have hJ1 := hJ.pa hTm (Pa.fr hFm1 (by decide))
  have h := h.swap
  have e12 := (ev1).trans (ev5).symm
  rw [← e12] at xs2 xr2
  clear e12
  have e12 := (ev2).trans (ev6).symm
  rw [← e12] at xs2 xr2
  clear e12
  have hq := RA_byRights (N := 1000 + 20 * i.toInt) (a1 := v1.toInt) (a2 := v2.toInt) (by omega) (show RA (1000 + 20 * i.toInt) (xso SC adC wc) (xso SM adM wm) from hV)
  rw [← xs1, ← xs2, ← xr1, ← xr2] at hq
  have hr12 : r3.toInt = r7.toInt := hq.1
  have hV1 : RW (1000 + 20 * (i.toInt + 6)) adC adM wc1 wm1 := RW.nx hq.2
  refine lv_pop C0.1 C0.2.1 dL_law_1116 rfl ?_
  refine lv_goto (tgt := 1725) C0.1 C0.2.1 dL_law_1117 (by decide) ?_
  exact kk _ _ _ _ h ⟨hTc1, hR1, hH1⟩ ⟨hTm1, hJ1⟩ hV1
set_option maxHeartbeats 4000000 in
theorem law_case_26 {p : Program} {l : Launch} {e : Env} {s : State} {m : MethodId} {below : List Frame} {meth : Method} {c : Code} {b L : Nat} {xs : Nat → Int32} {A : Nat → Prop} {G : GG} (C0 : Cx p s m #[Value.ref b] meth c RL cL_law 4 (some .boolean)) (hX : va_X b L xs s s.heap) (hbl : b < s.heap.size) (hbA : ¬ A b) (hL : L ≤ 3072) {Z : RZ} (hZ : Ro Z A s s.heap) {adC adM : Nat → Nat} {H : Heap} {locs : List Loc} {ls : Array Slot} {wc wm : va_W} {i : Int32} (h0 : 0 ≤ i.toInt) (h6 : i.toInt + 6 ≤ L) (h : Wd G A s H locs (wc ++ wm)) (hC : CI G adC wc) (hM : MI G adM wm) (hV : RW (1000 + 20 * i.toInt) adC adM wc wm) (hl : lv_has ls 4 [(0, .ref b), (1, .ref (adC 0)), (2, .ref (adM 0)), (3, .int i)]) (kk : ∀ (H : Heap) (locs : List Loc) (wc wm : va_W), Wd G A s H locs (wc ++ wm) → CI G adC wc → MI G adM wm → RW (1000 + 20 * (i.toInt + 6)) adC adM wc wm → W p l e room_1 s m #[Value.ref b] below meth c H locs 1000 200000 (lw_Z below #[Value.ref b] s) (F0 m 1725 ls [])) : W p l e room_1 s m #[Value.ref b] below meth c H locs 1000 200000 (lw_Z below #[Value.ref b] s) (F0 m 1120 ls []) := by
  obtain ⟨hTc, hR, hH⟩ := hC
  obtain ⟨hTm, hJ⟩ := hM
  refine lv_aload_n C0.1 C0.2.1 dL_law_1120 rfl (lv_at hl 1 rfl) ?_
  refine lw_arg (k := 1) C0 hX hbl hbA hL h hl h0 h6 (by decide) (by decide) dL_law_1121 dL_law_1122 dL_law_1123 dL_law_1124 dL_law_1125 (fun v1 ev1 => ?_)
  refine lw_arg (k := 2) C0 hX hbl hbA hL h hl h0 h6 (by decide) (by decide) dL_law_1126 dL_law_1127 dL_law_1128 dL_law_1129 dL_law_1130 (fun v2 ev2 => ?_)
  refine lw_arg (k := 3) C0 hX hbl hbA hL h hl h0 h6 (by decide) (by decide) dL_law_1131 dL_law_1132 dL_law_1133 dL_law_1134 dL_law_1135 (fun v3 ev3 => ?_)
  refine z_ci (S := SC) (ad := adC) h (z_rV (S := SC) (ad := adC) (i := 0) (κ := 0) (ci := 11) (As := [.int v1, .int v2, .int v3]) (rest := []) C0 hZ h hTc (c_X11_round l G Z adC wc hTc v1 v2 v3 hR hH) k_X11_round q_1275 q_1276 q_1274 kSC_0 rfl rfl rfl hl.1 rfl rfl (Nat.le_of_ble_eq_true rfl) dL_law_1136 ⟨Nat.le_of_ble_eq_true rfl, Nat.le_of_ble_eq_true rfl⟩ ⟨Nat.le_of_ble_eq_true rfl, Nat.le_of_ble_eq_true rfl⟩) (fun r4 H locs wc1 h hTc1 hFc1 hp5 => ?_)
  obtain ⟨xs1, xr1, hR1, hH1⟩ := hp5
  refine lv_pop C0.1 C0.2.1 dL_law_1139 rfl ?_
  refine lv_aload_n C0.1 C0.2.1 dL_law_1140 rfl (lv_at hl 2 rfl) ?_
  refine lw_arg (k := 1) C0 hX hbl hbA hL h hl h0 h6 (by decide) (by decide) dL_law_1141 dL_law_1142 dL_law_1143 dL_law_1144 dL_law_1145 (fun v6 ev6 => ?_)
  refine lw_arg (k := 2) C0 hX hbl hbA hL h hl h0 h6 (by decide) (by decide) dL_law_1146 dL_law_1147 dL_law_1148 dL_law_1149 dL_law_1150 (fun v7 ev7 => ?_)
  refine lw_arg (k := 3) C0 hX hbl hbA hL h hl h0 h6 (by decide) (by decide) dL_law_1151 dL_law_1152 dL_law_1153 dL_law_1154 dL_law_1155 (fun v8 ev8 => ?_)
  have h := h.swap
  refine z_ci (S := SM) (ad := adM) h (z_rV (S := SM) (ad := adM) (i := 0) (κ := 0) (ci := 12) (As := [.int v6, .int v7, .int v8]) (rest := []) C0 hZ h hTm (c_X12_round l G Z adM wm hTm v6 v7 v8 hJ) k_X12_round q_1959 q_1960 q_1958 kSM_0 rfl rfl rfl hl.1 rfl rfl (Nat.le_of_ble_eq_true rfl) dL_law_1156 ⟨Nat.le_of_ble_eq_true rfl, Nat.le_of_ble_eq_true rfl⟩ ⟨Nat.le_of_ble_eq_true rfl, Nat.le_of_ble_eq_true rfl⟩) (fun r9 H locs wm1 h hTm1 hFm1 hp10 => ?_)
  obtain ⟨xs2, xr2⟩ := hp10
  have hJ1 := hJ.pa hTm (Pa.fr hFm1 (by decide))
  have h := h.swap
  have e12 := (ev1).trans (ev6).symm
  rw [← e12] at xs2 xr2
  clear e12
  have e12 := (ev2).trans (ev7).symm
  rw [← e12] at xs2 xr2
  clear e12
  have e12 := (ev3).trans (ev8).symm
  rw [← e12] at xs2 xr2
  clear e12
  have hq := RK_round (N := 1000 + 20 * i.toInt) (a1 := v1.toInt) (a2 := v2.toInt) (a3 := v3.toInt) (by omega) (show RA (1000 + 20 * i.toInt) (xso SC adC wc) (xso SM adM wm) from hV)
  rw [← xs1, ← xs2] at hq
  have hV1 : RW (1000 + 20 * (i.toInt + 6)) adC adM wc1 wm1 := RW.nx hq
  refine lv_pop C0.1 C0.2.1 dL_law_1159 rfl ?_
  refine lv_goto (tgt := 1725) C0.1 C0.2.1 dL_law_1160 (by decide) ?_
  exact kk _ _ _ _ h ⟨hTc1, hR1, hH1⟩ ⟨hTm1, hJ1⟩ hV1
set_option maxHeartbeats 4000000 in
theorem law_case_27 {p : Program} {l : Launch} {e : Env} {s : State} {m : MethodId} {below : List Frame} {meth : Method} {c : Code} {b L : Nat} {xs : Nat → Int32} {A : Nat → Prop} {G : GG} (C0 : Cx p s m #[Value.ref b] meth c RL cL_law 4 (some .boolean)) (hX : va_X b L xs s s.heap) (hbl : b < s.heap.size) (hbA : ¬ A b) (hL : L ≤ 3072) {Z : RZ} (hZ : Ro Z A s s.heap) {adC adM : Nat → Nat} {H : Heap} {locs : List Loc} {ls : Array Slot} {wc wm : va_W} {i : Int32} (h0 : 0 ≤ i.toInt) (h6 : i.toInt + 6 ≤ L) (h : Wd G A s H locs (wc ++ wm)) (hC : CI G adC wc) (hM : MI G adM wm) (hV : RW (1000 + 20 * i.toInt) adC adM wc wm) (hl : lv_has ls 4 [(0, .ref b), (1, .ref (adC 0)), (2, .ref (adM 0)), (3, .int i)]) (kk : ∀ (H : Heap) (locs : List Loc) (wc wm : va_W), Wd G A s H locs (wc ++ wm) → CI G adC wc → MI G adM wm → RW (1000 + 20 * (i.toInt + 6)) adC adM wc wm → W p l e room_1 s m #[Value.ref b] below meth c H locs 1000 200000 (lw_Z below #[Value.ref b] s) (F0 m 1725 ls [])) : W p l e room_1 s m #[Value.ref b] below meth c H locs 1000 200000 (lw_Z below #[Value.ref b] s) (F0 m 1163 ls []) := by
  obtain ⟨hTc, hR, hH⟩ := hC
  obtain ⟨hTm, hJ⟩ := hM
  refine lv_aload_n C0.1 C0.2.1 dL_law_1163 rfl (lv_at hl 1 rfl) ?_
  refine lw_arg (k := 1) C0 hX hbl hbA hL h hl h0 h6 (by decide) (by decide) dL_law_1164 dL_law_1165 dL_law_1166 dL_law_1167 dL_law_1168 (fun v1 ev1 => ?_)
  refine lw_arg (k := 2) C0 hX hbl hbA hL h hl h0 h6 (by decide) (by decide) dL_law_1169 dL_law_1170 dL_law_1171 dL_law_1172 dL_law_1173 (fun v2 ev2 => ?_)
  refine lw_arg (k := 3) C0 hX hbl hbA hL h hl h0 h6 (by decide) (by decide) dL_law_1174 dL_law_1175 dL_law_1176 dL_law_1177 dL_law_1178 (fun v3 ev3 => ?_)
  refine lw_arg (k := 4) C0 hX hbl hbA hL h hl h0 h6 (by decide) (by decide) dL_law_1179 dL_law_1180 dL_law_1181 dL_law_1182 dL_law_1183 (fun v4 ev4 => ?_)
  refine z_ci (S := SC) (ad := adC) h (z_rV (S := SC) (ad := adC) (i := 0) (κ := 0) (ci := 11) (As := [.int v1, .int v2, .int v3, .int v4]) (rest := []) C0 hZ h hTc (c_X11_makeFree l G Z adC wc hTc v1 v2 v3 v4 hR hH) k_X11_makeFree q_1317 q_1318 q_1316 kSC_0 rfl rfl rfl hl.1 rfl rfl (Nat.le_of_ble_eq_true rfl) dL_law_1184 ⟨Nat.le_of_ble_eq_true rfl, Nat.le_of_ble_eq_true rfl⟩ ⟨Nat.le_of_ble_eq_true rfl, Nat.le_of_ble_eq_true rfl⟩) (fun r5 H locs wc1 h hTc1 hFc1 hp6 => ?_)
  obtain ⟨xs1, xr1, _, hR1, hH1⟩ := hp6
  refine lv_pop C0.1 C0.2.1 dL_law_1187 rfl ?_
  refine lv_aload_n C0.1 C0.2.1 dL_law_1188 rfl (lv_at hl 2 rfl) ?_
  refine lw_arg (k := 1) C0 hX hbl hbA hL h hl h0 h6 (by decide) (by decide) dL_law_1189 dL_law_1190 dL_law_1191 dL_law_1192 dL_law_1193 (fun v7 ev7 => ?_)
  refine lw_arg (k := 2) C0 hX hbl hbA hL h hl h0 h6 (by decide) (by decide) dL_law_1194 dL_law_1195 dL_law_1196 dL_law_1197 dL_law_1198 (fun v8 ev8 => ?_)
  refine lw_arg (k := 3) C0 hX hbl hbA hL h hl h0 h6 (by decide) (by decide) dL_law_1199 dL_law_1200 dL_law_1201 dL_law_1202 dL_law_1203 (fun v9 ev9 => ?_)
  refine lw_arg (k := 4) C0 hX hbl hbA hL h hl h0 h6 (by decide) (by decide) dL_law_1204 dL_law_1205 dL_law_1206 dL_law_1207 dL_law_1208 (fun v10 ev10 => ?_)
  have h := h.swap
  refine z_ci (S := SM) (ad := adM) h (z_rV (S := SM) (ad := adM) (i := 0) (κ := 0) (ci := 12) (As := [.int v7, .int v8, .int v9, .int v10]) (rest := []) C0 hZ h hTm (c_X12_makeFree l G Z adM wm hTm v7 v8 v9 v10 hJ) k_X12_makeFree q_1973 q_1974 q_1972 kSM_0 rfl rfl rfl hl.1 rfl rfl (Nat.le_of_ble_eq_true rfl) dL_law_1209 ⟨Nat.le_of_ble_eq_true rfl, Nat.le_of_ble_eq_true rfl⟩ ⟨Nat.le_of_ble_eq_true rfl, Nat.le_of_ble_eq_true rfl⟩) (fun r11 H locs wm1 h hTm1 hFm1 hp12 => ?_)
  obtain ⟨xs2, xr2⟩ := hp12
  have hJ1 := hJ.pa hTm (Pa.fr hFm1 (by decide))
  have h := h.swap
  have e12 := (ev1).trans (ev7).symm
  rw [← e12] at xs2 xr2
  clear e12
  have e12 := (ev2).trans (ev8).symm
  rw [← e12] at xs2 xr2
  clear e12
  have e12 := (ev3).trans (ev9).symm
  rw [← e12] at xs2 xr2
  clear e12
  have e12 := (ev4).trans (ev10).symm
  rw [← e12] at xs2 xr2
  clear e12
  have hq := RK_makeFree (N := 1000 + 20 * i.toInt) (a1 := v1.toInt) (a2 := v2.toInt) (a3 := v3.toInt) (a4 := v4.toInt) (by omega) (show RA (1000 + 20 * i.toInt) (xso SC adC wc) (xso SM adM wm) from hV)
  rw [← xs1, ← xs2] at hq
  have hV1 : RW (1000 + 20 * (i.toInt + 6)) adC adM wc1 wm1 := RW.nx hq
  refine lv_pop C0.1 C0.2.1 dL_law_1212 rfl ?_
  refine lv_goto (tgt := 1725) C0.1 C0.2.1 dL_law_1213 (by decide) ?_
  exact kk _ _ _ _ h ⟨hTc1, hR1, hH1⟩ ⟨hTm1, hJ1⟩ hV1
set_option maxHeartbeats 4000000 in
theorem law_case_28 {p : Program} {l : Launch} {e : Env} {s : State} {m : MethodId} {below : List Frame} {meth : Method} {c : Code} {b L : Nat} {xs : Nat → Int32} {A : Nat → Prop} {G : GG} (C0 : Cx p s m #[Value.ref b] meth c RL cL_law 4 (some .boolean)) (hX : va_X b L xs s s.heap) (hbl : b < s.heap.size) (hbA : ¬ A b) (hL : L ≤ 3072) {Z : RZ} (hZ : Ro Z A s s.heap) {adC adM : Nat → Nat} {H : Heap} {locs : List Loc} {ls : Array Slot} {wc wm : va_W} {i : Int32} (h0 : 0 ≤ i.toInt) (h6 : i.toInt + 6 ≤ L) (h : Wd G A s H locs (wc ++ wm)) (hC : CI G adC wc) (hM : MI G adM wm) (hV : RW (1000 + 20 * i.toInt) adC adM wc wm) (hl : lv_has ls 4 [(0, .ref b), (1, .ref (adC 0)), (2, .ref (adM 0)), (3, .int i)]) (kk : ∀ (H : Heap) (locs : List Loc) (wc wm : va_W), Wd G A s H locs (wc ++ wm) → CI G adC wc → MI G adM wm → RW (1000 + 20 * (i.toInt + 6)) adC adM wc wm → W p l e room_1 s m #[Value.ref b] below meth c H locs 1000 200000 (lw_Z below #[Value.ref b] s) (F0 m 1725 ls [])) : W p l e room_1 s m #[Value.ref b] below meth c H locs 1000 200000 (lw_Z below #[Value.ref b] s) (F0 m 1216 ls []) := by
  obtain ⟨hTc, hR, hH⟩ := hC
  obtain ⟨hTm, hJ⟩ := hM
  refine lv_aload_n C0.1 C0.2.1 dL_law_1216 rfl (lv_at hl 1 rfl) ?_
  refine lw_arg (k := 1) C0 hX hbl hbA hL h hl h0 h6 (by decide) (by decide) dL_law_1217 dL_law_1218 dL_law_1219 dL_law_1220 dL_law_1221 (fun v1 ev1 => ?_)
  refine lw_arg (k := 2) C0 hX hbl hbA hL h hl h0 h6 (by decide) (by decide) dL_law_1222 dL_law_1223 dL_law_1224 dL_law_1225 dL_law_1226 (fun v2 ev2 => ?_)
  refine lw_arg (k := 3) C0 hX hbl hbA hL h hl h0 h6 (by decide) (by decide) dL_law_1227 dL_law_1228 dL_law_1229 dL_law_1230 dL_law_1231 (fun v3 ev3 => ?_)
  refine z_ci (S := SC) (ad := adC) h (z_rV (S := SC) (ad := adC) (i := 0) (κ := 0) (ci := 11) (As := [.int v1, .int v2, .int v3]) (rest := []) C0 hZ h hTc (c_X11_bestCorner l G Z adC wc hTc v1 v2 v3 hR hH) k_X11_bestCorner q_1327 q_1328 q_1326 kSC_0 rfl rfl rfl hl.1 rfl rfl (Nat.le_of_ble_eq_true rfl) dL_law_1232 ⟨Nat.le_of_ble_eq_true rfl, Nat.le_of_ble_eq_true rfl⟩ ⟨Nat.le_of_ble_eq_true rfl, Nat.le_of_ble_eq_true rfl⟩) (fun r4 H locs wc1 h hTc1 hFc1 hp5 => ?_)
  obtain ⟨xs1, xr1, _, _, hR1, hH1⟩ := hp5
  refine lv_pop C0.1 C0.2.1 dL_law_1235 rfl ?_
  refine lv_aload_n C0.1 C0.2.1 dL_law_1236 rfl (lv_at hl 2 rfl) ?_
  refine lw_arg (k := 1) C0 hX hbl hbA hL h hl h0 h6 (by decide) (by decide) dL_law_1237 dL_law_1238 dL_law_1239 dL_law_1240 dL_law_1241 (fun v6 ev6 => ?_)
  refine lw_arg (k := 2) C0 hX hbl hbA hL h hl h0 h6 (by decide) (by decide) dL_law_1242 dL_law_1243 dL_law_1244 dL_law_1245 dL_law_1246 (fun v7 ev7 => ?_)
  refine lw_arg (k := 3) C0 hX hbl hbA hL h hl h0 h6 (by decide) (by decide) dL_law_1247 dL_law_1248 dL_law_1249 dL_law_1250 dL_law_1251 (fun v8 ev8 => ?_)
  have h := h.swap
  refine z_ci (S := SM) (ad := adM) h (z_rV (S := SM) (ad := adM) (i := 0) (κ := 0) (ci := 12) (As := [.int v6, .int v7, .int v8]) (rest := []) C0 hZ h hTm (c_X12_bestCorner l G Z adM wm hTm v6 v7 v8 hJ) k_X12_bestCorner q_1985 q_1986 q_1984 kSM_0 rfl rfl rfl hl.1 rfl rfl (Nat.le_of_ble_eq_true rfl) dL_law_1252 ⟨Nat.le_of_ble_eq_true rfl, Nat.le_of_ble_eq_true rfl⟩ ⟨Nat.le_of_ble_eq_true rfl, Nat.le_of_ble_eq_true rfl⟩) (fun r9 H locs wm1 h hTm1 hFm1 hp10 => ?_)
  obtain ⟨xs2, xr2, _, _, hPa, hPw⟩ := hp10
  have hJ1 := hJ.pa hTm hPa
  have h := h.swap
  have e12 := (ev1).trans (ev6).symm
  rw [← e12] at xs2 xr2
  clear e12
  have e12 := (ev2).trans (ev7).symm
  rw [← e12] at xs2 xr2
  clear e12
  have e12 := (ev3).trans (ev8).symm
  rw [← e12] at xs2 xr2
  clear e12
  have hq := RK_bestCorner (N := 1000 + 20 * i.toInt) (a1 := v1.toInt) (a2 := v2.toInt) (a3 := v3.toInt) (by omega) (show RA (1000 + 20 * i.toInt) (xso SC adC wc) (xso SM adM wm) from hV)
  rw [← xs1, ← xs2] at hq
  have hV1 : RW (1000 + 20 * (i.toInt + 6)) adC adM wc1 wm1 := RW.nx hq
  refine lv_pop C0.1 C0.2.1 dL_law_1255 rfl ?_
  refine lv_goto (tgt := 1725) C0.1 C0.2.1 dL_law_1256 (by decide) ?_
  exact kk _ _ _ _ h ⟨hTc1, hR1, hH1⟩ ⟨hTm1, hJ1⟩ hV1
set_option maxHeartbeats 4000000 in
theorem law_case_29 {p : Program} {l : Launch} {e : Env} {s : State} {m : MethodId} {below : List Frame} {meth : Method} {c : Code} {b L : Nat} {xs : Nat → Int32} {A : Nat → Prop} {G : GG} (C0 : Cx p s m #[Value.ref b] meth c RL cL_law 4 (some .boolean)) (hX : va_X b L xs s s.heap) (hbl : b < s.heap.size) (hbA : ¬ A b) (hL : L ≤ 3072) {Z : RZ} (hZ : Ro Z A s s.heap) {adC adM : Nat → Nat} {H : Heap} {locs : List Loc} {ls : Array Slot} {wc wm : va_W} {i : Int32} (h0 : 0 ≤ i.toInt) (h6 : i.toInt + 6 ≤ L) (h : Wd G A s H locs (wc ++ wm)) (hC : CI G adC wc) (hM : MI G adM wm) (hV : RW (1000 + 20 * i.toInt) adC adM wc wm) (hl : lv_has ls 4 [(0, .ref b), (1, .ref (adC 0)), (2, .ref (adM 0)), (3, .int i)]) (kk : ∀ (H : Heap) (locs : List Loc) (wc wm : va_W), Wd G A s H locs (wc ++ wm) → CI G adC wc → MI G adM wm → RW (1000 + 20 * (i.toInt + 6)) adC adM wc wm → W p l e room_1 s m #[Value.ref b] below meth c H locs 1000 200000 (lw_Z below #[Value.ref b] s) (F0 m 1725 ls [])) : W p l e room_1 s m #[Value.ref b] below meth c H locs 1000 200000 (lw_Z below #[Value.ref b] s) (F0 m 1259 ls []) := by
  obtain ⟨hTc, hR, hH⟩ := hC
  obtain ⟨hTm, hJ⟩ := hM
  refine lv_aload_n C0.1 C0.2.1 dL_law_1259 rfl (lv_at hl 1 rfl) ?_
  refine lw_arg (k := 1) C0 hX hbl hbA hL h hl h0 h6 (by decide) (by decide) dL_law_1260 dL_law_1261 dL_law_1262 dL_law_1263 dL_law_1264 (fun v1 ev1 => ?_)
  refine lw_arg (k := 2) C0 hX hbl hbA hL h hl h0 h6 (by decide) (by decide) dL_law_1265 dL_law_1266 dL_law_1267 dL_law_1268 dL_law_1269 (fun v2 ev2 => ?_)
  refine lw_arg (k := 3) C0 hX hbl hbA hL h hl h0 h6 (by decide) (by decide) dL_law_1270 dL_law_1271 dL_law_1272 dL_law_1273 dL_law_1274 (fun v3 ev3 => ?_)
  refine z_ci (S := SC) (ad := adC) h (z_rV (S := SC) (ad := adC) (i := 0) (κ := 0) (ci := 11) (As := [.int v1, .int v2, .int v3]) (rest := []) C0 hZ h hTc (c_X11_dealing l G Z adC wc hTc v1 v2 v3 hR hH) k_X11_dealing q_1331 q_1332 q_1330 kSC_0 rfl rfl rfl hl.1 rfl rfl (Nat.le_of_ble_eq_true rfl) dL_law_1275 ⟨Nat.le_of_ble_eq_true rfl, Nat.le_of_ble_eq_true rfl⟩ ⟨Nat.le_of_ble_eq_true rfl, Nat.le_of_ble_eq_true rfl⟩) (fun r4 H locs wc1 h hTc1 hFc1 hp5 => ?_)
  obtain ⟨xs1, xr1, hR1, hH1⟩ := hp5
  refine lv_pop C0.1 C0.2.1 dL_law_1278 rfl ?_
  refine lv_aload_n C0.1 C0.2.1 dL_law_1279 rfl (lv_at hl 2 rfl) ?_
  refine lw_arg (k := 1) C0 hX hbl hbA hL h hl h0 h6 (by decide) (by decide) dL_law_1280 dL_law_1281 dL_law_1282 dL_law_1283 dL_law_1284 (fun v6 ev6 => ?_)
  refine lw_arg (k := 2) C0 hX hbl hbA hL h hl h0 h6 (by decide) (by decide) dL_law_1285 dL_law_1286 dL_law_1287 dL_law_1288 dL_law_1289 (fun v7 ev7 => ?_)
  refine lw_arg (k := 3) C0 hX hbl hbA hL h hl h0 h6 (by decide) (by decide) dL_law_1290 dL_law_1291 dL_law_1292 dL_law_1293 dL_law_1294 (fun v8 ev8 => ?_)
  have h := h.swap
  refine z_ci (S := SM) (ad := adM) h (z_rV (S := SM) (ad := adM) (i := 0) (κ := 0) (ci := 12) (As := [.int v6, .int v7, .int v8]) (rest := []) C0 hZ h hTm (c_X12_dealing l G Z adM wm hTm v6 v7 v8 hJ) k_X12_dealing q_1990 q_1991 q_1989 kSM_0 rfl rfl rfl hl.1 rfl rfl (Nat.le_of_ble_eq_true rfl) dL_law_1295 ⟨Nat.le_of_ble_eq_true rfl, Nat.le_of_ble_eq_true rfl⟩ ⟨Nat.le_of_ble_eq_true rfl, Nat.le_of_ble_eq_true rfl⟩) (fun r9 H locs wm1 h hTm1 hFm1 hp10 => ?_)
  obtain ⟨xs2, xr2, _⟩ := hp10
  have hJ1 := hJ.pa hTm (Pa.fr hFm1 (by decide))
  have h := h.swap
  have e12 := (ev1).trans (ev6).symm
  rw [← e12] at xs2 xr2
  clear e12
  have e12 := (ev2).trans (ev7).symm
  rw [← e12] at xs2 xr2
  clear e12
  have e12 := (ev3).trans (ev8).symm
  rw [← e12] at xs2 xr2
  clear e12
  have hq := RK_dealing (N := 1000 + 20 * i.toInt) (a1 := v1.toInt) (a2 := v2.toInt) (a3 := v3.toInt) (by omega) (show RA (1000 + 20 * i.toInt) (xso SC adC wc) (xso SM adM wm) from hV)
  rw [← xs1, ← xs2] at hq
  have hV1 : RW (1000 + 20 * (i.toInt + 6)) adC adM wc1 wm1 := RW.nx hq
  refine lv_pop C0.1 C0.2.1 dL_law_1298 rfl ?_
  refine lv_goto (tgt := 1725) C0.1 C0.2.1 dL_law_1299 (by decide) ?_
  exact kk _ _ _ _ h ⟨hTc1, hR1, hH1⟩ ⟨hTm1, hJ1⟩ hV1
set_option maxHeartbeats 4000000 in
theorem law_case_30 {p : Program} {l : Launch} {e : Env} {s : State} {m : MethodId} {below : List Frame} {meth : Method} {c : Code} {b L : Nat} {xs : Nat → Int32} {A : Nat → Prop} {G : GG} (C0 : Cx p s m #[Value.ref b] meth c RL cL_law 4 (some .boolean)) (hX : va_X b L xs s s.heap) (hbl : b < s.heap.size) (hbA : ¬ A b) (hL : L ≤ 3072) {Z : RZ} (hZ : Ro Z A s s.heap) {adC adM : Nat → Nat} {H : Heap} {locs : List Loc} {ls : Array Slot} {wc wm : va_W} {i : Int32} (h0 : 0 ≤ i.toInt) (h6 : i.toInt + 6 ≤ L) (h : Wd G A s H locs (wc ++ wm)) (hC : CI G adC wc) (hM : MI G adM wm) (hV : RW (1000 + 20 * i.toInt) adC adM wc wm) (hl : lv_has ls 4 [(0, .ref b), (1, .ref (adC 0)), (2, .ref (adM 0)), (3, .int i)]) (kk : ∀ (H : Heap) (locs : List Loc) (wc wm : va_W), Wd G A s H locs (wc ++ wm) → CI G adC wc → MI G adM wm → RW (1000 + 20 * (i.toInt + 6)) adC adM wc wm → W p l e room_1 s m #[Value.ref b] below meth c H locs 1000 200000 (lw_Z below #[Value.ref b] s) (F0 m 1725 ls [])) : W p l e room_1 s m #[Value.ref b] below meth c H locs 1000 200000 (lw_Z below #[Value.ref b] s) (F0 m 1302 ls []) := by
  obtain ⟨hTc, hR, hH⟩ := hC
  obtain ⟨hTm, hJ⟩ := hM
  refine lv_aload_n C0.1 C0.2.1 dL_law_1302 rfl (lv_at hl 1 rfl) ?_
  refine z_ci (S := SC) (ad := adC) h (z_rV (S := SC) (ad := adC) (i := 0) (κ := 0) (ci := 11) (As := []) (rest := []) C0 hZ h hTc (c_X11_cheap l G Z adC wc hTc hR hH) k_X11_cheap q_1335 q_1336 q_1334 kSC_0 rfl rfl rfl hl.1 rfl rfl (Nat.le_of_ble_eq_true rfl) dL_law_1303 ⟨Nat.le_of_ble_eq_true rfl, Nat.le_of_ble_eq_true rfl⟩ ⟨Nat.le_of_ble_eq_true rfl, Nat.le_of_ble_eq_true rfl⟩) (fun r1 H locs wc1 h hTc1 hFc1 hp2 => ?_)
  obtain ⟨xs1, xr1, _, _, hR1, hH1⟩ := hp2
  refine lv_pop C0.1 C0.2.1 dL_law_1306 rfl ?_
  refine lv_aload_n C0.1 C0.2.1 dL_law_1307 rfl (lv_at hl 2 rfl) ?_
  have h := h.swap
  refine z_ci (S := SM) (ad := adM) h (z_rV (S := SM) (ad := adM) (i := 0) (κ := 0) (ci := 12) (As := []) (rest := []) C0 hZ h hTm (c_X12_cheap l G Z adM wm hTm hJ) k_X12_cheap q_1994 q_1995 q_1993 kSM_0 rfl rfl rfl hl.1 rfl rfl (Nat.le_of_ble_eq_true rfl) dL_law_1308 ⟨Nat.le_of_ble_eq_true rfl, Nat.le_of_ble_eq_true rfl⟩ ⟨Nat.le_of_ble_eq_true rfl, Nat.le_of_ble_eq_true rfl⟩) (fun r3 H locs wm1 h hTm1 hFm1 hp4 => ?_)
  obtain ⟨xs2, xr2, _, _⟩ := hp4
  have hJ1 := hJ.pa hTm (Pa.fr hFm1 (by decide))
  have h := h.swap
  have hq := RK_cheap (N := 1000 + 20 * i.toInt) (by omega) (show RA (1000 + 20 * i.toInt) (xso SC adC wc) (xso SM adM wm) from hV)
  rw [← xs1, ← xs2] at hq
  have hV1 : RW (1000 + 20 * (i.toInt + 6)) adC adM wc1 wm1 := RW.nx hq
  refine lv_pop C0.1 C0.2.1 dL_law_1311 rfl ?_
  refine lv_goto (tgt := 1725) C0.1 C0.2.1 dL_law_1312 (by decide) ?_
  exact kk _ _ _ _ h ⟨hTc1, hR1, hH1⟩ ⟨hTm1, hJ1⟩ hV1
set_option maxHeartbeats 4000000 in
theorem law_case_31 {p : Program} {l : Launch} {e : Env} {s : State} {m : MethodId} {below : List Frame} {meth : Method} {c : Code} {b L : Nat} {xs : Nat → Int32} {A : Nat → Prop} {G : GG} (C0 : Cx p s m #[Value.ref b] meth c RL cL_law 4 (some .boolean)) (hX : va_X b L xs s s.heap) (hbl : b < s.heap.size) (hbA : ¬ A b) (hL : L ≤ 3072) {Z : RZ} (hZ : Ro Z A s s.heap) {adC adM : Nat → Nat} {H : Heap} {locs : List Loc} {ls : Array Slot} {wc wm : va_W} {i : Int32} (h0 : 0 ≤ i.toInt) (h6 : i.toInt + 6 ≤ L) (h : Wd G A s H locs (wc ++ wm)) (hC : CI G adC wc) (hM : MI G adM wm) (hV : RW (1000 + 20 * i.toInt) adC adM wc wm) (hl : lv_has ls 4 [(0, .ref b), (1, .ref (adC 0)), (2, .ref (adM 0)), (3, .int i)]) (kk : ∀ (H : Heap) (locs : List Loc) (wc wm : va_W), Wd G A s H locs (wc ++ wm) → CI G adC wc → MI G adM wm → RW (1000 + 20 * (i.toInt + 6)) adC adM wc wm → W p l e room_1 s m #[Value.ref b] below meth c H locs 1000 200000 (lw_Z below #[Value.ref b] s) (F0 m 1725 ls [])) : W p l e room_1 s m #[Value.ref b] below meth c H locs 1000 200000 (lw_Z below #[Value.ref b] s) (F0 m 1315 ls []) := by
  obtain ⟨hTc, hR, hH⟩ := hC
  obtain ⟨hTm, hJ⟩ := hM
  refine lv_aload_n C0.1 C0.2.1 dL_law_1315 rfl (lv_at hl 1 rfl) ?_
  refine lw_arg (k := 1) C0 hX hbl hbA hL h hl h0 h6 (by decide) (by decide) dL_law_1316 dL_law_1317 dL_law_1318 dL_law_1319 dL_law_1320 (fun v1 ev1 => ?_)
  refine z_ci (S := SC) (ad := adC) h (z_rV (S := SC) (ad := adC) (i := 0) (κ := 0) (ci := 11) (As := [.int v1]) (rest := []) C0 hZ h hTc (c_X11_affords l G Z adC wc hTc v1 hR hH) k_X11_affords q_1339 q_1340 q_1338 kSC_0 rfl rfl rfl hl.1 rfl rfl (Nat.le_of_ble_eq_true rfl) dL_law_1321 ⟨Nat.le_of_ble_eq_true rfl, Nat.le_of_ble_eq_true rfl⟩ ⟨Nat.le_of_ble_eq_true rfl, Nat.le_of_ble_eq_true rfl⟩) (fun r2 H locs wc1 h hTc1 hFc1 hp3 => ?_)
  obtain ⟨xs1, xr1, _, hR1, hH1⟩ := hp3
  refine lv_pop C0.1 C0.2.1 dL_law_1324 rfl ?_
  refine lv_aload_n C0.1 C0.2.1 dL_law_1325 rfl (lv_at hl 2 rfl) ?_
  refine lw_arg (k := 1) C0 hX hbl hbA hL h hl h0 h6 (by decide) (by decide) dL_law_1326 dL_law_1327 dL_law_1328 dL_law_1329 dL_law_1330 (fun v4 ev4 => ?_)
  have h := h.swap
  refine z_ci (S := SM) (ad := adM) h (z_rV (S := SM) (ad := adM) (i := 0) (κ := 0) (ci := 12) (As := [.int v4]) (rest := []) C0 hZ h hTm (c_X12_affords l G Z adM wm hTm v4 hJ) k_X12_affords q_1998 q_1999 q_1997 kSM_0 rfl rfl rfl hl.1 rfl rfl (Nat.le_of_ble_eq_true rfl) dL_law_1331 ⟨Nat.le_of_ble_eq_true rfl, Nat.le_of_ble_eq_true rfl⟩ ⟨Nat.le_of_ble_eq_true rfl, Nat.le_of_ble_eq_true rfl⟩) (fun r5 H locs wm1 h hTm1 hFm1 hp6 => ?_)
  obtain ⟨xs2, xr2, hPa, hPw⟩ := hp6
  have hJ1 := hJ.pa hTm hPa
  have h := h.swap
  have e12 := (ev1).trans (ev4).symm
  rw [← e12] at xs2 xr2
  clear e12
  have hq := RK_affords (N := 1000 + 20 * i.toInt) (a1 := v1.toInt) (by omega) (show RA (1000 + 20 * i.toInt) (xso SC adC wc) (xso SM adM wm) from hV)
  rw [← xs1, ← xs2] at hq
  have hV1 : RW (1000 + 20 * (i.toInt + 6)) adC adM wc1 wm1 := RW.nx hq
  refine lv_pop C0.1 C0.2.1 dL_law_1334 rfl ?_
  refine lv_goto (tgt := 1725) C0.1 C0.2.1 dL_law_1335 (by decide) ?_
  exact kk _ _ _ _ h ⟨hTc1, hR1, hH1⟩ ⟨hTm1, hJ1⟩ hV1
set_option maxHeartbeats 4000000 in
theorem law_case_32 {p : Program} {l : Launch} {e : Env} {s : State} {m : MethodId} {below : List Frame} {meth : Method} {c : Code} {b L : Nat} {xs : Nat → Int32} {A : Nat → Prop} {G : GG} (C0 : Cx p s m #[Value.ref b] meth c RL cL_law 4 (some .boolean)) (hX : va_X b L xs s s.heap) (hbl : b < s.heap.size) (hbA : ¬ A b) (hL : L ≤ 3072) {Z : RZ} (hZ : Ro Z A s s.heap) {adC adM : Nat → Nat} {H : Heap} {locs : List Loc} {ls : Array Slot} {wc wm : va_W} {i : Int32} (h0 : 0 ≤ i.toInt) (h6 : i.toInt + 6 ≤ L) (h : Wd G A s H locs (wc ++ wm)) (hC : CI G adC wc) (hM : MI G adM wm) (hV : RW (1000 + 20 * i.toInt) adC adM wc wm) (hl : lv_has ls 4 [(0, .ref b), (1, .ref (adC 0)), (2, .ref (adM 0)), (3, .int i)]) (kk : ∀ (H : Heap) (locs : List Loc) (wc wm : va_W), Wd G A s H locs (wc ++ wm) → CI G adC wc → MI G adM wm → RW (1000 + 20 * (i.toInt + 6)) adC adM wc wm → W p l e room_1 s m #[Value.ref b] below meth c H locs 1000 200000 (lw_Z below #[Value.ref b] s) (F0 m 1725 ls [])) : W p l e room_1 s m #[Value.ref b] below meth c H locs 1000 200000 (lw_Z below #[Value.ref b] s) (F0 m 1338 ls []) := by
  obtain ⟨hTc, hR, hH⟩ := hC
  obtain ⟨hTm, hJ⟩ := hM
  refine lv_aload_n C0.1 C0.2.1 dL_law_1338 rfl (lv_at hl 1 rfl) ?_
  refine lw_arg (k := 1) C0 hX hbl hbA hL h hl h0 h6 (by decide) (by decide) dL_law_1339 dL_law_1340 dL_law_1341 dL_law_1342 dL_law_1343 (fun v1 ev1 => ?_)
  refine lw_arg (k := 2) C0 hX hbl hbA hL h hl h0 h6 (by decide) (by decide) dL_law_1344 dL_law_1345 dL_law_1346 dL_law_1347 dL_law_1348 (fun v2 ev2 => ?_)
  refine lw_arg (k := 3) C0 hX hbl hbA hL h hl h0 h6 (by decide) (by decide) dL_law_1349 dL_law_1350 dL_law_1351 dL_law_1352 dL_law_1353 (fun v3 ev3 => ?_)
  refine z_ci (S := SC) (ad := adC) h (z_rV (S := SC) (ad := adC) (i := 0) (κ := 0) (ci := 11) (As := [.int v1, .int v2, .int v3]) (rest := []) C0 hZ h hTc (c_X11_found l G Z adC wc hTc v1 v2 v3 hR hH) k_X11_found q_1343 q_1344 q_1342 kSC_0 rfl rfl rfl hl.1 rfl rfl (Nat.le_of_ble_eq_true rfl) dL_law_1354 ⟨Nat.le_of_ble_eq_true rfl, Nat.le_of_ble_eq_true rfl⟩ ⟨Nat.le_of_ble_eq_true rfl, Nat.le_of_ble_eq_true rfl⟩) (fun r4 H locs wc1 h hTc1 hFc1 hp5 => ?_)
  obtain ⟨xs1, xr1, hR1, hH1⟩ := hp5
  refine lv_pop C0.1 C0.2.1 dL_law_1357 rfl ?_
  refine lv_aload_n C0.1 C0.2.1 dL_law_1358 rfl (lv_at hl 2 rfl) ?_
  refine lw_arg (k := 1) C0 hX hbl hbA hL h hl h0 h6 (by decide) (by decide) dL_law_1359 dL_law_1360 dL_law_1361 dL_law_1362 dL_law_1363 (fun v6 ev6 => ?_)
  refine lw_arg (k := 2) C0 hX hbl hbA hL h hl h0 h6 (by decide) (by decide) dL_law_1364 dL_law_1365 dL_law_1366 dL_law_1367 dL_law_1368 (fun v7 ev7 => ?_)
  refine lw_arg (k := 3) C0 hX hbl hbA hL h hl h0 h6 (by decide) (by decide) dL_law_1369 dL_law_1370 dL_law_1371 dL_law_1372 dL_law_1373 (fun v8 ev8 => ?_)
  have h := h.swap
  refine z_ci (S := SM) (ad := adM) h (z_rV (S := SM) (ad := adM) (i := 0) (κ := 0) (ci := 12) (As := [.int v6, .int v7, .int v8]) (rest := []) C0 hZ h hTm (c_X12_found l G Z adM wm hTm v6 v7 v8 hJ) k_X12_found q_2002 q_2003 q_2001 kSM_0 rfl rfl rfl hl.1 rfl rfl (Nat.le_of_ble_eq_true rfl) dL_law_1374 ⟨Nat.le_of_ble_eq_true rfl, Nat.le_of_ble_eq_true rfl⟩ ⟨Nat.le_of_ble_eq_true rfl, Nat.le_of_ble_eq_true rfl⟩) (fun r9 H locs wm1 h hTm1 hFm1 hp10 => ?_)
  obtain ⟨xs2, xr2⟩ := hp10
  have hJ1 := hJ.pa hTm (Pa.fr hFm1 (by decide))
  have h := h.swap
  have e12 := (ev1).trans (ev6).symm
  rw [← e12] at xs2 xr2
  clear e12
  have e12 := (ev2).trans (ev7).symm
  rw [← e12] at xs2 xr2
  clear e12
  have e12 := (ev3).trans (ev8).symm
  rw [← e12] at xs2 xr2
  clear e12
  have hq := RK_found (N := 1000 + 20 * i.toInt) (a1 := v1.toInt) (a2 := v2.toInt) (a3 := v3.toInt) (by omega) (show RA (1000 + 20 * i.toInt) (xso SC adC wc) (xso SM adM wm) from hV)
  rw [← xs1, ← xs2] at hq
  have hV1 : RW (1000 + 20 * (i.toInt + 6)) adC adM wc1 wm1 := RW.nx hq
  refine lv_pop C0.1 C0.2.1 dL_law_1377 rfl ?_
  refine lv_goto (tgt := 1725) C0.1 C0.2.1 dL_law_1378 (by decide) ?_
  exact kk _ _ _ _ h ⟨hTc1, hR1, hH1⟩ ⟨hTm1, hJ1⟩ hV1
set_option maxHeartbeats 4000000 in
theorem law_case_33 {p : Program} {l : Launch} {e : Env} {s : State} {m : MethodId} {below : List Frame} {meth : Method} {c : Code} {b L : Nat} {xs : Nat → Int32} {A : Nat → Prop} {G : GG} (C0 : Cx p s m #[Value.ref b] meth c RL cL_law 4 (some .boolean)) (hX : va_X b L xs s s.heap) (hbl : b < s.heap.size) (hbA : ¬ A b) (hL : L ≤ 3072) {Z : RZ} (hZ : Ro Z A s s.heap) {adC adM : Nat → Nat} {H : Heap} {locs : List Loc} {ls : Array Slot} {wc wm : va_W} {i : Int32} (h0 : 0 ≤ i.toInt) (h6 : i.toInt + 6 ≤ L) (h : Wd G A s H locs (wc ++ wm)) (hC : CI G adC wc) (hM : MI G adM wm) (hV : RW (1000 + 20 * i.toInt) adC adM wc wm) (hl : lv_has ls 4 [(0, .ref b), (1, .ref (adC 0)), (2, .ref (adM 0)), (3, .int i)]) (kk : ∀ (H : Heap) (locs : List Loc) (wc wm : va_W), Wd G A s H locs (wc ++ wm) → CI G adC wc → MI G adM wm → RW (1000 + 20 * (i.toInt + 6)) adC adM wc wm → W p l e room_1 s m #[Value.ref b] below meth c H locs 1000 200000 (lw_Z below #[Value.ref b] s) (F0 m 1725 ls [])) : W p l e room_1 s m #[Value.ref b] below meth c H locs 1000 200000 (lw_Z below #[Value.ref b] s) (F0 m 1381 ls []) := by
  obtain ⟨hTc, hR, hH⟩ := hC
  obtain ⟨hTm, hJ⟩ := hM
  refine lv_aload_n C0.1 C0.2.1 dL_law_1381 rfl (lv_at hl 1 rfl) ?_
  refine lw_arg (k := 1) C0 hX hbl hbA hL h hl h0 h6 (by decide) (by decide) dL_law_1382 dL_law_1383 dL_law_1384 dL_law_1385 dL_law_1386 (fun v1 ev1 => ?_)
  refine lw_arg (k := 2) C0 hX hbl hbA hL h hl h0 h6 (by decide) (by decide) dL_law_1387 dL_law_1388 dL_law_1389 dL_law_1390 dL_law_1391 (fun v2 ev2 => ?_)
  refine lw_arg (k := 3) C0 hX hbl hbA hL h hl h0 h6 (by decide) (by decide) dL_law_1392 dL_law_1393 dL_law_1394 dL_law_1395 dL_law_1396 (fun v3 ev3 => ?_)
  refine lw_arg (k := 4) C0 hX hbl hbA hL h hl h0 h6 (by decide) (by decide) dL_law_1397 dL_law_1398 dL_law_1399 dL_law_1400 dL_law_1401 (fun v4 ev4 => ?_)
  refine z_ci (S := SC) (ad := adC) h (z_rV (S := SC) (ad := adC) (i := 0) (κ := 0) (ci := 11) (As := [.int v1, .int v2, .int v3, .int v4]) (rest := []) C0 hZ h hTc (c_X11_chase l G Z adC wc hTc v1 v2 v3 v4 hR hH) k_X11_chase q_1356 q_1357 q_1355 kSC_0 rfl rfl rfl hl.1 rfl rfl (Nat.le_of_ble_eq_true rfl) dL_law_1402 ⟨Nat.le_of_ble_eq_true rfl, Nat.le_of_ble_eq_true rfl⟩ ⟨Nat.le_of_ble_eq_true rfl, Nat.le_of_ble_eq_true rfl⟩) (fun r5 H locs wc1 h hTc1 hFc1 hp6 => ?_)
  obtain ⟨xs1, xr1, _, _, hR1, hH1⟩ := hp6
  refine lv_pop C0.1 C0.2.1 dL_law_1405 rfl ?_
  refine lv_aload_n C0.1 C0.2.1 dL_law_1406 rfl (lv_at hl 2 rfl) ?_
  refine lw_arg (k := 1) C0 hX hbl hbA hL h hl h0 h6 (by decide) (by decide) dL_law_1407 dL_law_1408 dL_law_1409 dL_law_1410 dL_law_1411 (fun v7 ev7 => ?_)
  refine lw_arg (k := 2) C0 hX hbl hbA hL h hl h0 h6 (by decide) (by decide) dL_law_1412 dL_law_1413 dL_law_1414 dL_law_1415 dL_law_1416 (fun v8 ev8 => ?_)
  refine lw_arg (k := 3) C0 hX hbl hbA hL h hl h0 h6 (by decide) (by decide) dL_law_1417 dL_law_1418 dL_law_1419 dL_law_1420 dL_law_1421 (fun v9 ev9 => ?_)
  refine lw_arg (k := 4) C0 hX hbl hbA hL h hl h0 h6 (by decide) (by decide) dL_law_1422 dL_law_1423 dL_law_1424 dL_law_1425 dL_law_1426 (fun v10 ev10 => ?_)
  have h := h.swap
  refine z_ci (S := SM) (ad := adM) h (z_rV (S := SM) (ad := adM) (i := 0) (κ := 0) (ci := 12) (As := [.int v7, .int v8, .int v9, .int v10]) (rest := []) C0 hZ h hTm (c_X12_chase l G Z adM wm hTm v7 v8 v9 v10 hJ) k_X12_chase q_2014 q_2015 q_2013 kSM_0 rfl rfl rfl hl.1 rfl rfl (Nat.le_of_ble_eq_true rfl) dL_law_1427 ⟨Nat.le_of_ble_eq_true rfl, Nat.le_of_ble_eq_true rfl⟩ ⟨Nat.le_of_ble_eq_true rfl, Nat.le_of_ble_eq_true rfl⟩) (fun r11 H locs wm1 h hTm1 hFm1 hp12 => ?_)
  obtain ⟨xs2, xr2, _, _⟩ := hp12
  have hJ1 := hJ.pa hTm (Pa.fr hFm1 (by decide))
  have h := h.swap
  have e12 := (ev1).trans (ev7).symm
  rw [← e12] at xs2 xr2
  clear e12
  have e12 := (ev2).trans (ev8).symm
  rw [← e12] at xs2 xr2
  clear e12
  have e12 := (ev3).trans (ev9).symm
  rw [← e12] at xs2 xr2
  clear e12
  have e12 := (ev4).trans (ev10).symm
  rw [← e12] at xs2 xr2
  clear e12
  have hq := RA_chase (N := 1000 + 20 * i.toInt) (a1 := v1.toInt) (a2 := v2.toInt) (a3 := v3.toInt) (a4 := v4.toInt) (by omega) (show RA (1000 + 20 * i.toInt) (xso SC adC wc) (xso SM adM wm) from hV)
  rw [← xs1, ← xs2, ← xr1, ← xr2] at hq
  have hr12 : r5.toInt = r11.toInt := hq.1
  have hV1 : RW (1000 + 20 * (i.toInt + 6)) adC adM wc1 wm1 := RW.nx hq.2
  refine lv_pop C0.1 C0.2.1 dL_law_1430 rfl ?_
  refine lv_goto (tgt := 1725) C0.1 C0.2.1 dL_law_1431 (by decide) ?_
  exact kk _ _ _ _ h ⟨hTc1, hR1, hH1⟩ ⟨hTm1, hJ1⟩ hV1
set_option maxHeartbeats 4000000 in
theorem law_case_34 {p : Program} {l : Launch} {e : Env} {s : State} {m : MethodId} {below : List Frame} {meth : Method} {c : Code} {b L : Nat} {xs : Nat → Int32} {A : Nat → Prop} {G : GG} (C0 : Cx p s m #[Value.ref b] meth c RL cL_law 4 (some .boolean)) (hX : va_X b L xs s s.heap) (hbl : b < s.heap.size) (hbA : ¬ A b) (hL : L ≤ 3072) {Z : RZ} (hZ : Ro Z A s s.heap) {adC adM : Nat → Nat} {H : Heap} {locs : List Loc} {ls : Array Slot} {wc wm : va_W} {i : Int32} (h0 : 0 ≤ i.toInt) (h6 : i.toInt + 6 ≤ L) (h : Wd G A s H locs (wc ++ wm)) (hC : CI G adC wc) (hM : MI G adM wm) (hV : RW (1000 + 20 * i.toInt) adC adM wc wm) (hl : lv_has ls 4 [(0, .ref b), (1, .ref (adC 0)), (2, .ref (adM 0)), (3, .int i)]) (kk : ∀ (H : Heap) (locs : List Loc) (wc wm : va_W), Wd G A s H locs (wc ++ wm) → CI G adC wc → MI G adM wm → RW (1000 + 20 * (i.toInt + 6)) adC adM wc wm → W p l e room_1 s m #[Value.ref b] below meth c H locs 1000 200000 (lw_Z below #[Value.ref b] s) (F0 m 1725 ls [])) : W p l e room_1 s m #[Value.ref b] below meth c H locs 1000 200000 (lw_Z below #[Value.ref b] s) (F0 m 1434 ls []) := by
  obtain ⟨hTc, hR, hH⟩ := hC
  obtain ⟨hTm, hJ⟩ := hM
  refine lv_aload_n C0.1 C0.2.1 dL_law_1434 rfl (lv_at hl 1 rfl) ?_
  refine lw_arg (k := 1) C0 hX hbl hbA hL h hl h0 h6 (by decide) (by decide) dL_law_1435 dL_law_1436 dL_law_1437 dL_law_1438 dL_law_1439 (fun v1 ev1 => ?_)
  refine lw_arg (k := 2) C0 hX hbl hbA hL h hl h0 h6 (by decide) (by decide) dL_law_1440 dL_law_1441 dL_law_1442 dL_law_1443 dL_law_1444 (fun v2 ev2 => ?_)
  refine lw_arg (k := 3) C0 hX hbl hbA hL h hl h0 h6 (by decide) (by decide) dL_law_1445 dL_law_1446 dL_law_1447 dL_law_1448 dL_law_1449 (fun v3 ev3 => ?_)
  refine lw_arg (k := 4) C0 hX hbl hbA hL h hl h0 h6 (by decide) (by decide) dL_law_1450 dL_law_1451 dL_law_1452 dL_law_1453 dL_law_1454 (fun v4 ev4 => ?_)
  refine z_ci (S := SC) (ad := adC) h (z_rV (S := SC) (ad := adC) (i := 0) (κ := 0) (ci := 11) (As := [.int v1, .int v2, .int v3, .int v4]) (rest := []) C0 hZ h hTc (c_X11_posts l G Z adC wc hTc v1 v2 v3 v4 hR hH) k_X11_posts q_1380 q_1381 q_1379 kSC_0 rfl rfl rfl hl.1 rfl rfl (Nat.le_of_ble_eq_true rfl) dL_law_1455 ⟨Nat.le_of_ble_eq_true rfl, Nat.le_of_ble_eq_true rfl⟩ ⟨Nat.le_of_ble_eq_true rfl, Nat.le_of_ble_eq_true rfl⟩) (fun r5 H locs wc1 h hTc1 hFc1 hp6 => ?_)
  obtain ⟨xs1, xr1, hR1, hH1⟩ := hp6
  refine lv_pop C0.1 C0.2.1 dL_law_1458 rfl ?_
  refine lv_aload_n C0.1 C0.2.1 dL_law_1459 rfl (lv_at hl 2 rfl) ?_
  refine lw_arg (k := 1) C0 hX hbl hbA hL h hl h0 h6 (by decide) (by decide) dL_law_1460 dL_law_1461 dL_law_1462 dL_law_1463 dL_law_1464 (fun v7 ev7 => ?_)
  refine lw_arg (k := 2) C0 hX hbl hbA hL h hl h0 h6 (by decide) (by decide) dL_law_1465 dL_law_1466 dL_law_1467 dL_law_1468 dL_law_1469 (fun v8 ev8 => ?_)
  refine lw_arg (k := 3) C0 hX hbl hbA hL h hl h0 h6 (by decide) (by decide) dL_law_1470 dL_law_1471 dL_law_1472 dL_law_1473 dL_law_1474 (fun v9 ev9 => ?_)
  refine lw_arg (k := 4) C0 hX hbl hbA hL h hl h0 h6 (by decide) (by decide) dL_law_1475 dL_law_1476 dL_law_1477 dL_law_1478 dL_law_1479 (fun v10 ev10 => ?_)
  have h := h.swap
  refine z_ci (S := SM) (ad := adM) h (z_rV (S := SM) (ad := adM) (i := 0) (κ := 0) (ci := 12) (As := [.int v7, .int v8, .int v9, .int v10]) (rest := []) C0 hZ h hTm (c_X12_posts l G Z adM wm hTm v7 v8 v9 v10 hJ) k_X12_posts q_2030 q_2031 q_2029 kSM_0 rfl rfl rfl hl.1 rfl rfl (Nat.le_of_ble_eq_true rfl) dL_law_1480 ⟨Nat.le_of_ble_eq_true rfl, Nat.le_of_ble_eq_true rfl⟩ ⟨Nat.le_of_ble_eq_true rfl, Nat.le_of_ble_eq_true rfl⟩) (fun r11 H locs wm1 h hTm1 hFm1 hp12 => ?_)
  obtain ⟨xs2, xr2⟩ := hp12
  have hJ1 := hJ.pa hTm (Pa.fr hFm1 (by decide))
  have h := h.swap
  have e12 := (ev1).trans (ev7).symm
  rw [← e12] at xs2 xr2
  clear e12
  have e12 := (ev2).trans (ev8).symm
  rw [← e12] at xs2 xr2
  clear e12
  have e12 := (ev3).trans (ev9).symm
  rw [← e12] at xs2 xr2
  clear e12
  have e12 := (ev4).trans (ev10).symm
  rw [← e12] at xs2 xr2
  clear e12
  have hq := RA_posts (N := 1000 + 20 * i.toInt) (a1 := v1.toInt) (a2 := v2.toInt) (a3 := v3.toInt) (a4 := v4.toInt) (by omega) (show RA (1000 + 20 * i.toInt) (xso SC adC wc) (xso SM adM wm) from hV)
  rw [← xs1, ← xs2, ← xr1, ← xr2] at hq
  have hr12 : r5.toInt = r11.toInt := hq.1
  have hV1 : RW (1000 + 20 * (i.toInt + 6)) adC adM wc1 wm1 := RW.nx hq.2
  refine lv_pop C0.1 C0.2.1 dL_law_1483 rfl ?_
  refine lv_goto (tgt := 1725) C0.1 C0.2.1 dL_law_1484 (by decide) ?_
  exact kk _ _ _ _ h ⟨hTc1, hR1, hH1⟩ ⟨hTm1, hJ1⟩ hV1
set_option maxHeartbeats 4000000 in
theorem law_case_35 {p : Program} {l : Launch} {e : Env} {s : State} {m : MethodId} {below : List Frame} {meth : Method} {c : Code} {b L : Nat} {xs : Nat → Int32} {A : Nat → Prop} {G : GG} (C0 : Cx p s m #[Value.ref b] meth c RL cL_law 4 (some .boolean)) (hX : va_X b L xs s s.heap) (hbl : b < s.heap.size) (hbA : ¬ A b) (hL : L ≤ 3072) {Z : RZ} (hZ : Ro Z A s s.heap) {adC adM : Nat → Nat} {H : Heap} {locs : List Loc} {ls : Array Slot} {wc wm : va_W} {i : Int32} (h0 : 0 ≤ i.toInt) (h6 : i.toInt + 6 ≤ L) (h : Wd G A s H locs (wc ++ wm)) (hC : CI G adC wc) (hM : MI G adM wm) (hV : RW (1000 + 20 * i.toInt) adC adM wc wm) (hl : lv_has ls 4 [(0, .ref b), (1, .ref (adC 0)), (2, .ref (adM 0)), (3, .int i)]) (kk : ∀ (H : Heap) (locs : List Loc) (wc wm : va_W), Wd G A s H locs (wc ++ wm) → CI G adC wc → MI G adM wm → RW (1000 + 20 * (i.toInt + 6)) adC adM wc wm → W p l e room_1 s m #[Value.ref b] below meth c H locs 1000 200000 (lw_Z below #[Value.ref b] s) (F0 m 1725 ls [])) : W p l e room_1 s m #[Value.ref b] below meth c H locs 1000 200000 (lw_Z below #[Value.ref b] s) (F0 m 1487 ls []) := by
  obtain ⟨hTc, hR, hH⟩ := hC
  obtain ⟨hTm, hJ⟩ := hM
  refine lv_aload_n C0.1 C0.2.1 dL_law_1487 rfl (lv_at hl 1 rfl) ?_
  refine lw_arg (k := 1) C0 hX hbl hbA hL h hl h0 h6 (by decide) (by decide) dL_law_1488 dL_law_1489 dL_law_1490 dL_law_1491 dL_law_1492 (fun v1 ev1 => ?_)
  refine lw_arg (k := 2) C0 hX hbl hbA hL h hl h0 h6 (by decide) (by decide) dL_law_1493 dL_law_1494 dL_law_1495 dL_law_1496 dL_law_1497 (fun v2 ev2 => ?_)
  refine lw_arg (k := 3) C0 hX hbl hbA hL h hl h0 h6 (by decide) (by decide) dL_law_1498 dL_law_1499 dL_law_1500 dL_law_1501 dL_law_1502 (fun v3 ev3 => ?_)
  refine z_ci (S := SC) (ad := adC) h (z_rV (S := SC) (ad := adC) (i := 0) (κ := 0) (ci := 11) (As := [.int v1, .int v2, .int v3]) (rest := []) C0 hZ h hTc (c_X11_numbers l G Z adC wc hTc v1 v2 v3 hR hH) k_X11_numbers q_1384 q_1385 q_1383 kSC_0 rfl rfl rfl hl.1 rfl rfl (Nat.le_of_ble_eq_true rfl) dL_law_1503 ⟨Nat.le_of_ble_eq_true rfl, Nat.le_of_ble_eq_true rfl⟩ ⟨Nat.le_of_ble_eq_true rfl, Nat.le_of_ble_eq_true rfl⟩) (fun r4 H locs wc1 h hTc1 hFc1 hp5 => ?_)
  obtain ⟨xs1, xr1, _, _, _, hR1, hH1⟩ := hp5
  refine lv_pop C0.1 C0.2.1 dL_law_1506 rfl ?_
  refine lv_aload_n C0.1 C0.2.1 dL_law_1507 rfl (lv_at hl 2 rfl) ?_
  refine lw_arg (k := 1) C0 hX hbl hbA hL h hl h0 h6 (by decide) (by decide) dL_law_1508 dL_law_1509 dL_law_1510 dL_law_1511 dL_law_1512 (fun v6 ev6 => ?_)
  refine lw_arg (k := 2) C0 hX hbl hbA hL h hl h0 h6 (by decide) (by decide) dL_law_1513 dL_law_1514 dL_law_1515 dL_law_1516 dL_law_1517 (fun v7 ev7 => ?_)
  refine lw_arg (k := 3) C0 hX hbl hbA hL h hl h0 h6 (by decide) (by decide) dL_law_1518 dL_law_1519 dL_law_1520 dL_law_1521 dL_law_1522 (fun v8 ev8 => ?_)
  have h := h.swap
  refine z_ci (S := SM) (ad := adM) h (z_rV (S := SM) (ad := adM) (i := 0) (κ := 0) (ci := 12) (As := [.int v6, .int v7, .int v8]) (rest := []) C0 hZ h hTm (c_X12_numbers l G Z adM wm hTm v6 v7 v8) k_X12_numbers q_2034 q_2035 q_2033 kSM_0 rfl rfl rfl hl.1 rfl rfl (Nat.le_of_ble_eq_true rfl) dL_law_1523 ⟨Nat.le_of_ble_eq_true rfl, Nat.le_of_ble_eq_true rfl⟩ ⟨Nat.le_of_ble_eq_true rfl, Nat.le_of_ble_eq_true rfl⟩) (fun r9 H locs wm1 h hTm1 hFm1 hp10 => ?_)
  obtain ⟨xs2, xr2, _, _, _⟩ := hp10
  have hJ1 := hJ.pa hTm (Pa.fr hFm1 (by decide))
  have h := h.swap
  have e12 := (ev1).trans (ev6).symm
  rw [← e12] at xs2 xr2
  clear e12
  have e12 := (ev2).trans (ev7).symm
  rw [← e12] at xs2 xr2
  clear e12
  have e12 := (ev3).trans (ev8).symm
  rw [← e12] at xs2 xr2
  clear e12
  have hq := RA_numbers (N := 1000 + 20 * i.toInt) (a1 := v1.toInt) (a2 := v2.toInt) (a3 := v3.toInt) (by omega) (show RA (1000 + 20 * i.toInt) (xso SC adC wc) (xso SM adM wm) from hV)
  rw [← xs1, ← xs2, ← xr1, ← xr2] at hq
  have hr12 : r4.toInt = r9.toInt := hq.1
  have hV1 : RW (1000 + 20 * (i.toInt + 6)) adC adM wc1 wm1 := RW.nx hq.2
  refine lv_pop C0.1 C0.2.1 dL_law_1526 rfl ?_
  refine lv_goto (tgt := 1725) C0.1 C0.2.1 dL_law_1527 (by decide) ?_
  exact kk _ _ _ _ h ⟨hTc1, hR1, hH1⟩ ⟨hTm1, hJ1⟩ hV1
set_option maxHeartbeats 4000000 in
theorem law_case_36 {p : Program} {l : Launch} {e : Env} {s : State} {m : MethodId} {below : List Frame} {meth : Method} {c : Code} {b L : Nat} {xs : Nat → Int32} {A : Nat → Prop} {G : GG} (C0 : Cx p s m #[Value.ref b] meth c RL cL_law 4 (some .boolean)) (hX : va_X b L xs s s.heap) (hbl : b < s.heap.size) (hbA : ¬ A b) (hL : L ≤ 3072) {Z : RZ} (hZ : Ro Z A s s.heap) {adC adM : Nat → Nat} {H : Heap} {locs : List Loc} {ls : Array Slot} {wc wm : va_W} {i : Int32} (h0 : 0 ≤ i.toInt) (h6 : i.toInt + 6 ≤ L) (h : Wd G A s H locs (wc ++ wm)) (hC : CI G adC wc) (hM : MI G adM wm) (hV : RW (1000 + 20 * i.toInt) adC adM wc wm) (hl : lv_has ls 4 [(0, .ref b), (1, .ref (adC 0)), (2, .ref (adM 0)), (3, .int i)]) (kk : ∀ (H : Heap) (locs : List Loc) (wc wm : va_W), Wd G A s H locs (wc ++ wm) → CI G adC wc → MI G adM wm → RW (1000 + 20 * (i.toInt + 6)) adC adM wc wm → W p l e room_1 s m #[Value.ref b] below meth c H locs 1000 200000 (lw_Z below #[Value.ref b] s) (F0 m 1725 ls [])) : W p l e room_1 s m #[Value.ref b] below meth c H locs 1000 200000 (lw_Z below #[Value.ref b] s) (F0 m 1530 ls []) := by
  obtain ⟨hTc, hR, hH⟩ := hC
  obtain ⟨hTm, hJ⟩ := hM
  refine lv_aload_n C0.1 C0.2.1 dL_law_1530 rfl (lv_at hl 1 rfl) ?_
  refine lw_arg (k := 1) C0 hX hbl hbA hL h hl h0 h6 (by decide) (by decide) dL_law_1531 dL_law_1532 dL_law_1533 dL_law_1534 dL_law_1535 (fun v1 ev1 => ?_)
  refine lw_arg (k := 2) C0 hX hbl hbA hL h hl h0 h6 (by decide) (by decide) dL_law_1536 dL_law_1537 dL_law_1538 dL_law_1539 dL_law_1540 (fun v2 ev2 => ?_)
  refine lw_arg (k := 3) C0 hX hbl hbA hL h hl h0 h6 (by decide) (by decide) dL_law_1541 dL_law_1542 dL_law_1543 dL_law_1544 dL_law_1545 (fun v3 ev3 => ?_)
  refine lv_i2l (v := v3.toInt64) C0.1 C0.2.1 dL_law_1546 rfl ?_
  refine lv_bipush (v := 32) C0.1 C0.2.1 dL_law_1547 (by decide) ?_
  refine lv_lshl (v := (v3.toInt64 <<< ((32 : Int32).toInt64 &&& 63))) C0.1 C0.2.1 dL_law_1549 rfl ?_
  refine lw_arg (k := 4) C0 hX hbl hbA hL h hl h0 h6 (by decide) (by decide) dL_law_1550 dL_law_1551 dL_law_1552 dL_law_1553 dL_law_1554 (fun v4 ev4 => ?_)
  refine lv_i2l (v := v4.toInt64) C0.1 C0.2.1 dL_law_1555 rfl ?_
  refine lv_ldc2 (v := 4294967295) C0.1 C0.2.1 C0.2.2.2.1 (C0.2.2.2.2.1 _ q_2069) dL_law_1556 ?_
  refine lv_land C0.1 C0.2.1 dL_law_1559 ?_
  refine lv_lor C0.1 C0.2.1 dL_law_1560 ?_
  refine z_cl (S := SC) (ad := adC) h (z_rV (S := SC) (ad := adC) (i := 0) (κ := 0) (ci := 11) (As := [.int v1, .int v2, .long ((v3.toInt64 <<< ((32 : Int32).toInt64 &&& 63)) ||| (v4.toInt64 &&& 4294967295))]) (rest := []) C0 hZ h hTc (c_X11_write l G Z adC wc hTc v1 v2 ((v3.toInt64 <<< ((32 : Int32).toInt64 &&& 63)) ||| (v4.toInt64 &&& 4294967295)) hR hH) k_X11_write q_1395 q_1396 q_1394 kSC_0 rfl rfl rfl hl.1 rfl rfl (Nat.le_of_ble_eq_true rfl) dL_law_1561 ⟨Nat.le_of_ble_eq_true rfl, Nat.le_of_ble_eq_true rfl⟩ ⟨Nat.le_of_ble_eq_true rfl, Nat.le_of_ble_eq_true rfl⟩) (fun r5 H locs wc1 h hTc1 hFc1 hp6 => ?_)
  obtain ⟨xs1, xr1, hR1, hH1⟩ := hp6
  refine lv_pop2_2 C0.1 C0.2.1 dL_law_1564 rfl ?_
  refine lv_aload_n C0.1 C0.2.1 dL_law_1565 rfl (lv_at hl 2 rfl) ?_
  refine lw_arg (k := 1) C0 hX hbl hbA hL h hl h0 h6 (by decide) (by decide) dL_law_1566 dL_law_1567 dL_law_1568 dL_law_1569 dL_law_1570 (fun v7 ev7 => ?_)
  refine lw_arg (k := 2) C0 hX hbl hbA hL h hl h0 h6 (by decide) (by decide) dL_law_1571 dL_law_1572 dL_law_1573 dL_law_1574 dL_law_1575 (fun v8 ev8 => ?_)
  refine lw_arg (k := 3) C0 hX hbl hbA hL h hl h0 h6 (by decide) (by decide) dL_law_1576 dL_law_1577 dL_law_1578 dL_law_1579 dL_law_1580 (fun v9 ev9 => ?_)
  refine lv_i2l (v := v9.toInt64) C0.1 C0.2.1 dL_law_1581 rfl ?_
  refine lv_bipush (v := 32) C0.1 C0.2.1 dL_law_1582 (by decide) ?_
  refine lv_lshl (v := (v9.toInt64 <<< ((32 : Int32).toInt64 &&& 63))) C0.1 C0.2.1 dL_law_1584 rfl ?_
  refine lw_arg (k := 4) C0 hX hbl hbA hL h hl h0 h6 (by decide) (by decide) dL_law_1585 dL_law_1586 dL_law_1587 dL_law_1588 dL_law_1589 (fun v10 ev10 => ?_)
  refine lv_i2l (v := v10.toInt64) C0.1 C0.2.1 dL_law_1590 rfl ?_
  refine lv_ldc2 (v := 4294967295) C0.1 C0.2.1 C0.2.2.2.1 (C0.2.2.2.2.1 _ q_2069) dL_law_1591 ?_
  refine lv_land C0.1 C0.2.1 dL_law_1594 ?_
  refine lv_lor C0.1 C0.2.1 dL_law_1595 ?_
  have h := h.swap
  refine z_cl (S := SM) (ad := adM) h (z_rV (S := SM) (ad := adM) (i := 0) (κ := 0) (ci := 12) (As := [.int v7, .int v8, .long ((v9.toInt64 <<< ((32 : Int32).toInt64 &&& 63)) ||| (v10.toInt64 &&& 4294967295))]) (rest := []) C0 hZ h hTm (c_X12_write l G Z adM wm hTm v7 v8 ((v9.toInt64 <<< ((32 : Int32).toInt64 &&& 63)) ||| (v10.toInt64 &&& 4294967295))) k_X12_write q_2038 q_2039 q_2037 kSM_0 rfl rfl rfl hl.1 rfl rfl (Nat.le_of_ble_eq_true rfl) dL_law_1596 ⟨Nat.le_of_ble_eq_true rfl, Nat.le_of_ble_eq_true rfl⟩ ⟨Nat.le_of_ble_eq_true rfl, Nat.le_of_ble_eq_true rfl⟩) (fun r11 H locs wm1 h hTm1 hFm1 hp12 => ?_)
  obtain ⟨xs2, xr2⟩ := hp12
  have hJ1 := hJ.pa hTm (Pa.fr hFm1 (by decide))
  have h := h.swap
  have e12 := (ev1).trans (ev7).symm
  rw [← e12] at xs2 xr2
  clear e12
  have e12 := (ev2).trans (ev8).symm
  rw [← e12] at xs2 xr2
  clear e12
  have e12 := (show ((v3.toInt64 <<< ((32 : Int32).toInt64 &&& 63)) ||| (v4.toInt64 &&& 4294967295)) = ((v9.toInt64 <<< ((32 : Int32).toInt64 &&& 63)) ||| (v10.toInt64 &&& 4294967295)) by rw [(ev3).trans (ev9).symm, (ev4).trans (ev10).symm])
  rw [← e12] at xs2 xr2
  clear e12
  have hq := RA_write (N := 1000 + 20 * i.toInt) (a1 := v1.toInt) (a2 := v2.toInt) (a3 := ((v3.toInt64 <<< ((32 : Int32).toInt64 &&& 63)) ||| (v4.toInt64 &&& 4294967295)).toInt) (by omega) (show RA (1000 + 20 * i.toInt) (xso SC adC wc) (xso SM adM wm) from hV)
  rw [← xs1, ← xs2, ← xr1, ← xr2] at hq
  have hr12 : r5.toInt = r11.toInt := hq.1
  have hV1 : RW (1000 + 20 * (i.toInt + 6)) adC adM wc1 wm1 := RW.nx hq.2
  refine lv_pop2_2 C0.1 C0.2.1 dL_law_1599 rfl ?_
  refine lv_goto (tgt := 1725) C0.1 C0.2.1 dL_law_1600 (by decide) ?_
  exact kk _ _ _ _ h ⟨hTc1, hR1, hH1⟩ ⟨hTm1, hJ1⟩ hV1
set_option maxHeartbeats 4000000 in
theorem law_case_37 {p : Program} {l : Launch} {e : Env} {s : State} {m : MethodId} {below : List Frame} {meth : Method} {c : Code} {b L : Nat} {xs : Nat → Int32} {A : Nat → Prop} {G : GG} (C0 : Cx p s m #[Value.ref b] meth c RL cL_law 4 (some .boolean)) (hX : va_X b L xs s s.heap) (hbl : b < s.heap.size) (hbA : ¬ A b) (hL : L ≤ 3072) {Z : RZ} (hZ : Ro Z A s s.heap) {adC adM : Nat → Nat} {H : Heap} {locs : List Loc} {ls : Array Slot} {wc wm : va_W} {i : Int32} (h0 : 0 ≤ i.toInt) (h6 : i.toInt + 6 ≤ L) (h : Wd G A s H locs (wc ++ wm)) (hC : CI G adC wc) (hM : MI G adM wm) (hV : RW (1000 + 20 * i.toInt) adC adM wc wm) (hl : lv_has ls 4 [(0, .ref b), (1, .ref (adC 0)), (2, .ref (adM 0)), (3, .int i)]) (kk : ∀ (H : Heap) (locs : List Loc) (wc wm : va_W), Wd G A s H locs (wc ++ wm) → CI G adC wc → MI G adM wm → RW (1000 + 20 * (i.toInt + 6)) adC adM wc wm → W p l e room_1 s m #[Value.ref b] below meth c H locs 1000 200000 (lw_Z below #[Value.ref b] s) (F0 m 1725 ls [])) : W p l e room_1 s m #[Value.ref b] below meth c H locs 1000 200000 (lw_Z below #[Value.ref b] s) (F0 m 1603 ls []) := by
  obtain ⟨hTc, hR, hH⟩ := hC
  obtain ⟨hTm, hJ⟩ := hM
  refine lv_aload_n C0.1 C0.2.1 dL_law_1603 rfl (lv_at hl 1 rfl) ?_
  refine lw_arg (k := 1) C0 hX hbl hbA hL h hl h0 h6 (by decide) (by decide) dL_law_1604 dL_law_1605 dL_law_1606 dL_law_1607 dL_law_1608 (fun v1 ev1 => ?_)
  refine lw_arg (k := 2) C0 hX hbl hbA hL h hl h0 h6 (by decide) (by decide) dL_law_1609 dL_law_1610 dL_law_1611 dL_law_1612 dL_law_1613 (fun v2 ev2 => ?_)
  refine lw_arg (k := 3) C0 hX hbl hbA hL h hl h0 h6 (by decide) (by decide) dL_law_1614 dL_law_1615 dL_law_1616 dL_law_1617 dL_law_1618 (fun v3 ev3 => ?_)
  refine lw_arg (k := 4) C0 hX hbl hbA hL h hl h0 h6 (by decide) (by decide) dL_law_1619 dL_law_1620 dL_law_1621 dL_law_1622 dL_law_1623 (fun v4 ev4 => ?_)
  refine z_ci (S := SC) (ad := adC) h (z_rV (S := SC) (ad := adC) (i := 0) (κ := 0) (ci := 11) (As := [.int v1, .int v2, .int v3, .int v4]) (rest := []) C0 hZ h hTc (c_X11_lists l G Z adC wc hTc v1 v2 v3 v4 hR hH) k_X11_lists q_1405 q_1406 q_1404 kSC_0 rfl rfl rfl hl.1 rfl rfl (Nat.le_of_ble_eq_true rfl) dL_law_1624 ⟨Nat.le_of_ble_eq_true rfl, Nat.le_of_ble_eq_true rfl⟩ ⟨Nat.le_of_ble_eq_true rfl, Nat.le_of_ble_eq_true rfl⟩) (fun r5 H locs wc1 h hTc1 hFc1 hp6 => ?_)
  obtain ⟨xs1, xr1, _, _, hR1, hH1⟩ := hp6
  refine lv_pop C0.1 C0.2.1 dL_law_1627 rfl ?_
  refine lv_aload_n C0.1 C0.2.1 dL_law_1628 rfl (lv_at hl 2 rfl) ?_
  refine lw_arg (k := 1) C0 hX hbl hbA hL h hl h0 h6 (by decide) (by decide) dL_law_1629 dL_law_1630 dL_law_1631 dL_law_1632 dL_law_1633 (fun v7 ev7 => ?_)
  refine lw_arg (k := 2) C0 hX hbl hbA hL h hl h0 h6 (by decide) (by decide) dL_law_1634 dL_law_1635 dL_law_1636 dL_law_1637 dL_law_1638 (fun v8 ev8 => ?_)
  refine lw_arg (k := 3) C0 hX hbl hbA hL h hl h0 h6 (by decide) (by decide) dL_law_1639 dL_law_1640 dL_law_1641 dL_law_1642 dL_law_1643 (fun v9 ev9 => ?_)
  refine lw_arg (k := 4) C0 hX hbl hbA hL h hl h0 h6 (by decide) (by decide) dL_law_1644 dL_law_1645 dL_law_1646 dL_law_1647 dL_law_1648 (fun v10 ev10 => ?_)
  have h := h.swap
  refine z_ci (S := SM) (ad := adM) h (z_rV (S := SM) (ad := adM) (i := 0) (κ := 0) (ci := 12) (As := [.int v7, .int v8, .int v9, .int v10]) (rest := []) C0 hZ h hTm (c_X12_lists l G Z adM wm hTm v7 v8 v9 v10 hJ) k_X12_lists q_2046 q_2047 q_2045 kSM_0 rfl rfl rfl hl.1 rfl rfl (Nat.le_of_ble_eq_true rfl) dL_law_1649 ⟨Nat.le_of_ble_eq_true rfl, Nat.le_of_ble_eq_true rfl⟩ ⟨Nat.le_of_ble_eq_true rfl, Nat.le_of_ble_eq_true rfl⟩) (fun r11 H locs wm1 h hTm1 hFm1 hp12 => ?_)
  obtain ⟨xs2, xr2, _, _⟩ := hp12
  have hJ1 := hJ.pa hTm (Pa.fr hFm1 (by decide))
  have h := h.swap
  have e12 := (ev1).trans (ev7).symm
  rw [← e12] at xs2 xr2
  clear e12
  have e12 := (ev2).trans (ev8).symm
  rw [← e12] at xs2 xr2
  clear e12
  have e12 := (ev3).trans (ev9).symm
  rw [← e12] at xs2 xr2
  clear e12
  have e12 := (ev4).trans (ev10).symm
  rw [← e12] at xs2 xr2
  clear e12
  have hq := RA_lists (N := 1000 + 20 * i.toInt) (a1 := v1.toInt) (a2 := v2.toInt) (a3 := v3.toInt) (a4 := v4.toInt) (by omega) (show RA (1000 + 20 * i.toInt) (xso SC adC wc) (xso SM adM wm) from hV)
  rw [← xs1, ← xs2, ← xr1, ← xr2] at hq
  have hr12 : r5.toInt = r11.toInt := hq.1
  have hV1 : RW (1000 + 20 * (i.toInt + 6)) adC adM wc1 wm1 := RW.nx hq.2
  refine lv_pop C0.1 C0.2.1 dL_law_1652 rfl ?_
  refine lv_goto (tgt := 1725) C0.1 C0.2.1 dL_law_1653 (by decide) ?_
  exact kk _ _ _ _ h ⟨hTc1, hR1, hH1⟩ ⟨hTm1, hJ1⟩ hV1
set_option maxHeartbeats 4000000 in
theorem law_case_38 {p : Program} {l : Launch} {e : Env} {s : State} {m : MethodId} {below : List Frame} {meth : Method} {c : Code} {b L : Nat} {xs : Nat → Int32} {A : Nat → Prop} {G : GG} (C0 : Cx p s m #[Value.ref b] meth c RL cL_law 4 (some .boolean)) (hX : va_X b L xs s s.heap) (hbl : b < s.heap.size) (hbA : ¬ A b) (hL : L ≤ 3072) {Z : RZ} (hZ : Ro Z A s s.heap) {adC adM : Nat → Nat} {H : Heap} {locs : List Loc} {ls : Array Slot} {wc wm : va_W} {i : Int32} (h0 : 0 ≤ i.toInt) (h6 : i.toInt + 6 ≤ L) (h : Wd G A s H locs (wc ++ wm)) (hC : CI G adC wc) (hM : MI G adM wm) (hV : RW (1000 + 20 * i.toInt) adC adM wc wm) (hl : lv_has ls 4 [(0, .ref b), (1, .ref (adC 0)), (2, .ref (adM 0)), (3, .int i)]) (kk : ∀ (H : Heap) (locs : List Loc) (wc wm : va_W), Wd G A s H locs (wc ++ wm) → CI G adC wc → MI G adM wm → RW (1000 + 20 * (i.toInt + 6)) adC adM wc wm → W p l e room_1 s m #[Value.ref b] below meth c H locs 1000 200000 (lw_Z below #[Value.ref b] s) (F0 m 1725 ls [])) : W p l e room_1 s m #[Value.ref b] below meth c H locs 1000 200000 (lw_Z below #[Value.ref b] s) (F0 m 1656 ls []) := by
  obtain ⟨hTc, hR, hH⟩ := hC
  obtain ⟨hTm, hJ⟩ := hM
  refine lv_aload_n C0.1 C0.2.1 dL_law_1656 rfl (lv_at hl 1 rfl) ?_
  refine lw_arg (k := 1) C0 hX hbl hbA hL h hl h0 h6 (by decide) (by decide) dL_law_1657 dL_law_1658 dL_law_1659 dL_law_1660 dL_law_1661 (fun v1 ev1 => ?_)
  refine z_ci (S := SC) (ad := adC) h (z_rV (S := SC) (ad := adC) (i := 0) (κ := 0) (ci := 11) (As := [.int v1]) (rest := []) C0 hZ h hTc (c_X11_image l G Z adC wc hTc v1 hR hH) k_X11_image q_1410 q_1411 q_1409 kSC_0 rfl rfl rfl hl.1 rfl rfl (Nat.le_of_ble_eq_true rfl) dL_law_1662 ⟨Nat.le_of_ble_eq_true rfl, Nat.le_of_ble_eq_true rfl⟩ ⟨Nat.le_of_ble_eq_true rfl, Nat.le_of_ble_eq_true rfl⟩) (fun r2 H locs wc1 h hTc1 hFc1 hp3 => ?_)
  obtain ⟨xs1, xr1, _, _, _, hR1, hH1⟩ := hp3
  refine lv_pop C0.1 C0.2.1 dL_law_1665 rfl ?_
  refine lv_aload_n C0.1 C0.2.1 dL_law_1666 rfl (lv_at hl 2 rfl) ?_
  refine lw_arg (k := 1) C0 hX hbl hbA hL h hl h0 h6 (by decide) (by decide) dL_law_1667 dL_law_1668 dL_law_1669 dL_law_1670 dL_law_1671 (fun v4 ev4 => ?_)
  have h := h.swap
  refine z_ci (S := SM) (ad := adM) h (z_rV (S := SM) (ad := adM) (i := 0) (κ := 0) (ci := 12) (As := [.int v4]) (rest := []) C0 hZ h hTm (c_X12_image l G Z adM wm hTm v4 hJ) k_X12_image q_2050 q_2051 q_2049 kSM_0 rfl rfl rfl hl.1 rfl rfl (Nat.le_of_ble_eq_true rfl) dL_law_1672 ⟨Nat.le_of_ble_eq_true rfl, Nat.le_of_ble_eq_true rfl⟩ ⟨Nat.le_of_ble_eq_true rfl, Nat.le_of_ble_eq_true rfl⟩) (fun r5 H locs wm1 h hTm1 hFm1 hp6 => ?_)
  obtain ⟨xs2, xr2, _, _, _, hJ1⟩ := hp6
  have h := h.swap
  have e12 := (ev1).trans (ev4).symm
  rw [← e12] at xs2 xr2
  clear e12
  have hq := RA_image (N := 1000 + 20 * i.toInt) (a1 := v1.toInt) (by omega) (show RA (1000 + 20 * i.toInt) (xso SC adC wc) (xso SM adM wm) from hV)
  rw [← xs1, ← xs2, ← xr1, ← xr2] at hq
  have hr12 : r2.toInt = r5.toInt := hq.1
  have hV1 : RW (1000 + 20 * (i.toInt + 6)) adC adM wc1 wm1 := RW.nx hq.2
  refine lv_pop C0.1 C0.2.1 dL_law_1675 rfl ?_
  refine lv_goto (tgt := 1725) C0.1 C0.2.1 dL_law_1676 (by decide) ?_
  exact kk _ _ _ _ h ⟨hTc1, hR1, hH1⟩ ⟨hTm1, hJ1⟩ hV1
set_option maxHeartbeats 4000000 in
theorem law_case_39 {p : Program} {l : Launch} {e : Env} {s : State} {m : MethodId} {below : List Frame} {meth : Method} {c : Code} {b L : Nat} {xs : Nat → Int32} {A : Nat → Prop} {G : GG} (C0 : Cx p s m #[Value.ref b] meth c RL cL_law 4 (some .boolean)) (hX : va_X b L xs s s.heap) (hbl : b < s.heap.size) (hbA : ¬ A b) (hL : L ≤ 3072) {Z : RZ} (hZ : Ro Z A s s.heap) {adC adM : Nat → Nat} {H : Heap} {locs : List Loc} {ls : Array Slot} {wc wm : va_W} {i : Int32} (h0 : 0 ≤ i.toInt) (h6 : i.toInt + 6 ≤ L) (h : Wd G A s H locs (wc ++ wm)) (hC : CI G adC wc) (hM : MI G adM wm) (hV : RW (1000 + 20 * i.toInt) adC adM wc wm) (hl : lv_has ls 4 [(0, .ref b), (1, .ref (adC 0)), (2, .ref (adM 0)), (3, .int i)]) (kk : ∀ (H : Heap) (locs : List Loc) (wc wm : va_W), Wd G A s H locs (wc ++ wm) → CI G adC wc → MI G adM wm → RW (1000 + 20 * (i.toInt + 6)) adC adM wc wm → W p l e room_1 s m #[Value.ref b] below meth c H locs 1000 200000 (lw_Z below #[Value.ref b] s) (F0 m 1725 ls [])) : W p l e room_1 s m #[Value.ref b] below meth c H locs 1000 200000 (lw_Z below #[Value.ref b] s) (F0 m 1679 ls []) := by
  obtain ⟨hTc, hR, hH⟩ := hC
  obtain ⟨hTm, hJ⟩ := hM
  refine lv_aload_n C0.1 C0.2.1 dL_law_1679 rfl (lv_at hl 1 rfl) ?_
  refine lw_arg (k := 1) C0 hX hbl hbA hL h hl h0 h6 (by decide) (by decide) dL_law_1680 dL_law_1681 dL_law_1682 dL_law_1683 dL_law_1684 (fun v1 ev1 => ?_)
  refine z_ci (S := SC) (ad := adC) h (z_rV (S := SC) (ad := adC) (i := 0) (κ := 0) (ci := 11) (As := [.int v1]) (rest := []) C0 hZ h hTc (c_X11_restore l G Z adC wc hTc v1 hR hH) k_X11_restore q_1414 q_1415 q_1413 kSC_0 rfl rfl rfl hl.1 rfl rfl (Nat.le_of_ble_eq_true rfl) dL_law_1685 ⟨Nat.le_of_ble_eq_true rfl, Nat.le_of_ble_eq_true rfl⟩ ⟨Nat.le_of_ble_eq_true rfl, Nat.le_of_ble_eq_true rfl⟩) (fun r2 H locs wc1 h hTc1 hFc1 hp3 => ?_)
  obtain ⟨xs1, xr1, _, _, hR1, hH1⟩ := hp3
  refine lv_pop C0.1 C0.2.1 dL_law_1688 rfl ?_
  refine lv_aload_n C0.1 C0.2.1 dL_law_1689 rfl (lv_at hl 2 rfl) ?_
  refine lw_arg (k := 1) C0 hX hbl hbA hL h hl h0 h6 (by decide) (by decide) dL_law_1690 dL_law_1691 dL_law_1692 dL_law_1693 dL_law_1694 (fun v4 ev4 => ?_)
  have h := h.swap
  refine z_ci (S := SM) (ad := adM) h (z_rV (S := SM) (ad := adM) (i := 0) (κ := 0) (ci := 12) (As := [.int v4]) (rest := []) C0 hZ h hTm (c_X12_restore l G Z adM wm hTm v4 hJ) k_X12_restore q_2054 q_2055 q_2053 kSM_0 rfl rfl rfl hl.1 rfl rfl (Nat.le_of_ble_eq_true rfl) dL_law_1695 ⟨Nat.le_of_ble_eq_true rfl, Nat.le_of_ble_eq_true rfl⟩ ⟨Nat.le_of_ble_eq_true rfl, Nat.le_of_ble_eq_true rfl⟩) (fun r5 H locs wm1 h hTm1 hFm1 hp6 => ?_)
  obtain ⟨xs2, xr2, _, _, hJ1⟩ := hp6
  have h := h.swap
  have e12 := (ev1).trans (ev4).symm
  rw [← e12] at xs2 xr2
  clear e12
  have hq := RA_restore (N := 1000 + 20 * i.toInt) (a1 := v1.toInt) (by omega) (show RA (1000 + 20 * i.toInt) (xso SC adC wc) (xso SM adM wm) from hV) (by rw [← xs1, xso0]; exact (ty_fI (k := 3) hTc1 kSC_2 rfl rfl).2) (by rw [← xs1, xso0]; exact (ty_fI (k := 3) hTc1 kSC_6 rfl rfl).2) (by rw [← xs2, xso1]; exact rg_i _)
  rw [← xs1, ← xs2, ← xr1, ← xr2] at hq
  have hr12 : r2.toInt = r5.toInt := hq.1
  have hV1 : RW (1000 + 20 * (i.toInt + 6)) adC adM wc1 wm1 := RW.nx hq.2
  refine lv_pop C0.1 C0.2.1 dL_law_1698 rfl ?_
  refine lv_goto (tgt := 1725) C0.1 C0.2.1 dL_law_1699 (by decide) ?_
  exact kk _ _ _ _ h ⟨hTc1, hR1, hH1⟩ ⟨hTm1, hJ1⟩ hV1
set_option maxHeartbeats 4000000 in
theorem law_case_40 {p : Program} {l : Launch} {e : Env} {s : State} {m : MethodId} {below : List Frame} {meth : Method} {c : Code} {b L : Nat} {xs : Nat → Int32} {A : Nat → Prop} {G : GG} (C0 : Cx p s m #[Value.ref b] meth c RL cL_law 4 (some .boolean)) (hX : va_X b L xs s s.heap) (hbl : b < s.heap.size) (hbA : ¬ A b) (hL : L ≤ 3072) {Z : RZ} (hZ : Ro Z A s s.heap) {adC adM : Nat → Nat} {H : Heap} {locs : List Loc} {ls : Array Slot} {wc wm : va_W} {i : Int32} (h0 : 0 ≤ i.toInt) (h6 : i.toInt + 6 ≤ L) (h : Wd G A s H locs (wc ++ wm)) (hC : CI G adC wc) (hM : MI G adM wm) (hV : RW (1000 + 20 * i.toInt) adC adM wc wm) (hl : lv_has ls 4 [(0, .ref b), (1, .ref (adC 0)), (2, .ref (adM 0)), (3, .int i)]) (kk : ∀ (H : Heap) (locs : List Loc) (wc wm : va_W), Wd G A s H locs (wc ++ wm) → CI G adC wc → MI G adM wm → RW (1000 + 20 * (i.toInt + 6)) adC adM wc wm → W p l e room_1 s m #[Value.ref b] below meth c H locs 1000 200000 (lw_Z below #[Value.ref b] s) (F0 m 1725 ls [])) : W p l e room_1 s m #[Value.ref b] below meth c H locs 1000 200000 (lw_Z below #[Value.ref b] s) (F0 m 1702 ls []) := by
  obtain ⟨hTc, hR, hH⟩ := hC
  obtain ⟨hTm, hJ⟩ := hM
  refine lv_aload_n C0.1 C0.2.1 dL_law_1702 rfl (lv_at hl 1 rfl) ?_
  refine lw_arg (k := 1) C0 hX hbl hbA hL h hl h0 h6 (by decide) (by decide) dL_law_1703 dL_law_1704 dL_law_1705 dL_law_1706 dL_law_1707 (fun v1 ev1 => ?_)
  refine z_ci (S := SC) (ad := adC) h (z_rV (S := SC) (ad := adC) (i := 0) (κ := 0) (ci := 11) (As := [.int v1]) (rest := []) C0 hZ h hTc (c_X11_count l G Z adC wc hTc v1 hR hH) k_X11_count q_1418 q_1419 q_1417 kSC_0 rfl rfl rfl hl.1 rfl rfl (Nat.le_of_ble_eq_true rfl) dL_law_1708 ⟨Nat.le_of_ble_eq_true rfl, Nat.le_of_ble_eq_true rfl⟩ ⟨Nat.le_of_ble_eq_true rfl, Nat.le_of_ble_eq_true rfl⟩) (fun r2 H locs wc1 h hTc1 hFc1 hp3 => ?_)
  obtain ⟨xs1, xr1, hR1, hH1⟩ := hp3
  refine lv_pop C0.1 C0.2.1 dL_law_1711 rfl ?_
  refine lv_aload_n C0.1 C0.2.1 dL_law_1712 rfl (lv_at hl 2 rfl) ?_
  refine lw_arg (k := 1) C0 hX hbl hbA hL h hl h0 h6 (by decide) (by decide) dL_law_1713 dL_law_1714 dL_law_1715 dL_law_1716 dL_law_1717 (fun v4 ev4 => ?_)
  have h := h.swap
  refine z_ci (S := SM) (ad := adM) h (z_rV (S := SM) (ad := adM) (i := 0) (κ := 0) (ci := 12) (As := [.int v4]) (rest := []) C0 hZ h hTm (c_X12_count l G Z adM wm hTm v4 hJ) k_X12_count q_2058 q_2059 q_2057 kSM_0 rfl rfl rfl hl.1 rfl rfl (Nat.le_of_ble_eq_true rfl) dL_law_1718 ⟨Nat.le_of_ble_eq_true rfl, Nat.le_of_ble_eq_true rfl⟩ ⟨Nat.le_of_ble_eq_true rfl, Nat.le_of_ble_eq_true rfl⟩) (fun r5 H locs wm1 h hTm1 hFm1 hp6 => ?_)
  obtain ⟨xs2, xr2⟩ := hp6
  have hJ1 := hJ.pa hTm (Pa.fr hFm1 (by decide))
  have h := h.swap
  have e12 := (ev1).trans (ev4).symm
  rw [← e12] at xs2 xr2
  clear e12
  have hq := RK_count (N := 1000 + 20 * i.toInt) (a1 := v1.toInt) (by omega) (show RA (1000 + 20 * i.toInt) (xso SC adC wc) (xso SM adM wm) from hV)
  rw [← xs1, ← xs2] at hq
  have hV1 : RW (1000 + 20 * (i.toInt + 6)) adC adM wc1 wm1 := RW.nx hq
  refine lv_pop C0.1 C0.2.1 dL_law_1721 rfl ?_
  refine lv_goto (tgt := 1725) C0.1 C0.2.1 dL_law_1722 (by decide) ?_
  exact kk _ _ _ _ h ⟨hTc1, hR1, hH1⟩ ⟨hTm1, hJ1⟩ hV1
set_option maxHeartbeats 4000000 in
theorem law_loop {p : Program} {l : Launch} {e : Env} {s : State} {m : MethodId} {below : List Frame} {meth : Method} {c : Code} {b L : Nat} {xs : Nat → Int32} {A : Nat → Prop} {G : GG} (C0 : Cx p s m #[Value.ref b] meth c RL cL_law 4 (some .boolean)) (hX : va_X b L xs s s.heap) (hbl : b < s.heap.size) (hbA : ¬ A b) (hL : L ≤ 3072) (hAs : ∀ q : Nat, A q → s.heap.size ≤ q) {Z : RZ} (hZ : Ro Z A s s.heap) {adC adM : Nat → Nat} : ∀ (n : Nat) {H : Heap} {locs : List Loc} {ls : Array Slot} {wc wm : va_W} {i : Int32}, 0 ≤ i.toInt → i.toInt ≤ 4000 → (L : Int) ≤ i.toInt + 6 * n → Wd G A s H locs (wc ++ wm) → CI G adC wc → MI G adM wm → RW (1000 + 20 * i.toInt) adC adM wc wm → lv_has ls 4 [(0, .ref b), (1, .ref (adC 0)), (2, .ref (adM 0)), (3, .int i)] → W p l e room_1 s m #[Value.ref b] below meth c H locs 1000 200000 (lw_Z below #[Value.ref b] s) (F0 m 18 ls []) := by
  intro n
  induction n with
  | zero =>
    intro H locs ls wc wm i h0 h4 hn h hC hM hV hl
    have eL : (Int32.ofNat L).toInt = L := nI_toInt (by omega)
    have e6 : (6 : Int32).toInt = 6 := by decide
    have eS : (Int32.ofNat L - 6).toInt = (Int32.ofNat L).toInt - (6 : Int32).toInt := t_sub (by omega) (by omega)
    refine lv_iload_n C0.1 C0.2.1 dL_law_18 rfl (lv_at hl 3 rfl) ?_
    refine lv_aload_n C0.1 C0.2.1 dL_law_19 rfl (lv_at hl 0 rfl) ?_
    refine va_slen C0.1 C0.2.1 hX hbl hbA h.2.2.2.1 dL_law_20 ?_
    refine lv_bipush (v := 6) C0.1 C0.2.1 dL_law_21 (by decide) ?_
    refine lv_isub C0.1 C0.2.1 dL_law_23 ?_
    refine lv_icmp_gt (tgt := 1731) C0.1 C0.2.1 dL_law_24 (by decide) (fun hc => ?_) (fun hc => ?_)
    · refine lv_iconst (v := 1) C0.1 C0.2.1 dL_law_1731 (by decide) ?_
      refine W.widen (k := 600000) (n := 7302250) (Nat.le_of_ble_eq_true rfl) (Nat.le_of_ble_eq_true rfl) ?_
      refine va_forget (fun q hq => hAs _ (h.2.2.2.1.2.2 q hq)) ?_
      exact lw_ret C0.1 C0.2.1 C0.2.2.2.2.2.1 C0.2.2.2.2.2.2.1 dL_law_1732
    · have hc : ¬ (Int32.ofNat L - 6).toInt < i.toInt := fun q => hc (Int32.lt_iff_toInt_lt.mpr q)
      exfalso
      omega
  | succ n ih =>
    intro H locs ls wc wm i h0 h4 hn h hC hM hV hl
    have eL : (Int32.ofNat L).toInt = L := nI_toInt (by omega)
    have e6 : (6 : Int32).toInt = 6 := by decide
    have eS : (Int32.ofNat L - 6).toInt = (Int32.ofNat L).toInt - (6 : Int32).toInt := t_sub (by omega) (by omega)
    refine lv_iload_n C0.1 C0.2.1 dL_law_18 rfl (lv_at hl 3 rfl) ?_
    refine lv_aload_n C0.1 C0.2.1 dL_law_19 rfl (lv_at hl 0 rfl) ?_
    refine va_slen C0.1 C0.2.1 hX hbl hbA h.2.2.2.1 dL_law_20 ?_
    refine lv_bipush (v := 6) C0.1 C0.2.1 dL_law_21 (by decide) ?_
    refine lv_isub C0.1 C0.2.1 dL_law_23 ?_
    refine lv_icmp_gt (tgt := 1731) C0.1 C0.2.1 dL_law_24 (by decide) (fun hc => ?_) (fun hc => ?_)
    · refine lv_iconst (v := 1) C0.1 C0.2.1 dL_law_1731 (by decide) ?_
      refine W.widen (k := 600000) (n := 7302250) (Nat.le_of_ble_eq_true rfl) (Nat.le_of_ble_eq_true rfl) ?_
      refine va_forget (fun q hq => hAs _ (h.2.2.2.1.2.2 q hq)) ?_
      exact lw_ret C0.1 C0.2.1 C0.2.2.2.2.2.1 C0.2.2.2.2.2.2.1 dL_law_1732
    · have hc : ¬ (Int32.ofNat L - 6).toInt < i.toInt := fun q => hc (Int32.lt_iff_toInt_lt.mpr q)
      have h6 : i.toInt + 6 ≤ L := by omega
      refine lv_aload_n C0.1 C0.2.1 dL_law_27 rfl (lv_at hl 0 rfl) ?_
      refine lv_iload_n C0.1 C0.2.1 dL_law_28 rfl (lv_at hl 3 rfl) ?_
      refine va_sld C0.1 C0.2.1 hX hbl hbA h.2.2.2.1 (lw_in hL h0 (by omega)) dL_law_29 ?_
      refine lv_bipush (v := 63) C0.1 C0.2.1 dL_law_30 (by decide) ?_
      refine lv_iand C0.1 C0.2.1 dL_law_32 ?_
      refine lv_topi (fun kk ekk => ?_)
      clear ekk
      have K : ∀ (H : Heap) (locs : List Loc) (wc wm : va_W), Wd G A s H locs (wc ++ wm) → CI G adC wc → MI G adM wm → RW (1000 + 20 * (i.toInt + 6)) adC adM wc wm → W p l e room_1 s m #[Value.ref b] below meth c H locs 1000 200000 (lw_Z below #[Value.ref b] s) (F0 m 1725 ls []) := fun H locs wc wm h hC hM hV => by
        have e7 : (i + 6).toInt = i.toInt + (6 : Int32).toInt := t_add (by omega) (by omega)
        refine lv_iinc (v := i + 6) (lv' := [(3, .int (i + 6)), (0, .ref b), (1, .ref (adC 0)), (2, .ref (adM 0))]) C0.1 C0.2.1 dL_law_1725 hl (k := 3) rfl (by rfl) (by decide) rfl (fun ls hl => ?_)
        refine lv_goto (tgt := 18) C0.1 C0.2.1 dL_law_1728 (by decide) ?_
        exact ih (by omega) (by omega) (by omega) h hC hM (hV.at (by rw [e7, e6])) (lv_sub hl [1, 2, 3, 0] rfl)
      by_cases sw : kk.toInt < 0 ∨ 40 < kk.toInt
      · exact lv_tableOut (tgt := 1725) C0.1 C0.2.1 dL_law_33 sw (by decide) (K _ _ _ _ h hC hM (hV.up h0 h4))
      · obtain ⟨sw1, sw2⟩ := not_or.mp sw
        have e1 : kk = Int32.ofInt kk.toInt := (Int32.ofInt_toInt _).symm
        rcases (show kk.toInt = 0 ∨ kk.toInt = 1 ∨ kk.toInt = 2 ∨ kk.toInt = 3 ∨ kk.toInt = 4 ∨ kk.toInt = 5 ∨ kk.toInt = 6 ∨ kk.toInt = 7 ∨ kk.toInt = 8 ∨ kk.toInt = 9 ∨ kk.toInt = 10 ∨ kk.toInt = 11 ∨ kk.toInt = 12 ∨ kk.toInt = 13 ∨ kk.toInt = 14 ∨ kk.toInt = 15 ∨ kk.toInt = 16 ∨ kk.toInt = 17 ∨ kk.toInt = 18 ∨ kk.toInt = 19 ∨ kk.toInt = 20 ∨ kk.toInt = 21 ∨ kk.toInt = 22 ∨ kk.toInt = 23 ∨ kk.toInt = 24 ∨ kk.toInt = 25 ∨ kk.toInt = 26 ∨ kk.toInt = 27 ∨ kk.toInt = 28 ∨ kk.toInt = 29 ∨ kk.toInt = 30 ∨ kk.toInt = 31 ∨ kk.toInt = 32 ∨ kk.toInt = 33 ∨ kk.toInt = 34 ∨ kk.toInt = 35 ∨ kk.toInt = 36 ∨ kk.toInt = 37 ∨ kk.toInt = 38 ∨ kk.toInt = 39 ∨ kk.toInt = 40 by omega) with e2 | e2 | e2 | e2 | e2 | e2 | e2 | e2 | e2 | e2 | e2 | e2 | e2 | e2 | e2 | e2 | e2 | e2 | e2 | e2 | e2 | e2 | e2 | e2 | e2 | e2 | e2 | e2 | e2 | e2 | e2 | e2 | e2 | e2 | e2 | e2 | e2 | e2 | e2 | e2 | e2
        · exact lv_tableIn (off := 179) (tgt := 212) C0.1 C0.2.1 dL_law_33 sw1 sw2 (by rw [e2]; rfl) (by decide) (law_case_0 C0 hX hbl hbA hL hZ h0 h6 h hC hM hV hl K)
        · exact lv_tableIn (off := 242) (tgt := 275) C0.1 C0.2.1 dL_law_33 sw1 sw2 (by rw [e2]; rfl) (by decide) (law_case_1 C0 hX hbl hbA hL hZ h0 h6 h hC hM hV hl K)
        · exact lv_tableIn (off := 265) (tgt := 298) C0.1 C0.2.1 dL_law_33 sw1 sw2 (by rw [e2]; rfl) (by decide) (law_case_2 C0 hX hbl hbA hL hZ h0 h6 h hC hM hV hl K)
        · exact lv_tableIn (off := 288) (tgt := 321) C0.1 C0.2.1 dL_law_33 sw1 sw2 (by rw [e2]; rfl) (by decide) (law_case_3 C0 hX hbl hbA hL hZ h0 h6 h hC hM hV hl K)
        · exact lv_tableIn (off := 321) (tgt := 354) C0.1 C0.2.1 dL_law_33 sw1 sw2 (by rw [e2]; rfl) (by decide) (law_case_4 C0 hX hbl hbA hL hZ h0 h6 h hC hM hV hl K)
        · exact lv_tableIn (off := 354) (tgt := 387) C0.1 C0.2.1 dL_law_33 sw1 sw2 (by rw [e2]; rfl) (by decide) (law_case_5 C0 hX hbl hbA hL hZ h0 h6 h hC hM hV hl K)
        · exact lv_tableIn (off := 387) (tgt := 420) C0.1 C0.2.1 dL_law_33 sw1 sw2 (by rw [e2]; rfl) (by decide) (law_case_6 C0 hX hbl hbA hL hZ h0 h6 h hC hM hV hl K)
        · exact lv_tableIn (off := 430) (tgt := 463) C0.1 C0.2.1 dL_law_33 sw1 sw2 (by rw [e2]; rfl) (by decide) (law_case_7 C0 hX hbl hbA hL hZ h0 h6 h hC hM hV hl K)
        · exact lv_tableIn (off := 463) (tgt := 496) C0.1 C0.2.1 dL_law_33 sw1 sw2 (by rw [e2]; rfl) (by decide) (law_case_8 C0 hX hbl hbA hL hZ h0 h6 h hC hM hV hl K)
        · exact lv_tableIn (off := 496) (tgt := 529) C0.1 C0.2.1 dL_law_33 sw1 sw2 (by rw [e2]; rfl) (by decide) (law_case_9 C0 hX hbl hbA hL hZ h0 h6 h hC hM hV hl K)
        · exact lv_tableIn (off := 529) (tgt := 562) C0.1 C0.2.1 dL_law_33 sw1 sw2 (by rw [e2]; rfl) (by decide) (law_case_10 C0 hX hbl hbA hL hZ h0 h6 h hC hM hV hl K)
        · exact lv_tableIn (off := 552) (tgt := 585) C0.1 C0.2.1 dL_law_33 sw1 sw2 (by rw [e2]; rfl) (by decide) (law_case_11 C0 hX hbl hbA hL hZ h0 h6 h hC hM hV hl K)
        · exact lv_tableIn (off := 585) (tgt := 618) C0.1 C0.2.1 dL_law_33 sw1 sw2 (by rw [e2]; rfl) (by decide) (law_case_12 C0 hX hbl hbA hL hZ h0 h6 h hC hM hV hl K)
        · exact lv_tableIn (off := 608) (tgt := 641) C0.1 C0.2.1 dL_law_33 sw1 sw2 (by rw [e2]; rfl) (by decide) (law_case_13 C0 hX hbl hbA hL hZ h0 h6 h hC hM hV hl K)
        · exact lv_tableIn (off := 651) (tgt := 684) C0.1 C0.2.1 dL_law_33 sw1 sw2 (by rw [e2]; rfl) (by decide) (law_case_14 C0 hX hbl hbA hL hZ h0 h6 h hC hM hV hl K)
        · exact lv_tableIn (off := 684) (tgt := 717) C0.1 C0.2.1 dL_law_33 sw1 sw2 (by rw [e2]; rfl) (by decide) (law_case_15 C0 hX hbl hbA hL hZ h0 h6 h hC hM hV hl K)
        · exact lv_tableIn (off := 707) (tgt := 740) C0.1 C0.2.1 dL_law_33 sw1 sw2 (by rw [e2]; rfl) (by decide) (law_case_16 C0 hX hbl hbA hL hZ h0 h6 h hC hM hV hl K)
        · exact lv_tableIn (off := 730) (tgt := 763) C0.1 C0.2.1 dL_law_33 sw1 sw2 (by rw [e2]; rfl) (by decide) (law_case_17 C0 hX hbl hbA hL hZ h0 h6 h hC hM hV hl K)
        · exact lv_tableIn (off := 763) (tgt := 796) C0.1 C0.2.1 dL_law_33 sw1 sw2 (by rw [e2]; rfl) (by decide) (law_case_18 C0 hX hbl hbA hL hZ h0 h6 h hC hM hV hl K)
        · exact lv_tableIn (off := 806) (tgt := 839) C0.1 C0.2.1 dL_law_33 sw1 sw2 (by rw [e2]; rfl) (by decide) (law_case_19 C0 hX hbl hbA hL hZ h0 h6 h hC hM hV hl K)
        · exact lv_tableIn (off := 859) (tgt := 892) C0.1 C0.2.1 dL_law_33 sw1 sw2 (by rw [e2]; rfl) (by decide) (law_case_20 C0 hX hbl hbA hL hZ h0 h6 h hC hM hV hl K)
        · exact lv_tableIn (off := 902) (tgt := 935) C0.1 C0.2.1 dL_law_33 sw1 sw2 (by rw [e2]; rfl) (by decide) (law_case_21 C0 hX hbl hbA hL hZ h0 h6 h hC hM hV hl K)
        · exact lv_tableIn (off := 945) (tgt := 978) C0.1 C0.2.1 dL_law_33 sw1 sw2 (by rw [e2]; rfl) (by decide) (law_case_22 C0 hX hbl hbA hL hZ h0 h6 h hC hM hV hl K)
        · exact lv_tableIn (off := 998) (tgt := 1031) C0.1 C0.2.1 dL_law_33 sw1 sw2 (by rw [e2]; rfl) (by decide) (law_case_23 C0 hX hbl hbA hL hZ h0 h6 h hC hM hV hl K)
        · exact lv_tableIn (off := 1031) (tgt := 1064) C0.1 C0.2.1 dL_law_33 sw1 sw2 (by rw [e2]; rfl) (by decide) (law_case_24 C0 hX hbl hbA hL hZ h0 h6 h hC hM hV hl K)
        · exact lv_tableIn (off := 1054) (tgt := 1087) C0.1 C0.2.1 dL_law_33 sw1 sw2 (by rw [e2]; rfl) (by decide) (law_case_25 C0 hX hbl hbA hL hZ h0 h6 h hC hM hV hl K)
        · exact lv_tableIn (off := 1087) (tgt := 1120) C0.1 C0.2.1 dL_law_33 sw1 sw2 (by rw [e2]; rfl) (by decide) (law_case_26 C0 hX hbl hbA hL hZ h0 h6 h hC hM hV hl K)
        · exact lv_tableIn (off := 1130) (tgt := 1163) C0.1 C0.2.1 dL_law_33 sw1 sw2 (by rw [e2]; rfl) (by decide) (law_case_27 C0 hX hbl hbA hL hZ h0 h6 h hC hM hV hl K)
        · exact lv_tableIn (off := 1183) (tgt := 1216) C0.1 C0.2.1 dL_law_33 sw1 sw2 (by rw [e2]; rfl) (by decide) (law_case_28 C0 hX hbl hbA hL hZ h0 h6 h hC hM hV hl K)
        · exact lv_tableIn (off := 1226) (tgt := 1259) C0.1 C0.2.1 dL_law_33 sw1 sw2 (by rw [e2]; rfl) (by decide) (law_case_29 C0 hX hbl hbA hL hZ h0 h6 h hC hM hV hl K)
        · exact lv_tableIn (off := 1269) (tgt := 1302) C0.1 C0.2.1 dL_law_33 sw1 sw2 (by rw [e2]; rfl) (by decide) (law_case_30 C0 hX hbl hbA hL hZ h0 h6 h hC hM hV hl K)
        · exact lv_tableIn (off := 1282) (tgt := 1315) C0.1 C0.2.1 dL_law_33 sw1 sw2 (by rw [e2]; rfl) (by decide) (law_case_31 C0 hX hbl hbA hL hZ h0 h6 h hC hM hV hl K)
        · exact lv_tableIn (off := 1305) (tgt := 1338) C0.1 C0.2.1 dL_law_33 sw1 sw2 (by rw [e2]; rfl) (by decide) (law_case_32 C0 hX hbl hbA hL hZ h0 h6 h hC hM hV hl K)
        · exact lv_tableIn (off := 1348) (tgt := 1381) C0.1 C0.2.1 dL_law_33 sw1 sw2 (by rw [e2]; rfl) (by decide) (law_case_33 C0 hX hbl hbA hL hZ h0 h6 h hC hM hV hl K)
        · exact lv_tableIn (off := 1401) (tgt := 1434) C0.1 C0.2.1 dL_law_33 sw1 sw2 (by rw [e2]; rfl) (by decide) (law_case_34 C0 hX hbl hbA hL hZ h0 h6 h hC hM hV hl K)
        · exact lv_tableIn (off := 1454) (tgt := 1487) C0.1 C0.2.1 dL_law_33 sw1 sw2 (by rw [e2]; rfl) (by decide) (law_case_35 C0 hX hbl hbA hL hZ h0 h6 h hC hM hV hl K)
        · exact lv_tableIn (off := 1497) (tgt := 1530) C0.1 C0.2.1 dL_law_33 sw1 sw2 (by rw [e2]; rfl) (by decide) (law_case_36 C0 hX hbl hbA hL hZ h0 h6 h hC hM hV hl K)
        · exact lv_tableIn (off := 1570) (tgt := 1603) C0.1 C0.2.1 dL_law_33 sw1 sw2 (by rw [e2]; rfl) (by decide) (law_case_37 C0 hX hbl hbA hL hZ h0 h6 h hC hM hV hl K)
        · exact lv_tableIn (off := 1623) (tgt := 1656) C0.1 C0.2.1 dL_law_33 sw1 sw2 (by rw [e2]; rfl) (by decide) (law_case_38 C0 hX hbl hbA hL hZ h0 h6 h hC hM hV hl K)
        · exact lv_tableIn (off := 1646) (tgt := 1679) C0.1 C0.2.1 dL_law_33 sw1 sw2 (by rw [e2]; rfl) (by decide) (law_case_39 C0 hX hbl hbA hL hZ h0 h6 h hC hM hV hl K)
        · exact lv_tableIn (off := 1669) (tgt := 1702) C0.1 C0.2.1 dL_law_33 sw1 sw2 (by rw [e2]; rfl) (by decide) (law_case_40 C0 hX hbl hbA hL hZ h0 h6 h hC hM hV hl K)
