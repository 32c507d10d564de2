/-! THE CLAIM OUT OF ONE WALK OF THE LAW'S BODY. Your part is whole_start (and what it stands on); all else here is the same for every law, but numbers. -/
def R_law : String := "RowPrunerLaw"
def lw_P (b : Addr) (xs : List Int32) (args : Array Value) (s : State) : Prop := args = #[.ref b] ∧ s.IntsAt b xs ∧ xs.length ≤ 3072 ∧ (Jvm.Cond.and given_1 narrow_1).before args s = true
def lw_Q (_ : Array Value) (s : State) (o : Outcome) (t : State) : Prop := o = .returned (some (.int 1)) ∧ Framed s o t [] 600000 7302250
def lw_Z (below : List Frame) (a : Array Value) (s : State) : State → Prop := fun t => ∃ o, t.status = .running ∧ Ended t below o ∧ lw_Q a s o t
/-- the law's own end, with 1 on the stack, nothing written that was there before, its room as the claim has it -/
theorem lw_ret {p : Program} {l : Launch} {e : Env} {s : State} {m : MethodId} {below : List Frame} {meth : Method} {c : Code} {b : Nat} (hx : p.tables.exec = Jvm.exec) (hb : c.code = code) (hr : meth.sig.returnType = ret) (hlocks : meth.locks = false) {pc : Nat} {H : Heap} {ls : Array Slot} (hdg : decode code pc = .ok (.ireturn, 1)) : W p l e room_1 s m #[Value.ref b] below meth c H [] 600000 7302250 (lw_Z below #[Value.ref b] s) (F0 m pc ls [.int 1]) := by
  intro T hT X
  obtain ⟨fs, hret, hrun, hended, hW, hframe⟩ := X.leave (v := some (.int 1)) (hlocks := hlocks) (fun h => by rw [hr] at h; cases h)
  have hmeth' : T.vm.method? m = some meth := X.method'
  refine ⟨T.setFrames fs, ?_, .returned (some (.int 1)), hrun, hended, rfl, ⟨_, rfl⟩, hW, hframe⟩
  jvm_step X.here [X.here.top, hx, hb, hdg, hmeth', hr, ret, narrow_b1]
  (try refine ⟨rfl, ?_⟩); (try refine ⟨rfl, ?_⟩)
  first | (intro acts; rw [hret _ acts rfl rfl rfl]) | rw [hret _ _ rfl rfl rfl]
  exact Steps.refl _
/-- what holds at the law's entry: the machine, the code, the tables' words (any of lw_tbl by 'hts w (by decide +kernel)'), the script of L ints xs at the cell b, what the Statement gives of the start (any of its parts by flat_of_before) -/
def lw_At (p : Program) (s : State) (m : MethodId) (meth : Method) (c : Code) (b L : Nat) (xs : Nat → Int32) : Prop :=
  p.tables.exec = Jvm.exec ∧ c.code = code ∧ meth.sig.returnType = ret ∧ c.maxLocals = 4 ∧ s.vm.findClass R_law = some m.cls ∧ (∀ w ∈ lw_tbl, w.before #[Value.ref b] s = true) ∧ va_X b L xs s s.heap ∧ b < s.heap.size ∧ meth.locks = false ∧ (Jvm.Cond.and given_1 narrow_1).before #[Value.ref b] s = true
theorem dl_0 : decode code 0 = .ok (.new 7, 3) := by decide +kernel
theorem dl_3 : decode code 3 = .ok (.dup, 1) := by decide +kernel
theorem dl_4 : decode code 4 = .ok (.invokespecial 9, 3) := by decide +kernel
theorem dl_7 : decode code 7 = .ok (.astore_n 1, 1) := by decide +kernel
theorem dl_8 : decode code 8 = .ok (.new 10, 3) := by decide +kernel
theorem dl_11 : decode code 11 = .ok (.dup, 1) := by decide +kernel
theorem dl_12 : decode code 12 = .ok (.invokespecial 12, 3) := by decide +kernel
theorem dl_15 : decode code 15 = .ok (.astore_n 2, 1) := by decide +kernel
theorem dl_16 : decode code 16 = .ok (.iconst 0, 1) := by decide +kernel
theorem dl_17 : decode code 17 = .ok (.istore_n 3, 1) := by decide +kernel
theorem dl_18 : decode code 18 = .ok (.iload_n 3, 1) := by decide +kernel
theorem dl_19 : decode code 19 = .ok (.aload_n 0, 1) := by decide +kernel
theorem dl_20 : decode code 20 = .ok (.arraylength, 1) := by decide +kernel
theorem dl_21 : decode code 21 = .ok (.bipush 6, 2) := by decide +kernel
theorem dl_23 : decode code 23 = .ok (.isub, 1) := by decide +kernel
theorem dl_24 : decode code 24 = .ok (.if_icmp .gt 1340, 3) := by decide +kernel
theorem dl_27 : decode code 27 = .ok (.aload_n 0, 1) := by decide +kernel
theorem dl_28 : decode code 28 = .ok (.iload_n 3, 1) := by decide +kernel
theorem dl_29 : decode code 29 = .ok (.iaload, 1) := by decide +kernel
theorem dl_30 : decode code 30 = .ok (.bipush 63, 2) := by decide +kernel
theorem dl_32 : decode code 32 = .ok (.iand, 1) := by decide +kernel
theorem dl_33 : decode code 33 = .ok (.tableswitch 1325 0 39 #[175, 188, 251, 274, 297, 320, 343, 376, 419, 462, 495, 528, 561, 604, 627, 670, 703, 716, 739, 762, 815, 878, 911, 944, 967, 980, 1013, 1046, 1059, 1092, 1105, 1118, 1141, 1174, 1197, 1210, 1233, 1256, 1269, 1302], 175) := by decide +kernel
theorem dl_208 : decode code 208 = .ok (.aload_n 1, 1) := by decide +kernel
theorem dl_209 : decode code 209 = .ok (.invokevirtual 13, 3) := by decide +kernel
theorem dl_212 : decode code 212 = .ok (.aload_n 2, 1) := by decide +kernel
theorem dl_213 : decode code 213 = .ok (.invokevirtual 17, 3) := by decide +kernel
theorem dl_216 : decode code 216 = .ok (.if_icmp .eq 1142, 3) := by decide +kernel
theorem dl_219 : decode code 219 = .ok (.iconst 0, 1) := by decide +kernel
theorem dl_220 : decode code 220 = .ok (.ireturn, 1) := by decide +kernel
theorem dl_221 : decode code 221 = .ok (.aload_n 1, 1) := by decide +kernel
theorem dl_222 : decode code 222 = .ok (.aload_n 0, 1) := by decide +kernel
theorem dl_223 : decode code 223 = .ok (.iload_n 3, 1) := by decide +kernel
theorem dl_224 : decode code 224 = .ok (.iconst 1, 1) := by decide +kernel
theorem dl_225 : decode code 225 = .ok (.iadd, 1) := by decide +kernel
theorem dl_226 : decode code 226 = .ok (.iaload, 1) := by decide +kernel
theorem dl_227 : decode code 227 = .ok (.aload_n 0, 1) := by decide +kernel
theorem dl_228 : decode code 228 = .ok (.iload_n 3, 1) := by decide +kernel
theorem dl_229 : decode code 229 = .ok (.iconst 2, 1) := by decide +kernel
theorem dl_230 : decode code 230 = .ok (.iadd, 1) := by decide +kernel
theorem dl_231 : decode code 231 = .ok (.iaload, 1) := by decide +kernel
theorem dl_232 : decode code 232 = .ok (.aload_n 0, 1) := by decide +kernel
theorem dl_233 : decode code 233 = .ok (.iload_n 3, 1) := by decide +kernel
theorem dl_234 : decode code 234 = .ok (.iconst 3, 1) := by decide +kernel
theorem dl_235 : decode code 235 = .ok (.iadd, 1) := by decide +kernel
theorem dl_236 : decode code 236 = .ok (.iaload, 1) := by decide +kernel
theorem dl_237 : decode code 237 = .ok (.aload_n 0, 1) := by decide +kernel
theorem dl_238 : decode code 238 = .ok (.iload_n 3, 1) := by decide +kernel
theorem dl_239 : decode code 239 = .ok (.iconst 4, 1) := by decide +kernel
theorem dl_240 : decode code 240 = .ok (.iadd, 1) := by decide +kernel
theorem dl_241 : decode code 241 = .ok (.iaload, 1) := by decide +kernel
theorem dl_242 : decode code 242 = .ok (.aload_n 0, 1) := by decide +kernel
theorem dl_243 : decode code 243 = .ok (.iload_n 3, 1) := by decide +kernel
theorem dl_244 : decode code 244 = .ok (.iconst 5, 1) := by decide +kernel
theorem dl_245 : decode code 245 = .ok (.iadd, 1) := by decide +kernel
theorem dl_246 : decode code 246 = .ok (.iaload, 1) := by decide +kernel
theorem dl_247 : decode code 247 = .ok (.invokevirtual 18, 3) := by decide +kernel
theorem dl_250 : decode code 250 = .ok (.aload_n 2, 1) := by decide +kernel
theorem dl_251 : decode code 251 = .ok (.aload_n 0, 1) := by decide +kernel
theorem dl_252 : decode code 252 = .ok (.iload_n 3, 1) := by decide +kernel
theorem dl_253 : decode code 253 = .ok (.iconst 1, 1) := by decide +kernel
theorem dl_254 : decode code 254 = .ok (.iadd, 1) := by decide +kernel
theorem dl_255 : decode code 255 = .ok (.iaload, 1) := by decide +kernel
theorem dl_256 : decode code 256 = .ok (.aload_n 0, 1) := by decide +kernel
theorem dl_257 : decode code 257 = .ok (.iload_n 3, 1) := by decide +kernel
theorem dl_258 : decode code 258 = .ok (.iconst 2, 1) := by decide +kernel
theorem dl_259 : decode code 259 = .ok (.iadd, 1) := by decide +kernel
theorem dl_260 : decode code 260 = .ok (.iaload, 1) := by decide +kernel
theorem dl_261 : decode code 261 = .ok (.aload_n 0, 1) := by decide +kernel
theorem dl_262 : decode code 262 = .ok (.iload_n 3, 1) := by decide +kernel
theorem dl_263 : decode code 263 = .ok (.iconst 3, 1) := by decide +kernel
theorem dl_264 : decode code 264 = .ok (.iadd, 1) := by decide +kernel
theorem dl_265 : decode code 265 = .ok (.iaload, 1) := by decide +kernel
theorem dl_266 : decode code 266 = .ok (.aload_n 0, 1) := by decide +kernel
theorem dl_267 : decode code 267 = .ok (.iload_n 3, 1) := by decide +kernel
theorem dl_268 : decode code 268 = .ok (.iconst 4, 1) := by decide +kernel
theorem dl_269 : decode code 269 = .ok (.iadd, 1) := by decide +kernel
theorem dl_270 : decode code 270 = .ok (.iaload, 1) := by decide +kernel
theorem dl_271 : decode code 271 = .ok (.aload_n 0, 1) := by decide +kernel
theorem dl_272 : decode code 272 = .ok (.iload_n 3, 1) := by decide +kernel
theorem dl_273 : decode code 273 = .ok (.iconst 5, 1) := by decide +kernel
theorem dl_274 : decode code 274 = .ok (.iadd, 1) := by decide +kernel
theorem dl_275 : decode code 275 = .ok (.iaload, 1) := by decide +kernel
theorem dl_276 : decode code 276 = .ok (.invokevirtual 22, 3) := by decide +kernel
theorem dl_279 : decode code 279 = .ok (.if_icmp .eq 1079, 3) := by decide +kernel
theorem dl_282 : decode code 282 = .ok (.iconst 0, 1) := by decide +kernel
theorem dl_283 : decode code 283 = .ok (.ireturn, 1) := by decide +kernel
theorem dl_284 : decode code 284 = .ok (.aload_n 1, 1) := by decide +kernel
theorem dl_285 : decode code 285 = .ok (.aload_n 0, 1) := by decide +kernel
theorem dl_286 : decode code 286 = .ok (.iload_n 3, 1) := by decide +kernel
theorem dl_287 : decode code 287 = .ok (.iconst 1, 1) := by decide +kernel
theorem dl_288 : decode code 288 = .ok (.iadd, 1) := by decide +kernel
theorem dl_289 : decode code 289 = .ok (.iaload, 1) := by decide +kernel
theorem dl_290 : decode code 290 = .ok (.invokevirtual 23, 3) := by decide +kernel
theorem dl_293 : decode code 293 = .ok (.aload_n 2, 1) := by decide +kernel
theorem dl_294 : decode code 294 = .ok (.aload_n 0, 1) := by decide +kernel
theorem dl_295 : decode code 295 = .ok (.iload_n 3, 1) := by decide +kernel
theorem dl_296 : decode code 296 = .ok (.iconst 1, 1) := by decide +kernel
theorem dl_297 : decode code 297 = .ok (.iadd, 1) := by decide +kernel
theorem dl_298 : decode code 298 = .ok (.iaload, 1) := by decide +kernel
theorem dl_299 : decode code 299 = .ok (.invokevirtual 27, 3) := by decide +kernel
theorem dl_302 : decode code 302 = .ok (.if_icmp .eq 1056, 3) := by decide +kernel
theorem dl_305 : decode code 305 = .ok (.iconst 0, 1) := by decide +kernel
theorem dl_306 : decode code 306 = .ok (.ireturn, 1) := by decide +kernel
theorem dl_307 : decode code 307 = .ok (.aload_n 1, 1) := by decide +kernel
theorem dl_308 : decode code 308 = .ok (.aload_n 0, 1) := by decide +kernel
theorem dl_309 : decode code 309 = .ok (.iload_n 3, 1) := by decide +kernel
theorem dl_310 : decode code 310 = .ok (.iconst 1, 1) := by decide +kernel
theorem dl_311 : decode code 311 = .ok (.iadd, 1) := by decide +kernel
theorem dl_312 : decode code 312 = .ok (.iaload, 1) := by decide +kernel
theorem dl_313 : decode code 313 = .ok (.invokevirtual 28, 3) := by decide +kernel
theorem dl_316 : decode code 316 = .ok (.aload_n 2, 1) := by decide +kernel
theorem dl_317 : decode code 317 = .ok (.aload_n 0, 1) := by decide +kernel
theorem dl_318 : decode code 318 = .ok (.iload_n 3, 1) := by decide +kernel
theorem dl_319 : decode code 319 = .ok (.iconst 1, 1) := by decide +kernel
theorem dl_320 : decode code 320 = .ok (.iadd, 1) := by decide +kernel
theorem dl_321 : decode code 321 = .ok (.iaload, 1) := by decide +kernel
theorem dl_322 : decode code 322 = .ok (.invokevirtual 31, 3) := by decide +kernel
theorem dl_325 : decode code 325 = .ok (.if_icmp .eq 1033, 3) := by decide +kernel
theorem dl_328 : decode code 328 = .ok (.iconst 0, 1) := by decide +kernel
theorem dl_329 : decode code 329 = .ok (.ireturn, 1) := by decide +kernel
theorem dl_330 : decode code 330 = .ok (.aload_n 1, 1) := by decide +kernel
theorem dl_331 : decode code 331 = .ok (.aload_n 0, 1) := by decide +kernel
theorem dl_332 : decode code 332 = .ok (.iload_n 3, 1) := by decide +kernel
theorem dl_333 : decode code 333 = .ok (.iconst 1, 1) := by decide +kernel
theorem dl_334 : decode code 334 = .ok (.iadd, 1) := by decide +kernel
theorem dl_335 : decode code 335 = .ok (.iaload, 1) := by decide +kernel
theorem dl_336 : decode code 336 = .ok (.invokevirtual 32, 3) := by decide +kernel
theorem dl_339 : decode code 339 = .ok (.aload_n 2, 1) := by decide +kernel
theorem dl_340 : decode code 340 = .ok (.aload_n 0, 1) := by decide +kernel
theorem dl_341 : decode code 341 = .ok (.iload_n 3, 1) := by decide +kernel
theorem dl_342 : decode code 342 = .ok (.iconst 1, 1) := by decide +kernel
theorem dl_343 : decode code 343 = .ok (.iadd, 1) := by decide +kernel
theorem dl_344 : decode code 344 = .ok (.iaload, 1) := by decide +kernel
theorem dl_345 : decode code 345 = .ok (.invokevirtual 35, 3) := by decide +kernel
theorem dl_348 : decode code 348 = .ok (.if_icmp .eq 1010, 3) := by decide +kernel
theorem dl_351 : decode code 351 = .ok (.iconst 0, 1) := by decide +kernel
theorem dl_352 : decode code 352 = .ok (.ireturn, 1) := by decide +kernel
theorem dl_353 : decode code 353 = .ok (.aload_n 1, 1) := by decide +kernel
theorem dl_354 : decode code 354 = .ok (.aload_n 0, 1) := by decide +kernel
theorem dl_355 : decode code 355 = .ok (.iload_n 3, 1) := by decide +kernel
theorem dl_356 : decode code 356 = .ok (.iconst 1, 1) := by decide +kernel
theorem dl_357 : decode code 357 = .ok (.iadd, 1) := by decide +kernel
theorem dl_358 : decode code 358 = .ok (.iaload, 1) := by decide +kernel
theorem dl_359 : decode code 359 = .ok (.invokevirtual 36, 3) := by decide +kernel
theorem dl_362 : decode code 362 = .ok (.aload_n 2, 1) := by decide +kernel
theorem dl_363 : decode code 363 = .ok (.aload_n 0, 1) := by decide +kernel
theorem dl_364 : decode code 364 = .ok (.iload_n 3, 1) := by decide +kernel
theorem dl_365 : decode code 365 = .ok (.iconst 1, 1) := by decide +kernel
theorem dl_366 : decode code 366 = .ok (.iadd, 1) := by decide +kernel
theorem dl_367 : decode code 367 = .ok (.iaload, 1) := by decide +kernel
theorem dl_368 : decode code 368 = .ok (.invokevirtual 39, 3) := by decide +kernel
theorem dl_371 : decode code 371 = .ok (.if_icmp .eq 987, 3) := by decide +kernel
theorem dl_374 : decode code 374 = .ok (.iconst 0, 1) := by decide +kernel
theorem dl_375 : decode code 375 = .ok (.ireturn, 1) := by decide +kernel
theorem dl_376 : decode code 376 = .ok (.aload_n 1, 1) := by decide +kernel
theorem dl_377 : decode code 377 = .ok (.aload_n 0, 1) := by decide +kernel
theorem dl_378 : decode code 378 = .ok (.iload_n 3, 1) := by decide +kernel
theorem dl_379 : decode code 379 = .ok (.iconst 1, 1) := by decide +kernel
theorem dl_380 : decode code 380 = .ok (.iadd, 1) := by decide +kernel
theorem dl_381 : decode code 381 = .ok (.iaload, 1) := by decide +kernel
theorem dl_382 : decode code 382 = .ok (.aload_n 0, 1) := by decide +kernel
theorem dl_383 : decode code 383 = .ok (.iload_n 3, 1) := by decide +kernel
theorem dl_384 : decode code 384 = .ok (.iconst 2, 1) := by decide +kernel
theorem dl_385 : decode code 385 = .ok (.iadd, 1) := by decide +kernel
theorem dl_386 : decode code 386 = .ok (.iaload, 1) := by decide +kernel
theorem dl_387 : decode code 387 = .ok (.invokevirtual 40, 3) := by decide +kernel
theorem dl_390 : decode code 390 = .ok (.aload_n 2, 1) := by decide +kernel
theorem dl_391 : decode code 391 = .ok (.aload_n 0, 1) := by decide +kernel
theorem dl_392 : decode code 392 = .ok (.iload_n 3, 1) := by decide +kernel
theorem dl_393 : decode code 393 = .ok (.iconst 1, 1) := by decide +kernel
theorem dl_394 : decode code 394 = .ok (.iadd, 1) := by decide +kernel
theorem dl_395 : decode code 395 = .ok (.iaload, 1) := by decide +kernel
theorem dl_396 : decode code 396 = .ok (.aload_n 0, 1) := by decide +kernel
theorem dl_397 : decode code 397 = .ok (.iload_n 3, 1) := by decide +kernel
theorem dl_398 : decode code 398 = .ok (.iconst 2, 1) := by decide +kernel
theorem dl_399 : decode code 399 = .ok (.iadd, 1) := by decide +kernel
theorem dl_400 : decode code 400 = .ok (.iaload, 1) := by decide +kernel
theorem dl_401 : decode code 401 = .ok (.invokevirtual 44, 3) := by decide +kernel
theorem dl_404 : decode code 404 = .ok (.if_icmp .eq 954, 3) := by decide +kernel
theorem dl_407 : decode code 407 = .ok (.iconst 0, 1) := by decide +kernel
theorem dl_408 : decode code 408 = .ok (.ireturn, 1) := by decide +kernel
theorem dl_409 : decode code 409 = .ok (.aload_n 1, 1) := by decide +kernel
theorem dl_410 : decode code 410 = .ok (.aload_n 0, 1) := by decide +kernel
theorem dl_411 : decode code 411 = .ok (.iload_n 3, 1) := by decide +kernel
theorem dl_412 : decode code 412 = .ok (.iconst 1, 1) := by decide +kernel
theorem dl_413 : decode code 413 = .ok (.iadd, 1) := by decide +kernel
theorem dl_414 : decode code 414 = .ok (.iaload, 1) := by decide +kernel
theorem dl_415 : decode code 415 = .ok (.aload_n 0, 1) := by decide +kernel
theorem dl_416 : decode code 416 = .ok (.iload_n 3, 1) := by decide +kernel
theorem dl_417 : decode code 417 = .ok (.iconst 2, 1) := by decide +kernel
theorem dl_418 : decode code 418 = .ok (.iadd, 1) := by decide +kernel
theorem dl_419 : decode code 419 = .ok (.iaload, 1) := by decide +kernel
theorem dl_420 : decode code 420 = .ok (.aload_n 0, 1) := by decide +kernel
theorem dl_421 : decode code 421 = .ok (.iload_n 3, 1) := by decide +kernel
theorem dl_422 : decode code 422 = .ok (.iconst 3, 1) := by decide +kernel
theorem dl_423 : decode code 423 = .ok (.iadd, 1) := by decide +kernel
theorem dl_424 : decode code 424 = .ok (.iaload, 1) := by decide +kernel
theorem dl_425 : decode code 425 = .ok (.invokevirtual 45, 3) := by decide +kernel
theorem dl_428 : decode code 428 = .ok (.aload_n 2, 1) := by decide +kernel
theorem dl_429 : decode code 429 = .ok (.aload_n 0, 1) := by decide +kernel
theorem dl_430 : decode code 430 = .ok (.iload_n 3, 1) := by decide +kernel
theorem dl_431 : decode code 431 = .ok (.iconst 1, 1) := by decide +kernel
theorem dl_432 : decode code 432 = .ok (.iadd, 1) := by decide +kernel
theorem dl_433 : decode code 433 = .ok (.iaload, 1) := by decide +kernel
theorem dl_434 : decode code 434 = .ok (.aload_n 0, 1) := by decide +kernel
theorem dl_435 : decode code 435 = .ok (.iload_n 3, 1) := by decide +kernel
theorem dl_436 : decode code 436 = .ok (.iconst 2, 1) := by decide +kernel
theorem dl_437 : decode code 437 = .ok (.iadd, 1) := by decide +kernel
theorem dl_438 : decode code 438 = .ok (.iaload, 1) := by decide +kernel
theorem dl_439 : decode code 439 = .ok (.aload_n 0, 1) := by decide +kernel
theorem dl_440 : decode code 440 = .ok (.iload_n 3, 1) := by decide +kernel
theorem dl_441 : decode code 441 = .ok (.iconst 3, 1) := by decide +kernel
theorem dl_442 : decode code 442 = .ok (.iadd, 1) := by decide +kernel
theorem dl_443 : decode code 443 = .ok (.iaload, 1) := by decide +kernel
theorem dl_444 : decode code 444 = .ok (.invokevirtual 49, 3) := by decide +kernel
theorem dl_447 : decode code 447 = .ok (.if_icmp .eq 911, 3) := by decide +kernel
theorem dl_450 : decode code 450 = .ok (.iconst 0, 1) := by decide +kernel
theorem dl_451 : decode code 451 = .ok (.ireturn, 1) := by decide +kernel
theorem dl_452 : decode code 452 = .ok (.aload_n 1, 1) := by decide +kernel
theorem dl_453 : decode code 453 = .ok (.aload_n 0, 1) := by decide +kernel
theorem dl_454 : decode code 454 = .ok (.iload_n 3, 1) := by decide +kernel
theorem dl_455 : decode code 455 = .ok (.iconst 1, 1) := by decide +kernel
theorem dl_456 : decode code 456 = .ok (.iadd, 1) := by decide +kernel
theorem dl_457 : decode code 457 = .ok (.iaload, 1) := by decide +kernel
theorem dl_458 : decode code 458 = .ok (.aload_n 0, 1) := by decide +kernel
theorem dl_459 : decode code 459 = .ok (.iload_n 3, 1) := by decide +kernel
theorem dl_460 : decode code 460 = .ok (.iconst 2, 1) := by decide +kernel
theorem dl_461 : decode code 461 = .ok (.iadd, 1) := by decide +kernel
theorem dl_462 : decode code 462 = .ok (.iaload, 1) := by decide +kernel
theorem dl_463 : decode code 463 = .ok (.aload_n 0, 1) := by decide +kernel
theorem dl_464 : decode code 464 = .ok (.iload_n 3, 1) := by decide +kernel
theorem dl_465 : decode code 465 = .ok (.iconst 3, 1) := by decide +kernel
theorem dl_466 : decode code 466 = .ok (.iadd, 1) := by decide +kernel
theorem dl_467 : decode code 467 = .ok (.iaload, 1) := by decide +kernel
theorem dl_468 : decode code 468 = .ok (.invokevirtual 50, 3) := by decide +kernel
theorem dl_471 : decode code 471 = .ok (.aload_n 2, 1) := by decide +kernel
theorem dl_472 : decode code 472 = .ok (.aload_n 0, 1) := by decide +kernel
theorem dl_473 : decode code 473 = .ok (.iload_n 3, 1) := by decide +kernel
theorem dl_474 : decode code 474 = .ok (.iconst 1, 1) := by decide +kernel
theorem dl_475 : decode code 475 = .ok (.iadd, 1) := by decide +kernel
theorem dl_476 : decode code 476 = .ok (.iaload, 1) := by decide +kernel
theorem dl_477 : decode code 477 = .ok (.aload_n 0, 1) := by decide +kernel
theorem dl_478 : decode code 478 = .ok (.iload_n 3, 1) := by decide +kernel
theorem dl_479 : decode code 479 = .ok (.iconst 2, 1) := by decide +kernel
theorem dl_480 : decode code 480 = .ok (.iadd, 1) := by decide +kernel
theorem dl_481 : decode code 481 = .ok (.iaload, 1) := by decide +kernel
theorem dl_482 : decode code 482 = .ok (.aload_n 0, 1) := by decide +kernel
theorem dl_483 : decode code 483 = .ok (.iload_n 3, 1) := by decide +kernel
theorem dl_484 : decode code 484 = .ok (.iconst 3, 1) := by decide +kernel
theorem dl_485 : decode code 485 = .ok (.iadd, 1) := by decide +kernel
theorem dl_486 : decode code 486 = .ok (.iaload, 1) := by decide +kernel
theorem dl_487 : decode code 487 = .ok (.invokevirtual 53, 3) := by decide +kernel
theorem dl_490 : decode code 490 = .ok (.if_icmp .eq 868, 3) := by decide +kernel
theorem dl_493 : decode code 493 = .ok (.iconst 0, 1) := by decide +kernel
theorem dl_494 : decode code 494 = .ok (.ireturn, 1) := by decide +kernel
theorem dl_495 : decode code 495 = .ok (.aload_n 1, 1) := by decide +kernel
theorem dl_496 : decode code 496 = .ok (.aload_n 0, 1) := by decide +kernel
theorem dl_497 : decode code 497 = .ok (.iload_n 3, 1) := by decide +kernel
theorem dl_498 : decode code 498 = .ok (.iconst 1, 1) := by decide +kernel
theorem dl_499 : decode code 499 = .ok (.iadd, 1) := by decide +kernel
theorem dl_500 : decode code 500 = .ok (.iaload, 1) := by decide +kernel
theorem dl_501 : decode code 501 = .ok (.aload_n 0, 1) := by decide +kernel
theorem dl_502 : decode code 502 = .ok (.iload_n 3, 1) := by decide +kernel
theorem dl_503 : decode code 503 = .ok (.iconst 2, 1) := by decide +kernel
theorem dl_504 : decode code 504 = .ok (.iadd, 1) := by decide +kernel
theorem dl_505 : decode code 505 = .ok (.iaload, 1) := by decide +kernel
theorem dl_506 : decode code 506 = .ok (.invokevirtual 54, 3) := by decide +kernel
theorem dl_509 : decode code 509 = .ok (.aload_n 2, 1) := by decide +kernel
theorem dl_510 : decode code 510 = .ok (.aload_n 0, 1) := by decide +kernel
theorem dl_511 : decode code 511 = .ok (.iload_n 3, 1) := by decide +kernel
theorem dl_512 : decode code 512 = .ok (.iconst 1, 1) := by decide +kernel
theorem dl_513 : decode code 513 = .ok (.iadd, 1) := by decide +kernel
theorem dl_514 : decode code 514 = .ok (.iaload, 1) := by decide +kernel
theorem dl_515 : decode code 515 = .ok (.aload_n 0, 1) := by decide +kernel
theorem dl_516 : decode code 516 = .ok (.iload_n 3, 1) := by decide +kernel
theorem dl_517 : decode code 517 = .ok (.iconst 2, 1) := by decide +kernel
theorem dl_518 : decode code 518 = .ok (.iadd, 1) := by decide +kernel
theorem dl_519 : decode code 519 = .ok (.iaload, 1) := by decide +kernel
theorem dl_520 : decode code 520 = .ok (.invokevirtual 57, 3) := by decide +kernel
theorem dl_523 : decode code 523 = .ok (.if_icmp .eq 835, 3) := by decide +kernel
theorem dl_526 : decode code 526 = .ok (.iconst 0, 1) := by decide +kernel
theorem dl_527 : decode code 527 = .ok (.ireturn, 1) := by decide +kernel
theorem dl_528 : decode code 528 = .ok (.aload_n 1, 1) := by decide +kernel
theorem dl_529 : decode code 529 = .ok (.aload_n 0, 1) := by decide +kernel
theorem dl_530 : decode code 530 = .ok (.iload_n 3, 1) := by decide +kernel
theorem dl_531 : decode code 531 = .ok (.iconst 1, 1) := by decide +kernel
theorem dl_532 : decode code 532 = .ok (.iadd, 1) := by decide +kernel
theorem dl_533 : decode code 533 = .ok (.iaload, 1) := by decide +kernel
theorem dl_534 : decode code 534 = .ok (.aload_n 0, 1) := by decide +kernel
theorem dl_535 : decode code 535 = .ok (.iload_n 3, 1) := by decide +kernel
theorem dl_536 : decode code 536 = .ok (.iconst 2, 1) := by decide +kernel
theorem dl_537 : decode code 537 = .ok (.iadd, 1) := by decide +kernel
theorem dl_538 : decode code 538 = .ok (.iaload, 1) := by decide +kernel
theorem dl_539 : decode code 539 = .ok (.invokevirtual 58, 3) := by decide +kernel
theorem dl_542 : decode code 542 = .ok (.aload_n 2, 1) := by decide +kernel
theorem dl_543 : decode code 543 = .ok (.aload_n 0, 1) := by decide +kernel
theorem dl_544 : decode code 544 = .ok (.iload_n 3, 1) := by decide +kernel
theorem dl_545 : decode code 545 = .ok (.iconst 1, 1) := by decide +kernel
theorem dl_546 : decode code 546 = .ok (.iadd, 1) := by decide +kernel
theorem dl_547 : decode code 547 = .ok (.iaload, 1) := by decide +kernel
theorem dl_548 : decode code 548 = .ok (.aload_n 0, 1) := by decide +kernel
theorem dl_549 : decode code 549 = .ok (.iload_n 3, 1) := by decide +kernel
theorem dl_550 : decode code 550 = .ok (.iconst 2, 1) := by decide +kernel
theorem dl_551 : decode code 551 = .ok (.iadd, 1) := by decide +kernel
theorem dl_552 : decode code 552 = .ok (.iaload, 1) := by decide +kernel
theorem dl_553 : decode code 553 = .ok (.invokevirtual 61, 3) := by decide +kernel
theorem dl_556 : decode code 556 = .ok (.if_icmp .eq 802, 3) := by decide +kernel
theorem dl_559 : decode code 559 = .ok (.iconst 0, 1) := by decide +kernel
theorem dl_560 : decode code 560 = .ok (.ireturn, 1) := by decide +kernel
theorem dl_561 : decode code 561 = .ok (.aload_n 1, 1) := by decide +kernel
theorem dl_562 : decode code 562 = .ok (.aload_n 0, 1) := by decide +kernel
theorem dl_563 : decode code 563 = .ok (.iload_n 3, 1) := by decide +kernel
theorem dl_564 : decode code 564 = .ok (.iconst 1, 1) := by decide +kernel
theorem dl_565 : decode code 565 = .ok (.iadd, 1) := by decide +kernel
theorem dl_566 : decode code 566 = .ok (.iaload, 1) := by decide +kernel
theorem dl_567 : decode code 567 = .ok (.aload_n 0, 1) := by decide +kernel
theorem dl_568 : decode code 568 = .ok (.iload_n 3, 1) := by decide +kernel
theorem dl_569 : decode code 569 = .ok (.iconst 2, 1) := by decide +kernel
theorem dl_570 : decode code 570 = .ok (.iadd, 1) := by decide +kernel
theorem dl_571 : decode code 571 = .ok (.iaload, 1) := by decide +kernel
theorem dl_572 : decode code 572 = .ok (.invokevirtual 62, 3) := by decide +kernel
theorem dl_575 : decode code 575 = .ok (.aload_n 2, 1) := by decide +kernel
theorem dl_576 : decode code 576 = .ok (.aload_n 0, 1) := by decide +kernel
theorem dl_577 : decode code 577 = .ok (.iload_n 3, 1) := by decide +kernel
theorem dl_578 : decode code 578 = .ok (.iconst 1, 1) := by decide +kernel
theorem dl_579 : decode code 579 = .ok (.iadd, 1) := by decide +kernel
theorem dl_580 : decode code 580 = .ok (.iaload, 1) := by decide +kernel
theorem dl_581 : decode code 581 = .ok (.aload_n 0, 1) := by decide +kernel
theorem dl_582 : decode code 582 = .ok (.iload_n 3, 1) := by decide +kernel
theorem dl_583 : decode code 583 = .ok (.iconst 2, 1) := by decide +kernel
theorem dl_584 : decode code 584 = .ok (.iadd, 1) := by decide +kernel
theorem dl_585 : decode code 585 = .ok (.iaload, 1) := by decide +kernel
theorem dl_586 : decode code 586 = .ok (.invokevirtual 65, 3) := by decide +kernel
theorem dl_589 : decode code 589 = .ok (.if_icmp .eq 769, 3) := by decide +kernel
theorem dl_592 : decode code 592 = .ok (.iconst 0, 1) := by decide +kernel
theorem dl_593 : decode code 593 = .ok (.ireturn, 1) := by decide +kernel
theorem dl_594 : decode code 594 = .ok (.aload_n 1, 1) := by decide +kernel
theorem dl_595 : decode code 595 = .ok (.aload_n 0, 1) := by decide +kernel
theorem dl_596 : decode code 596 = .ok (.iload_n 3, 1) := by decide +kernel
theorem dl_597 : decode code 597 = .ok (.iconst 1, 1) := by decide +kernel
theorem dl_598 : decode code 598 = .ok (.iadd, 1) := by decide +kernel
theorem dl_599 : decode code 599 = .ok (.iaload, 1) := by decide +kernel
theorem dl_600 : decode code 600 = .ok (.aload_n 0, 1) := by decide +kernel
theorem dl_601 : decode code 601 = .ok (.iload_n 3, 1) := by decide +kernel
theorem dl_602 : decode code 602 = .ok (.iconst 2, 1) := by decide +kernel
theorem dl_603 : decode code 603 = .ok (.iadd, 1) := by decide +kernel
theorem dl_604 : decode code 604 = .ok (.iaload, 1) := by decide +kernel
theorem dl_605 : decode code 605 = .ok (.aload_n 0, 1) := by decide +kernel
theorem dl_606 : decode code 606 = .ok (.iload_n 3, 1) := by decide +kernel
theorem dl_607 : decode code 607 = .ok (.iconst 3, 1) := by decide +kernel
theorem dl_608 : decode code 608 = .ok (.iadd, 1) := by decide +kernel
theorem dl_609 : decode code 609 = .ok (.iaload, 1) := by decide +kernel
theorem dl_610 : decode code 610 = .ok (.invokevirtual 66, 3) := by decide +kernel
theorem dl_613 : decode code 613 = .ok (.aload_n 2, 1) := by decide +kernel
theorem dl_614 : decode code 614 = .ok (.aload_n 0, 1) := by decide +kernel
theorem dl_615 : decode code 615 = .ok (.iload_n 3, 1) := by decide +kernel
theorem dl_616 : decode code 616 = .ok (.iconst 1, 1) := by decide +kernel
theorem dl_617 : decode code 617 = .ok (.iadd, 1) := by decide +kernel
theorem dl_618 : decode code 618 = .ok (.iaload, 1) := by decide +kernel
theorem dl_619 : decode code 619 = .ok (.aload_n 0, 1) := by decide +kernel
theorem dl_620 : decode code 620 = .ok (.iload_n 3, 1) := by decide +kernel
theorem dl_621 : decode code 621 = .ok (.iconst 2, 1) := by decide +kernel
theorem dl_622 : decode code 622 = .ok (.iadd, 1) := by decide +kernel
theorem dl_623 : decode code 623 = .ok (.iaload, 1) := by decide +kernel
theorem dl_624 : decode code 624 = .ok (.aload_n 0, 1) := by decide +kernel
theorem dl_625 : decode code 625 = .ok (.iload_n 3, 1) := by decide +kernel
theorem dl_626 : decode code 626 = .ok (.iconst 3, 1) := by decide +kernel
theorem dl_627 : decode code 627 = .ok (.iadd, 1) := by decide +kernel
theorem dl_628 : decode code 628 = .ok (.iaload, 1) := by decide +kernel
theorem dl_629 : decode code 629 = .ok (.invokevirtual 69, 3) := by decide +kernel
theorem dl_632 : decode code 632 = .ok (.if_icmp .eq 726, 3) := by decide +kernel
theorem dl_635 : decode code 635 = .ok (.iconst 0, 1) := by decide +kernel
theorem dl_636 : decode code 636 = .ok (.ireturn, 1) := by decide +kernel
theorem dl_637 : decode code 637 = .ok (.aload_n 1, 1) := by decide +kernel
theorem dl_638 : decode code 638 = .ok (.aload_n 0, 1) := by decide +kernel
theorem dl_639 : decode code 639 = .ok (.iload_n 3, 1) := by decide +kernel
theorem dl_640 : decode code 640 = .ok (.iconst 1, 1) := by decide +kernel
theorem dl_641 : decode code 641 = .ok (.iadd, 1) := by decide +kernel
theorem dl_642 : decode code 642 = .ok (.iaload, 1) := by decide +kernel
theorem dl_643 : decode code 643 = .ok (.invokevirtual 70, 3) := by decide +kernel
theorem dl_646 : decode code 646 = .ok (.aload_n 2, 1) := by decide +kernel
theorem dl_647 : decode code 647 = .ok (.aload_n 0, 1) := by decide +kernel
theorem dl_648 : decode code 648 = .ok (.iload_n 3, 1) := by decide +kernel
theorem dl_649 : decode code 649 = .ok (.iconst 1, 1) := by decide +kernel
theorem dl_650 : decode code 650 = .ok (.iadd, 1) := by decide +kernel
theorem dl_651 : decode code 651 = .ok (.iaload, 1) := by decide +kernel
theorem dl_652 : decode code 652 = .ok (.invokevirtual 73, 3) := by decide +kernel
theorem dl_655 : decode code 655 = .ok (.if_icmp .eq 703, 3) := by decide +kernel
theorem dl_658 : decode code 658 = .ok (.iconst 0, 1) := by decide +kernel
theorem dl_659 : decode code 659 = .ok (.ireturn, 1) := by decide +kernel
theorem dl_660 : decode code 660 = .ok (.aload_n 1, 1) := by decide +kernel
theorem dl_661 : decode code 661 = .ok (.aload_n 0, 1) := by decide +kernel
theorem dl_662 : decode code 662 = .ok (.iload_n 3, 1) := by decide +kernel
theorem dl_663 : decode code 663 = .ok (.iconst 1, 1) := by decide +kernel
theorem dl_664 : decode code 664 = .ok (.iadd, 1) := by decide +kernel
theorem dl_665 : decode code 665 = .ok (.iaload, 1) := by decide +kernel
theorem dl_666 : decode code 666 = .ok (.aload_n 0, 1) := by decide +kernel
theorem dl_667 : decode code 667 = .ok (.iload_n 3, 1) := by decide +kernel
theorem dl_668 : decode code 668 = .ok (.iconst 2, 1) := by decide +kernel
theorem dl_669 : decode code 669 = .ok (.iadd, 1) := by decide +kernel
theorem dl_670 : decode code 670 = .ok (.iaload, 1) := by decide +kernel
theorem dl_671 : decode code 671 = .ok (.aload_n 0, 1) := by decide +kernel
theorem dl_672 : decode code 672 = .ok (.iload_n 3, 1) := by decide +kernel
theorem dl_673 : decode code 673 = .ok (.iconst 3, 1) := by decide +kernel
theorem dl_674 : decode code 674 = .ok (.iadd, 1) := by decide +kernel
theorem dl_675 : decode code 675 = .ok (.iaload, 1) := by decide +kernel
theorem dl_676 : decode code 676 = .ok (.invokevirtual 74, 3) := by decide +kernel
theorem dl_679 : decode code 679 = .ok (.aload_n 2, 1) := by decide +kernel
theorem dl_680 : decode code 680 = .ok (.aload_n 0, 1) := by decide +kernel
theorem dl_681 : decode code 681 = .ok (.iload_n 3, 1) := by decide +kernel
theorem dl_682 : decode code 682 = .ok (.iconst 1, 1) := by decide +kernel
theorem dl_683 : decode code 683 = .ok (.iadd, 1) := by decide +kernel
theorem dl_684 : decode code 684 = .ok (.iaload, 1) := by decide +kernel
theorem dl_685 : decode code 685 = .ok (.aload_n 0, 1) := by decide +kernel
theorem dl_686 : decode code 686 = .ok (.iload_n 3, 1) := by decide +kernel
theorem dl_687 : decode code 687 = .ok (.iconst 2, 1) := by decide +kernel
theorem dl_688 : decode code 688 = .ok (.iadd, 1) := by decide +kernel
theorem dl_689 : decode code 689 = .ok (.iaload, 1) := by decide +kernel
theorem dl_690 : decode code 690 = .ok (.aload_n 0, 1) := by decide +kernel
theorem dl_691 : decode code 691 = .ok (.iload_n 3, 1) := by decide +kernel
theorem dl_692 : decode code 692 = .ok (.iconst 3, 1) := by decide +kernel
theorem dl_693 : decode code 693 = .ok (.iadd, 1) := by decide +kernel
theorem dl_694 : decode code 694 = .ok (.iaload, 1) := by decide +kernel
theorem dl_695 : decode code 695 = .ok (.invokevirtual 77, 3) := by decide +kernel
theorem dl_698 : decode code 698 = .ok (.if_icmp .eq 660, 3) := by decide +kernel
theorem dl_701 : decode code 701 = .ok (.iconst 0, 1) := by decide +kernel
theorem dl_702 : decode code 702 = .ok (.ireturn, 1) := by decide +kernel
theorem dl_703 : decode code 703 = .ok (.aload_n 1, 1) := by decide +kernel
theorem dl_704 : decode code 704 = .ok (.aload_n 0, 1) := by decide +kernel
theorem dl_705 : decode code 705 = .ok (.iload_n 3, 1) := by decide +kernel
theorem dl_706 : decode code 706 = .ok (.iconst 1, 1) := by decide +kernel
theorem dl_707 : decode code 707 = .ok (.iadd, 1) := by decide +kernel
theorem dl_708 : decode code 708 = .ok (.iaload, 1) := by decide +kernel
theorem dl_709 : decode code 709 = .ok (.aload_n 0, 1) := by decide +kernel
theorem dl_710 : decode code 710 = .ok (.iload_n 3, 1) := by decide +kernel
theorem dl_711 : decode code 711 = .ok (.iconst 2, 1) := by decide +kernel
theorem dl_712 : decode code 712 = .ok (.iadd, 1) := by decide +kernel
theorem dl_713 : decode code 713 = .ok (.iaload, 1) := by decide +kernel
theorem dl_714 : decode code 714 = .ok (.invokevirtual 78, 3) := by decide +kernel
theorem dl_717 : decode code 717 = .ok (.aload_n 2, 1) := by decide +kernel
theorem dl_718 : decode code 718 = .ok (.aload_n 0, 1) := by decide +kernel
theorem dl_719 : decode code 719 = .ok (.iload_n 3, 1) := by decide +kernel
theorem dl_720 : decode code 720 = .ok (.iconst 1, 1) := by decide +kernel
theorem dl_721 : decode code 721 = .ok (.iadd, 1) := by decide +kernel
theorem dl_722 : decode code 722 = .ok (.iaload, 1) := by decide +kernel
theorem dl_723 : decode code 723 = .ok (.aload_n 0, 1) := by decide +kernel
theorem dl_724 : decode code 724 = .ok (.iload_n 3, 1) := by decide +kernel
theorem dl_725 : decode code 725 = .ok (.iconst 2, 1) := by decide +kernel
theorem dl_726 : decode code 726 = .ok (.iadd, 1) := by decide +kernel
theorem dl_727 : decode code 727 = .ok (.iaload, 1) := by decide +kernel
theorem dl_728 : decode code 728 = .ok (.invokevirtual 81, 3) := by decide +kernel
theorem dl_731 : decode code 731 = .ok (.if_icmp .eq 627, 3) := by decide +kernel
theorem dl_734 : decode code 734 = .ok (.iconst 0, 1) := by decide +kernel
theorem dl_735 : decode code 735 = .ok (.ireturn, 1) := by decide +kernel
theorem dl_736 : decode code 736 = .ok (.aload_n 1, 1) := by decide +kernel
theorem dl_737 : decode code 737 = .ok (.invokevirtual 82, 3) := by decide +kernel
theorem dl_740 : decode code 740 = .ok (.aload_n 2, 1) := by decide +kernel
theorem dl_741 : decode code 741 = .ok (.invokevirtual 85, 3) := by decide +kernel
theorem dl_744 : decode code 744 = .ok (.if_icmp .eq 614, 3) := by decide +kernel
theorem dl_747 : decode code 747 = .ok (.iconst 0, 1) := by decide +kernel
theorem dl_748 : decode code 748 = .ok (.ireturn, 1) := by decide +kernel
theorem dl_749 : decode code 749 = .ok (.aload_n 1, 1) := by decide +kernel
theorem dl_750 : decode code 750 = .ok (.aload_n 0, 1) := by decide +kernel
theorem dl_751 : decode code 751 = .ok (.iload_n 3, 1) := by decide +kernel
theorem dl_752 : decode code 752 = .ok (.iconst 1, 1) := by decide +kernel
theorem dl_753 : decode code 753 = .ok (.iadd, 1) := by decide +kernel
theorem dl_754 : decode code 754 = .ok (.iaload, 1) := by decide +kernel
theorem dl_755 : decode code 755 = .ok (.invokevirtual 86, 3) := by decide +kernel
theorem dl_758 : decode code 758 = .ok (.aload_n 2, 1) := by decide +kernel
theorem dl_759 : decode code 759 = .ok (.aload_n 0, 1) := by decide +kernel
theorem dl_760 : decode code 760 = .ok (.iload_n 3, 1) := by decide +kernel
theorem dl_761 : decode code 761 = .ok (.iconst 1, 1) := by decide +kernel
theorem dl_762 : decode code 762 = .ok (.iadd, 1) := by decide +kernel
theorem dl_763 : decode code 763 = .ok (.iaload, 1) := by decide +kernel
theorem dl_764 : decode code 764 = .ok (.invokevirtual 89, 3) := by decide +kernel
theorem dl_767 : decode code 767 = .ok (.if_icmp .eq 591, 3) := by decide +kernel
theorem dl_770 : decode code 770 = .ok (.iconst 0, 1) := by decide +kernel
theorem dl_771 : decode code 771 = .ok (.ireturn, 1) := by decide +kernel
theorem dl_772 : decode code 772 = .ok (.aload_n 1, 1) := by decide +kernel
theorem dl_773 : decode code 773 = .ok (.aload_n 0, 1) := by decide +kernel
theorem dl_774 : decode code 774 = .ok (.iload_n 3, 1) := by decide +kernel
theorem dl_775 : decode code 775 = .ok (.iconst 1, 1) := by decide +kernel
theorem dl_776 : decode code 776 = .ok (.iadd, 1) := by decide +kernel
theorem dl_777 : decode code 777 = .ok (.iaload, 1) := by decide +kernel
theorem dl_778 : decode code 778 = .ok (.invokevirtual 90, 3) := by decide +kernel
theorem dl_781 : decode code 781 = .ok (.aload_n 2, 1) := by decide +kernel
theorem dl_782 : decode code 782 = .ok (.aload_n 0, 1) := by decide +kernel
theorem dl_783 : decode code 783 = .ok (.iload_n 3, 1) := by decide +kernel
theorem dl_784 : decode code 784 = .ok (.iconst 1, 1) := by decide +kernel
theorem dl_785 : decode code 785 = .ok (.iadd, 1) := by decide +kernel
theorem dl_786 : decode code 786 = .ok (.iaload, 1) := by decide +kernel
theorem dl_787 : decode code 787 = .ok (.invokevirtual 93, 3) := by decide +kernel
theorem dl_790 : decode code 790 = .ok (.if_icmp .eq 568, 3) := by decide +kernel
theorem dl_793 : decode code 793 = .ok (.iconst 0, 1) := by decide +kernel
theorem dl_794 : decode code 794 = .ok (.ireturn, 1) := by decide +kernel
theorem dl_795 : decode code 795 = .ok (.aload_n 1, 1) := by decide +kernel
theorem dl_796 : decode code 796 = .ok (.aload_n 0, 1) := by decide +kernel
theorem dl_797 : decode code 797 = .ok (.iload_n 3, 1) := by decide +kernel
theorem dl_798 : decode code 798 = .ok (.iconst 1, 1) := by decide +kernel
theorem dl_799 : decode code 799 = .ok (.iadd, 1) := by decide +kernel
theorem dl_800 : decode code 800 = .ok (.iaload, 1) := by decide +kernel
theorem dl_801 : decode code 801 = .ok (.aload_n 0, 1) := by decide +kernel
theorem dl_802 : decode code 802 = .ok (.iload_n 3, 1) := by decide +kernel
theorem dl_803 : decode code 803 = .ok (.iconst 2, 1) := by decide +kernel
theorem dl_804 : decode code 804 = .ok (.iadd, 1) := by decide +kernel
theorem dl_805 : decode code 805 = .ok (.iaload, 1) := by decide +kernel
theorem dl_806 : decode code 806 = .ok (.aload_n 0, 1) := by decide +kernel
theorem dl_807 : decode code 807 = .ok (.iload_n 3, 1) := by decide +kernel
theorem dl_808 : decode code 808 = .ok (.iconst 3, 1) := by decide +kernel
theorem dl_809 : decode code 809 = .ok (.iadd, 1) := by decide +kernel
theorem dl_810 : decode code 810 = .ok (.iaload, 1) := by decide +kernel
theorem dl_811 : decode code 811 = .ok (.aload_n 0, 1) := by decide +kernel
theorem dl_812 : decode code 812 = .ok (.iload_n 3, 1) := by decide +kernel
theorem dl_813 : decode code 813 = .ok (.iconst 4, 1) := by decide +kernel
theorem dl_814 : decode code 814 = .ok (.iadd, 1) := by decide +kernel
theorem dl_815 : decode code 815 = .ok (.iaload, 1) := by decide +kernel
theorem dl_816 : decode code 816 = .ok (.invokevirtual 94, 3) := by decide +kernel
theorem dl_819 : decode code 819 = .ok (.aload_n 2, 1) := by decide +kernel
theorem dl_820 : decode code 820 = .ok (.aload_n 0, 1) := by decide +kernel
theorem dl_821 : decode code 821 = .ok (.iload_n 3, 1) := by decide +kernel
theorem dl_822 : decode code 822 = .ok (.iconst 1, 1) := by decide +kernel
theorem dl_823 : decode code 823 = .ok (.iadd, 1) := by decide +kernel
theorem dl_824 : decode code 824 = .ok (.iaload, 1) := by decide +kernel
theorem dl_825 : decode code 825 = .ok (.aload_n 0, 1) := by decide +kernel
theorem dl_826 : decode code 826 = .ok (.iload_n 3, 1) := by decide +kernel
theorem dl_827 : decode code 827 = .ok (.iconst 2, 1) := by decide +kernel
theorem dl_828 : decode code 828 = .ok (.iadd, 1) := by decide +kernel
theorem dl_829 : decode code 829 = .ok (.iaload, 1) := by decide +kernel
theorem dl_830 : decode code 830 = .ok (.aload_n 0, 1) := by decide +kernel
theorem dl_831 : decode code 831 = .ok (.iload_n 3, 1) := by decide +kernel
theorem dl_832 : decode code 832 = .ok (.iconst 3, 1) := by decide +kernel
theorem dl_833 : decode code 833 = .ok (.iadd, 1) := by decide +kernel
theorem dl_834 : decode code 834 = .ok (.iaload, 1) := by decide +kernel
theorem dl_835 : decode code 835 = .ok (.aload_n 0, 1) := by decide +kernel
theorem dl_836 : decode code 836 = .ok (.iload_n 3, 1) := by decide +kernel
theorem dl_837 : decode code 837 = .ok (.iconst 4, 1) := by decide +kernel
theorem dl_838 : decode code 838 = .ok (.iadd, 1) := by decide +kernel
theorem dl_839 : decode code 839 = .ok (.iaload, 1) := by decide +kernel
theorem dl_840 : decode code 840 = .ok (.invokevirtual 98, 3) := by decide +kernel
theorem dl_843 : decode code 843 = .ok (.if_icmp .eq 515, 3) := by decide +kernel
theorem dl_846 : decode code 846 = .ok (.iconst 0, 1) := by decide +kernel
theorem dl_847 : decode code 847 = .ok (.ireturn, 1) := by decide +kernel
theorem dl_848 : decode code 848 = .ok (.aload_n 1, 1) := by decide +kernel
theorem dl_849 : decode code 849 = .ok (.aload_n 0, 1) := by decide +kernel
theorem dl_850 : decode code 850 = .ok (.iload_n 3, 1) := by decide +kernel
theorem dl_851 : decode code 851 = .ok (.iconst 1, 1) := by decide +kernel
theorem dl_852 : decode code 852 = .ok (.iadd, 1) := by decide +kernel
theorem dl_853 : decode code 853 = .ok (.iaload, 1) := by decide +kernel
theorem dl_854 : decode code 854 = .ok (.aload_n 0, 1) := by decide +kernel
theorem dl_855 : decode code 855 = .ok (.iload_n 3, 1) := by decide +kernel
theorem dl_856 : decode code 856 = .ok (.iconst 2, 1) := by decide +kernel
theorem dl_857 : decode code 857 = .ok (.iadd, 1) := by decide +kernel
theorem dl_858 : decode code 858 = .ok (.iaload, 1) := by decide +kernel
theorem dl_859 : decode code 859 = .ok (.aload_n 0, 1) := by decide +kernel
theorem dl_860 : decode code 860 = .ok (.iload_n 3, 1) := by decide +kernel
theorem dl_861 : decode code 861 = .ok (.iconst 3, 1) := by decide +kernel
theorem dl_862 : decode code 862 = .ok (.iadd, 1) := by decide +kernel
theorem dl_863 : decode code 863 = .ok (.iaload, 1) := by decide +kernel
theorem dl_864 : decode code 864 = .ok (.aload_n 0, 1) := by decide +kernel
theorem dl_865 : decode code 865 = .ok (.iload_n 3, 1) := by decide +kernel
theorem dl_866 : decode code 866 = .ok (.iconst 4, 1) := by decide +kernel
theorem dl_867 : decode code 867 = .ok (.iadd, 1) := by decide +kernel
theorem dl_868 : decode code 868 = .ok (.iaload, 1) := by decide +kernel
theorem dl_869 : decode code 869 = .ok (.aload_n 0, 1) := by decide +kernel
theorem dl_870 : decode code 870 = .ok (.iload_n 3, 1) := by decide +kernel
theorem dl_871 : decode code 871 = .ok (.iconst 5, 1) := by decide +kernel
theorem dl_872 : decode code 872 = .ok (.iadd, 1) := by decide +kernel
theorem dl_873 : decode code 873 = .ok (.iaload, 1) := by decide +kernel
theorem dl_874 : decode code 874 = .ok (.invokevirtual 99, 3) := by decide +kernel
theorem dl_877 : decode code 877 = .ok (.aload_n 2, 1) := by decide +kernel
theorem dl_878 : decode code 878 = .ok (.aload_n 0, 1) := by decide +kernel
theorem dl_879 : decode code 879 = .ok (.iload_n 3, 1) := by decide +kernel
theorem dl_880 : decode code 880 = .ok (.iconst 1, 1) := by decide +kernel
theorem dl_881 : decode code 881 = .ok (.iadd, 1) := by decide +kernel
theorem dl_882 : decode code 882 = .ok (.iaload, 1) := by decide +kernel
theorem dl_883 : decode code 883 = .ok (.aload_n 0, 1) := by decide +kernel
theorem dl_884 : decode code 884 = .ok (.iload_n 3, 1) := by decide +kernel
theorem dl_885 : decode code 885 = .ok (.iconst 2, 1) := by decide +kernel
theorem dl_886 : decode code 886 = .ok (.iadd, 1) := by decide +kernel
theorem dl_887 : decode code 887 = .ok (.iaload, 1) := by decide +kernel
theorem dl_888 : decode code 888 = .ok (.aload_n 0, 1) := by decide +kernel
theorem dl_889 : decode code 889 = .ok (.iload_n 3, 1) := by decide +kernel
theorem dl_890 : decode code 890 = .ok (.iconst 3, 1) := by decide +kernel
theorem dl_891 : decode code 891 = .ok (.iadd, 1) := by decide +kernel
theorem dl_892 : decode code 892 = .ok (.iaload, 1) := by decide +kernel
theorem dl_893 : decode code 893 = .ok (.aload_n 0, 1) := by decide +kernel
theorem dl_894 : decode code 894 = .ok (.iload_n 3, 1) := by decide +kernel
theorem dl_895 : decode code 895 = .ok (.iconst 4, 1) := by decide +kernel
theorem dl_896 : decode code 896 = .ok (.iadd, 1) := by decide +kernel
theorem dl_897 : decode code 897 = .ok (.iaload, 1) := by decide +kernel
theorem dl_898 : decode code 898 = .ok (.aload_n 0, 1) := by decide +kernel
theorem dl_899 : decode code 899 = .ok (.iload_n 3, 1) := by decide +kernel
theorem dl_900 : decode code 900 = .ok (.iconst 5, 1) := by decide +kernel
theorem dl_901 : decode code 901 = .ok (.iadd, 1) := by decide +kernel
theorem dl_902 : decode code 902 = .ok (.iaload, 1) := by decide +kernel
theorem dl_903 : decode code 903 = .ok (.invokevirtual 102, 3) := by decide +kernel
theorem dl_906 : decode code 906 = .ok (.if_icmp .eq 452, 3) := by decide +kernel
theorem dl_909 : decode code 909 = .ok (.iconst 0, 1) := by decide +kernel
theorem dl_910 : decode code 910 = .ok (.ireturn, 1) := by decide +kernel
theorem dl_911 : decode code 911 = .ok (.aload_n 1, 1) := by decide +kernel
theorem dl_912 : decode code 912 = .ok (.aload_n 0, 1) := by decide +kernel
theorem dl_913 : decode code 913 = .ok (.iload_n 3, 1) := by decide +kernel
theorem dl_914 : decode code 914 = .ok (.iconst 1, 1) := by decide +kernel
theorem dl_915 : decode code 915 = .ok (.iadd, 1) := by decide +kernel
theorem dl_916 : decode code 916 = .ok (.iaload, 1) := by decide +kernel
theorem dl_917 : decode code 917 = .ok (.aload_n 0, 1) := by decide +kernel
theorem dl_918 : decode code 918 = .ok (.iload_n 3, 1) := by decide +kernel
theorem dl_919 : decode code 919 = .ok (.iconst 2, 1) := by decide +kernel
theorem dl_920 : decode code 920 = .ok (.iadd, 1) := by decide +kernel
theorem dl_921 : decode code 921 = .ok (.iaload, 1) := by decide +kernel
theorem dl_922 : decode code 922 = .ok (.invokevirtual 103, 3) := by decide +kernel
theorem dl_925 : decode code 925 = .ok (.aload_n 2, 1) := by decide +kernel
theorem dl_926 : decode code 926 = .ok (.aload_n 0, 1) := by decide +kernel
theorem dl_927 : decode code 927 = .ok (.iload_n 3, 1) := by decide +kernel
theorem dl_928 : decode code 928 = .ok (.iconst 1, 1) := by decide +kernel
theorem dl_929 : decode code 929 = .ok (.iadd, 1) := by decide +kernel
theorem dl_930 : decode code 930 = .ok (.iaload, 1) := by decide +kernel
theorem dl_931 : decode code 931 = .ok (.aload_n 0, 1) := by decide +kernel
theorem dl_932 : decode code 932 = .ok (.iload_n 3, 1) := by decide +kernel
theorem dl_933 : decode code 933 = .ok (.iconst 2, 1) := by decide +kernel
theorem dl_934 : decode code 934 = .ok (.iadd, 1) := by decide +kernel
theorem dl_935 : decode code 935 = .ok (.iaload, 1) := by decide +kernel
theorem dl_936 : decode code 936 = .ok (.invokevirtual 106, 3) := by decide +kernel
theorem dl_939 : decode code 939 = .ok (.if_icmp .eq 419, 3) := by decide +kernel
theorem dl_942 : decode code 942 = .ok (.iconst 0, 1) := by decide +kernel
theorem dl_943 : decode code 943 = .ok (.ireturn, 1) := by decide +kernel
theorem dl_944 : decode code 944 = .ok (.aload_n 1, 1) := by decide +kernel
theorem dl_945 : decode code 945 = .ok (.aload_n 0, 1) := by decide +kernel
theorem dl_946 : decode code 946 = .ok (.iload_n 3, 1) := by decide +kernel
theorem dl_947 : decode code 947 = .ok (.iconst 1, 1) := by decide +kernel
theorem dl_948 : decode code 948 = .ok (.iadd, 1) := by decide +kernel
theorem dl_949 : decode code 949 = .ok (.iaload, 1) := by decide +kernel
theorem dl_950 : decode code 950 = .ok (.aload_n 0, 1) := by decide +kernel
theorem dl_951 : decode code 951 = .ok (.iload_n 3, 1) := by decide +kernel
theorem dl_952 : decode code 952 = .ok (.iconst 2, 1) := by decide +kernel
theorem dl_953 : decode code 953 = .ok (.iadd, 1) := by decide +kernel
theorem dl_954 : decode code 954 = .ok (.iaload, 1) := by decide +kernel
theorem dl_955 : decode code 955 = .ok (.invokevirtual 107, 3) := by decide +kernel
theorem dl_958 : decode code 958 = .ok (.aload_n 2, 1) := by decide +kernel
theorem dl_959 : decode code 959 = .ok (.aload_n 0, 1) := by decide +kernel
theorem dl_960 : decode code 960 = .ok (.iload_n 3, 1) := by decide +kernel
theorem dl_961 : decode code 961 = .ok (.iconst 1, 1) := by decide +kernel
theorem dl_962 : decode code 962 = .ok (.iadd, 1) := by decide +kernel
theorem dl_963 : decode code 963 = .ok (.iaload, 1) := by decide +kernel
theorem dl_964 : decode code 964 = .ok (.aload_n 0, 1) := by decide +kernel
theorem dl_965 : decode code 965 = .ok (.iload_n 3, 1) := by decide +kernel
theorem dl_966 : decode code 966 = .ok (.iconst 2, 1) := by decide +kernel
theorem dl_967 : decode code 967 = .ok (.iadd, 1) := by decide +kernel
theorem dl_968 : decode code 968 = .ok (.iaload, 1) := by decide +kernel
theorem dl_969 : decode code 969 = .ok (.invokevirtual 110, 3) := by decide +kernel
theorem dl_972 : decode code 972 = .ok (.if_icmp .eq 386, 3) := by decide +kernel
theorem dl_975 : decode code 975 = .ok (.iconst 0, 1) := by decide +kernel
theorem dl_976 : decode code 976 = .ok (.ireturn, 1) := by decide +kernel
theorem dl_977 : decode code 977 = .ok (.aload_n 1, 1) := by decide +kernel
theorem dl_978 : decode code 978 = .ok (.aload_n 0, 1) := by decide +kernel
theorem dl_979 : decode code 979 = .ok (.iload_n 3, 1) := by decide +kernel
theorem dl_980 : decode code 980 = .ok (.iconst 1, 1) := by decide +kernel
theorem dl_981 : decode code 981 = .ok (.iadd, 1) := by decide +kernel
theorem dl_982 : decode code 982 = .ok (.iaload, 1) := by decide +kernel
theorem dl_983 : decode code 983 = .ok (.invokevirtual 111, 3) := by decide +kernel
theorem dl_986 : decode code 986 = .ok (.aload_n 2, 1) := by decide +kernel
theorem dl_987 : decode code 987 = .ok (.aload_n 0, 1) := by decide +kernel
theorem dl_988 : decode code 988 = .ok (.iload_n 3, 1) := by decide +kernel
theorem dl_989 : decode code 989 = .ok (.iconst 1, 1) := by decide +kernel
theorem dl_990 : decode code 990 = .ok (.iadd, 1) := by decide +kernel
theorem dl_991 : decode code 991 = .ok (.iaload, 1) := by decide +kernel
theorem dl_992 : decode code 992 = .ok (.invokevirtual 114, 3) := by decide +kernel
theorem dl_995 : decode code 995 = .ok (.if_icmp .eq 363, 3) := by decide +kernel
theorem dl_998 : decode code 998 = .ok (.iconst 0, 1) := by decide +kernel
theorem dl_999 : decode code 999 = .ok (.ireturn, 1) := by decide +kernel
theorem dl_1000 : decode code 1000 = .ok (.aload_n 1, 1) := by decide +kernel
theorem dl_1001 : decode code 1001 = .ok (.invokevirtual 115, 3) := by decide +kernel
theorem dl_1004 : decode code 1004 = .ok (.aload_n 2, 1) := by decide +kernel
theorem dl_1005 : decode code 1005 = .ok (.invokevirtual 118, 3) := by decide +kernel
theorem dl_1008 : decode code 1008 = .ok (.if_icmp .eq 350, 3) := by decide +kernel
theorem dl_1011 : decode code 1011 = .ok (.iconst 0, 1) := by decide +kernel
theorem dl_1012 : decode code 1012 = .ok (.ireturn, 1) := by decide +kernel
theorem dl_1013 : decode code 1013 = .ok (.aload_n 1, 1) := by decide +kernel
theorem dl_1014 : decode code 1014 = .ok (.aload_n 0, 1) := by decide +kernel
theorem dl_1015 : decode code 1015 = .ok (.iload_n 3, 1) := by decide +kernel
theorem dl_1016 : decode code 1016 = .ok (.iconst 1, 1) := by decide +kernel
theorem dl_1017 : decode code 1017 = .ok (.iadd, 1) := by decide +kernel
theorem dl_1018 : decode code 1018 = .ok (.iaload, 1) := by decide +kernel
theorem dl_1019 : decode code 1019 = .ok (.aload_n 0, 1) := by decide +kernel
theorem dl_1020 : decode code 1020 = .ok (.iload_n 3, 1) := by decide +kernel
theorem dl_1021 : decode code 1021 = .ok (.iconst 2, 1) := by decide +kernel
theorem dl_1022 : decode code 1022 = .ok (.iadd, 1) := by decide +kernel
theorem dl_1023 : decode code 1023 = .ok (.iaload, 1) := by decide +kernel
theorem dl_1024 : decode code 1024 = .ok (.invokevirtual 119, 3) := by decide +kernel
theorem dl_1027 : decode code 1027 = .ok (.aload_n 2, 1) := by decide +kernel
theorem dl_1028 : decode code 1028 = .ok (.aload_n 0, 1) := by decide +kernel
theorem dl_1029 : decode code 1029 = .ok (.iload_n 3, 1) := by decide +kernel
theorem dl_1030 : decode code 1030 = .ok (.iconst 1, 1) := by decide +kernel
theorem dl_1031 : decode code 1031 = .ok (.iadd, 1) := by decide +kernel
theorem dl_1032 : decode code 1032 = .ok (.iaload, 1) := by decide +kernel
theorem dl_1033 : decode code 1033 = .ok (.aload_n 0, 1) := by decide +kernel
theorem dl_1034 : decode code 1034 = .ok (.iload_n 3, 1) := by decide +kernel
theorem dl_1035 : decode code 1035 = .ok (.iconst 2, 1) := by decide +kernel
theorem dl_1036 : decode code 1036 = .ok (.iadd, 1) := by decide +kernel
theorem dl_1037 : decode code 1037 = .ok (.iaload, 1) := by decide +kernel
theorem dl_1038 : decode code 1038 = .ok (.invokevirtual 122, 3) := by decide +kernel
theorem dl_1041 : decode code 1041 = .ok (.if_icmp .eq 317, 3) := by decide +kernel
theorem dl_1044 : decode code 1044 = .ok (.iconst 0, 1) := by decide +kernel
theorem dl_1045 : decode code 1045 = .ok (.ireturn, 1) := by decide +kernel
theorem dl_1046 : decode code 1046 = .ok (.aload_n 1, 1) := by decide +kernel
theorem dl_1047 : decode code 1047 = .ok (.aload_n 0, 1) := by decide +kernel
theorem dl_1048 : decode code 1048 = .ok (.iload_n 3, 1) := by decide +kernel
theorem dl_1049 : decode code 1049 = .ok (.iconst 1, 1) := by decide +kernel
theorem dl_1050 : decode code 1050 = .ok (.iadd, 1) := by decide +kernel
theorem dl_1051 : decode code 1051 = .ok (.iaload, 1) := by decide +kernel
theorem dl_1052 : decode code 1052 = .ok (.aload_n 0, 1) := by decide +kernel
theorem dl_1053 : decode code 1053 = .ok (.iload_n 3, 1) := by decide +kernel
theorem dl_1054 : decode code 1054 = .ok (.iconst 2, 1) := by decide +kernel
theorem dl_1055 : decode code 1055 = .ok (.iadd, 1) := by decide +kernel
theorem dl_1056 : decode code 1056 = .ok (.iaload, 1) := by decide +kernel
theorem dl_1057 : decode code 1057 = .ok (.invokevirtual 123, 3) := by decide +kernel
theorem dl_1060 : decode code 1060 = .ok (.aload_n 2, 1) := by decide +kernel
theorem dl_1061 : decode code 1061 = .ok (.aload_n 0, 1) := by decide +kernel
theorem dl_1062 : decode code 1062 = .ok (.iload_n 3, 1) := by decide +kernel
theorem dl_1063 : decode code 1063 = .ok (.iconst 1, 1) := by decide +kernel
theorem dl_1064 : decode code 1064 = .ok (.iadd, 1) := by decide +kernel
theorem dl_1065 : decode code 1065 = .ok (.iaload, 1) := by decide +kernel
theorem dl_1066 : decode code 1066 = .ok (.aload_n 0, 1) := by decide +kernel
theorem dl_1067 : decode code 1067 = .ok (.iload_n 3, 1) := by decide +kernel
theorem dl_1068 : decode code 1068 = .ok (.iconst 2, 1) := by decide +kernel
theorem dl_1069 : decode code 1069 = .ok (.iadd, 1) := by decide +kernel
theorem dl_1070 : decode code 1070 = .ok (.iaload, 1) := by decide +kernel
theorem dl_1071 : decode code 1071 = .ok (.invokevirtual 126, 3) := by decide +kernel
theorem dl_1074 : decode code 1074 = .ok (.if_icmp .eq 284, 3) := by decide +kernel
theorem dl_1077 : decode code 1077 = .ok (.iconst 0, 1) := by decide +kernel
theorem dl_1078 : decode code 1078 = .ok (.ireturn, 1) := by decide +kernel
theorem dl_1079 : decode code 1079 = .ok (.aload_n 1, 1) := by decide +kernel
theorem dl_1080 : decode code 1080 = .ok (.invokevirtual 127, 3) := by decide +kernel
theorem dl_1083 : decode code 1083 = .ok (.aload_n 2, 1) := by decide +kernel
theorem dl_1084 : decode code 1084 = .ok (.invokevirtual 130, 3) := by decide +kernel
theorem dl_1087 : decode code 1087 = .ok (.if_icmp .eq 271, 3) := by decide +kernel
theorem dl_1090 : decode code 1090 = .ok (.iconst 0, 1) := by decide +kernel
theorem dl_1091 : decode code 1091 = .ok (.ireturn, 1) := by decide +kernel
theorem dl_1092 : decode code 1092 = .ok (.aload_n 1, 1) := by decide +kernel
theorem dl_1093 : decode code 1093 = .ok (.aload_n 0, 1) := by decide +kernel
theorem dl_1094 : decode code 1094 = .ok (.iload_n 3, 1) := by decide +kernel
theorem dl_1095 : decode code 1095 = .ok (.iconst 1, 1) := by decide +kernel
theorem dl_1096 : decode code 1096 = .ok (.iadd, 1) := by decide +kernel
theorem dl_1097 : decode code 1097 = .ok (.iaload, 1) := by decide +kernel
theorem dl_1098 : decode code 1098 = .ok (.aload_n 0, 1) := by decide +kernel
theorem dl_1099 : decode code 1099 = .ok (.iload_n 3, 1) := by decide +kernel
theorem dl_1100 : decode code 1100 = .ok (.iconst 2, 1) := by decide +kernel
theorem dl_1101 : decode code 1101 = .ok (.iadd, 1) := by decide +kernel
theorem dl_1102 : decode code 1102 = .ok (.iaload, 1) := by decide +kernel
theorem dl_1103 : decode code 1103 = .ok (.invokevirtual 131, 3) := by decide +kernel
theorem dl_1106 : decode code 1106 = .ok (.aload_n 2, 1) := by decide +kernel
theorem dl_1107 : decode code 1107 = .ok (.aload_n 0, 1) := by decide +kernel
theorem dl_1108 : decode code 1108 = .ok (.iload_n 3, 1) := by decide +kernel
theorem dl_1109 : decode code 1109 = .ok (.iconst 1, 1) := by decide +kernel
theorem dl_1110 : decode code 1110 = .ok (.iadd, 1) := by decide +kernel
theorem dl_1111 : decode code 1111 = .ok (.iaload, 1) := by decide +kernel
theorem dl_1112 : decode code 1112 = .ok (.aload_n 0, 1) := by decide +kernel
theorem dl_1113 : decode code 1113 = .ok (.iload_n 3, 1) := by decide +kernel
theorem dl_1114 : decode code 1114 = .ok (.iconst 2, 1) := by decide +kernel
theorem dl_1115 : decode code 1115 = .ok (.iadd, 1) := by decide +kernel
theorem dl_1116 : decode code 1116 = .ok (.iaload, 1) := by decide +kernel
theorem dl_1117 : decode code 1117 = .ok (.invokevirtual 134, 3) := by decide +kernel
theorem dl_1120 : decode code 1120 = .ok (.if_icmp .eq 238, 3) := by decide +kernel
theorem dl_1123 : decode code 1123 = .ok (.iconst 0, 1) := by decide +kernel
theorem dl_1124 : decode code 1124 = .ok (.ireturn, 1) := by decide +kernel
theorem dl_1125 : decode code 1125 = .ok (.aload_n 1, 1) := by decide +kernel
theorem dl_1126 : decode code 1126 = .ok (.invokevirtual 135, 3) := by decide +kernel
theorem dl_1129 : decode code 1129 = .ok (.aload_n 2, 1) := by decide +kernel
theorem dl_1130 : decode code 1130 = .ok (.invokevirtual 138, 3) := by decide +kernel
theorem dl_1133 : decode code 1133 = .ok (.if_icmp .eq 225, 3) := by decide +kernel
theorem dl_1136 : decode code 1136 = .ok (.iconst 0, 1) := by decide +kernel
theorem dl_1137 : decode code 1137 = .ok (.ireturn, 1) := by decide +kernel
theorem dl_1138 : decode code 1138 = .ok (.aload_n 1, 1) := by decide +kernel
theorem dl_1139 : decode code 1139 = .ok (.invokevirtual 139, 3) := by decide +kernel
theorem dl_1142 : decode code 1142 = .ok (.aload_n 2, 1) := by decide +kernel
theorem dl_1143 : decode code 1143 = .ok (.invokevirtual 142, 3) := by decide +kernel
theorem dl_1146 : decode code 1146 = .ok (.if_icmp .eq 212, 3) := by decide +kernel
theorem dl_1149 : decode code 1149 = .ok (.iconst 0, 1) := by decide +kernel
theorem dl_1150 : decode code 1150 = .ok (.ireturn, 1) := by decide +kernel
theorem dl_1151 : decode code 1151 = .ok (.aload_n 1, 1) := by decide +kernel
theorem dl_1152 : decode code 1152 = .ok (.aload_n 0, 1) := by decide +kernel
theorem dl_1153 : decode code 1153 = .ok (.iload_n 3, 1) := by decide +kernel
theorem dl_1154 : decode code 1154 = .ok (.iconst 1, 1) := by decide +kernel
theorem dl_1155 : decode code 1155 = .ok (.iadd, 1) := by decide +kernel
theorem dl_1156 : decode code 1156 = .ok (.iaload, 1) := by decide +kernel
theorem dl_1157 : decode code 1157 = .ok (.invokevirtual 143, 3) := by decide +kernel
theorem dl_1160 : decode code 1160 = .ok (.aload_n 2, 1) := by decide +kernel
theorem dl_1161 : decode code 1161 = .ok (.aload_n 0, 1) := by decide +kernel
theorem dl_1162 : decode code 1162 = .ok (.iload_n 3, 1) := by decide +kernel
theorem dl_1163 : decode code 1163 = .ok (.iconst 1, 1) := by decide +kernel
theorem dl_1164 : decode code 1164 = .ok (.iadd, 1) := by decide +kernel
theorem dl_1165 : decode code 1165 = .ok (.iaload, 1) := by decide +kernel
theorem dl_1166 : decode code 1166 = .ok (.invokevirtual 146, 3) := by decide +kernel
theorem dl_1169 : decode code 1169 = .ok (.if_icmp .eq 189, 3) := by decide +kernel
theorem dl_1172 : decode code 1172 = .ok (.iconst 0, 1) := by decide +kernel
theorem dl_1173 : decode code 1173 = .ok (.ireturn, 1) := by decide +kernel
theorem dl_1174 : decode code 1174 = .ok (.aload_n 1, 1) := by decide +kernel
theorem dl_1175 : decode code 1175 = .ok (.aload_n 0, 1) := by decide +kernel
theorem dl_1176 : decode code 1176 = .ok (.iload_n 3, 1) := by decide +kernel
theorem dl_1177 : decode code 1177 = .ok (.iconst 1, 1) := by decide +kernel
theorem dl_1178 : decode code 1178 = .ok (.iadd, 1) := by decide +kernel
theorem dl_1179 : decode code 1179 = .ok (.iaload, 1) := by decide +kernel
theorem dl_1180 : decode code 1180 = .ok (.aload_n 0, 1) := by decide +kernel
theorem dl_1181 : decode code 1181 = .ok (.iload_n 3, 1) := by decide +kernel
theorem dl_1182 : decode code 1182 = .ok (.iconst 2, 1) := by decide +kernel
theorem dl_1183 : decode code 1183 = .ok (.iadd, 1) := by decide +kernel
theorem dl_1184 : decode code 1184 = .ok (.iaload, 1) := by decide +kernel
theorem dl_1185 : decode code 1185 = .ok (.invokevirtual 147, 3) := by decide +kernel
theorem dl_1188 : decode code 1188 = .ok (.aload_n 2, 1) := by decide +kernel
theorem dl_1189 : decode code 1189 = .ok (.aload_n 0, 1) := by decide +kernel
theorem dl_1190 : decode code 1190 = .ok (.iload_n 3, 1) := by decide +kernel
theorem dl_1191 : decode code 1191 = .ok (.iconst 1, 1) := by decide +kernel
theorem dl_1192 : decode code 1192 = .ok (.iadd, 1) := by decide +kernel
theorem dl_1193 : decode code 1193 = .ok (.iaload, 1) := by decide +kernel
theorem dl_1194 : decode code 1194 = .ok (.aload_n 0, 1) := by decide +kernel
theorem dl_1195 : decode code 1195 = .ok (.iload_n 3, 1) := by decide +kernel
theorem dl_1196 : decode code 1196 = .ok (.iconst 2, 1) := by decide +kernel
theorem dl_1197 : decode code 1197 = .ok (.iadd, 1) := by decide +kernel
theorem dl_1198 : decode code 1198 = .ok (.iaload, 1) := by decide +kernel
theorem dl_1199 : decode code 1199 = .ok (.invokevirtual 150, 3) := by decide +kernel
theorem dl_1202 : decode code 1202 = .ok (.if_icmp .eq 156, 3) := by decide +kernel
theorem dl_1205 : decode code 1205 = .ok (.iconst 0, 1) := by decide +kernel
theorem dl_1206 : decode code 1206 = .ok (.ireturn, 1) := by decide +kernel
theorem dl_1207 : decode code 1207 = .ok (.aload_n 1, 1) := by decide +kernel
theorem dl_1208 : decode code 1208 = .ok (.aload_n 0, 1) := by decide +kernel
theorem dl_1209 : decode code 1209 = .ok (.iload_n 3, 1) := by decide +kernel
theorem dl_1210 : decode code 1210 = .ok (.iconst 1, 1) := by decide +kernel
theorem dl_1211 : decode code 1211 = .ok (.iadd, 1) := by decide +kernel
theorem dl_1212 : decode code 1212 = .ok (.iaload, 1) := by decide +kernel
theorem dl_1213 : decode code 1213 = .ok (.invokevirtual 151, 3) := by decide +kernel
theorem dl_1216 : decode code 1216 = .ok (.aload_n 2, 1) := by decide +kernel
theorem dl_1217 : decode code 1217 = .ok (.aload_n 0, 1) := by decide +kernel
theorem dl_1218 : decode code 1218 = .ok (.iload_n 3, 1) := by decide +kernel
theorem dl_1219 : decode code 1219 = .ok (.iconst 1, 1) := by decide +kernel
theorem dl_1220 : decode code 1220 = .ok (.iadd, 1) := by decide +kernel
theorem dl_1221 : decode code 1221 = .ok (.iaload, 1) := by decide +kernel
theorem dl_1222 : decode code 1222 = .ok (.invokevirtual 154, 3) := by decide +kernel
theorem dl_1225 : decode code 1225 = .ok (.if_icmp .eq 133, 3) := by decide +kernel
theorem dl_1228 : decode code 1228 = .ok (.iconst 0, 1) := by decide +kernel
theorem dl_1229 : decode code 1229 = .ok (.ireturn, 1) := by decide +kernel
theorem dl_1230 : decode code 1230 = .ok (.aload_n 1, 1) := by decide +kernel
theorem dl_1231 : decode code 1231 = .ok (.invokevirtual 155, 3) := by decide +kernel
theorem dl_1234 : decode code 1234 = .ok (.aload_n 2, 1) := by decide +kernel
theorem dl_1235 : decode code 1235 = .ok (.invokevirtual 158, 3) := by decide +kernel
theorem dl_1238 : decode code 1238 = .ok (.if_icmp .eq 120, 3) := by decide +kernel
theorem dl_1241 : decode code 1241 = .ok (.iconst 0, 1) := by decide +kernel
theorem dl_1242 : decode code 1242 = .ok (.ireturn, 1) := by decide +kernel
theorem dl_1243 : decode code 1243 = .ok (.aload_n 1, 1) := by decide +kernel
theorem dl_1244 : decode code 1244 = .ok (.aload_n 0, 1) := by decide +kernel
theorem dl_1245 : decode code 1245 = .ok (.iload_n 3, 1) := by decide +kernel
theorem dl_1246 : decode code 1246 = .ok (.iconst 1, 1) := by decide +kernel
theorem dl_1247 : decode code 1247 = .ok (.iadd, 1) := by decide +kernel
theorem dl_1248 : decode code 1248 = .ok (.iaload, 1) := by decide +kernel
theorem dl_1249 : decode code 1249 = .ok (.invokevirtual 159, 3) := by decide +kernel
theorem dl_1252 : decode code 1252 = .ok (.aload_n 2, 1) := by decide +kernel
theorem dl_1253 : decode code 1253 = .ok (.aload_n 0, 1) := by decide +kernel
theorem dl_1254 : decode code 1254 = .ok (.iload_n 3, 1) := by decide +kernel
theorem dl_1255 : decode code 1255 = .ok (.iconst 1, 1) := by decide +kernel
theorem dl_1256 : decode code 1256 = .ok (.iadd, 1) := by decide +kernel
theorem dl_1257 : decode code 1257 = .ok (.iaload, 1) := by decide +kernel
theorem dl_1258 : decode code 1258 = .ok (.invokevirtual 162, 3) := by decide +kernel
theorem dl_1261 : decode code 1261 = .ok (.if_icmp .eq 97, 3) := by decide +kernel
theorem dl_1264 : decode code 1264 = .ok (.iconst 0, 1) := by decide +kernel
theorem dl_1265 : decode code 1265 = .ok (.ireturn, 1) := by decide +kernel
theorem dl_1266 : decode code 1266 = .ok (.aload_n 1, 1) := by decide +kernel
theorem dl_1267 : decode code 1267 = .ok (.aload_n 0, 1) := by decide +kernel
theorem dl_1268 : decode code 1268 = .ok (.iload_n 3, 1) := by decide +kernel
theorem dl_1269 : decode code 1269 = .ok (.iconst 1, 1) := by decide +kernel
theorem dl_1270 : decode code 1270 = .ok (.iadd, 1) := by decide +kernel
theorem dl_1271 : decode code 1271 = .ok (.iaload, 1) := by decide +kernel
theorem dl_1272 : decode code 1272 = .ok (.invokevirtual 163, 3) := by decide +kernel
theorem dl_1275 : decode code 1275 = .ok (.aload_n 2, 1) := by decide +kernel
theorem dl_1276 : decode code 1276 = .ok (.aload_n 0, 1) := by decide +kernel
theorem dl_1277 : decode code 1277 = .ok (.iload_n 3, 1) := by decide +kernel
theorem dl_1278 : decode code 1278 = .ok (.iconst 1, 1) := by decide +kernel
theorem dl_1279 : decode code 1279 = .ok (.iadd, 1) := by decide +kernel
theorem dl_1280 : decode code 1280 = .ok (.iaload, 1) := by decide +kernel
theorem dl_1281 : decode code 1281 = .ok (.invokevirtual 166, 3) := by decide +kernel
theorem dl_1284 : decode code 1284 = .ok (.if_icmp .eq 74, 3) := by decide +kernel
theorem dl_1287 : decode code 1287 = .ok (.iconst 0, 1) := by decide +kernel
theorem dl_1288 : decode code 1288 = .ok (.ireturn, 1) := by decide +kernel
theorem dl_1289 : decode code 1289 = .ok (.aload_n 1, 1) := by decide +kernel
theorem dl_1290 : decode code 1290 = .ok (.invokevirtual 167, 3) := by decide +kernel
theorem dl_1293 : decode code 1293 = .ok (.aload_n 2, 1) := by decide +kernel
theorem dl_1294 : decode code 1294 = .ok (.invokevirtual 170, 3) := by decide +kernel
theorem dl_1297 : decode code 1297 = .ok (.if_icmp .eq 61, 3) := by decide +kernel
theorem dl_1300 : decode code 1300 = .ok (.iconst 0, 1) := by decide +kernel
theorem dl_1301 : decode code 1301 = .ok (.ireturn, 1) := by decide +kernel
theorem dl_1302 : decode code 1302 = .ok (.aload_n 1, 1) := by decide +kernel
theorem dl_1303 : decode code 1303 = .ok (.aload_n 0, 1) := by decide +kernel
theorem dl_1304 : decode code 1304 = .ok (.iload_n 3, 1) := by decide +kernel
theorem dl_1305 : decode code 1305 = .ok (.iconst 1, 1) := by decide +kernel
theorem dl_1306 : decode code 1306 = .ok (.iadd, 1) := by decide +kernel
theorem dl_1307 : decode code 1307 = .ok (.iaload, 1) := by decide +kernel
theorem dl_1308 : decode code 1308 = .ok (.aload_n 0, 1) := by decide +kernel
theorem dl_1309 : decode code 1309 = .ok (.iload_n 3, 1) := by decide +kernel
theorem dl_1310 : decode code 1310 = .ok (.iconst 2, 1) := by decide +kernel
theorem dl_1311 : decode code 1311 = .ok (.iadd, 1) := by decide +kernel
theorem dl_1312 : decode code 1312 = .ok (.iaload, 1) := by decide +kernel
theorem dl_1313 : decode code 1313 = .ok (.invokevirtual 171, 3) := by decide +kernel
theorem dl_1316 : decode code 1316 = .ok (.aload_n 2, 1) := by decide +kernel
theorem dl_1317 : decode code 1317 = .ok (.aload_n 0, 1) := by decide +kernel
theorem dl_1318 : decode code 1318 = .ok (.iload_n 3, 1) := by decide +kernel
theorem dl_1319 : decode code 1319 = .ok (.iconst 1, 1) := by decide +kernel
theorem dl_1320 : decode code 1320 = .ok (.iadd, 1) := by decide +kernel
theorem dl_1321 : decode code 1321 = .ok (.iaload, 1) := by decide +kernel
theorem dl_1322 : decode code 1322 = .ok (.aload_n 0, 1) := by decide +kernel
theorem dl_1323 : decode code 1323 = .ok (.iload_n 3, 1) := by decide +kernel
theorem dl_1324 : decode code 1324 = .ok (.iconst 2, 1) := by decide +kernel
theorem dl_1325 : decode code 1325 = .ok (.iadd, 1) := by decide +kernel
theorem dl_1326 : decode code 1326 = .ok (.iaload, 1) := by decide +kernel
theorem dl_1327 : decode code 1327 = .ok (.invokevirtual 174, 3) := by decide +kernel
theorem dl_1330 : decode code 1330 = .ok (.if_icmp .eq 28, 3) := by decide +kernel
theorem dl_1333 : decode code 1333 = .ok (.iconst 0, 1) := by decide +kernel
theorem dl_1334 : decode code 1334 = .ok (.ireturn, 1) := by decide +kernel
theorem dl_1335 : decode code 1335 = .ok (.aload_n 1, 1) := by decide +kernel
theorem dl_1336 : decode code 1336 = .ok (.aload_n 0, 1) := by decide +kernel
theorem dl_1337 : decode code 1337 = .ok (.iload_n 3, 1) := by decide +kernel
theorem dl_1338 : decode code 1338 = .ok (.iconst 1, 1) := by decide +kernel
theorem dl_1339 : decode code 1339 = .ok (.iadd, 1) := by decide +kernel
theorem dl_1340 : decode code 1340 = .ok (.iaload, 1) := by decide +kernel
theorem dl_1341 : decode code 1341 = .ok (.invokevirtual 175, 3) := by decide +kernel
theorem dl_1344 : decode code 1344 = .ok (.aload_n 2, 1) := by decide +kernel
theorem dl_1345 : decode code 1345 = .ok (.aload_n 0, 1) := by decide +kernel
theorem dl_1346 : decode code 1346 = .ok (.iload_n 3, 1) := by decide +kernel
theorem dl_1347 : decode code 1347 = .ok (.iconst 1, 1) := by decide +kernel
theorem dl_1348 : decode code 1348 = .ok (.iadd, 1) := by decide +kernel
theorem dl_1349 : decode code 1349 = .ok (.iaload, 1) := by decide +kernel
theorem dl_1350 : decode code 1350 = .ok (.invokevirtual 178, 3) := by decide +kernel
theorem dl_1353 : decode code 1353 = .ok (.if_icmp .eq 5, 3) := by decide +kernel
theorem dl_1356 : decode code 1356 = .ok (.iconst 0, 1) := by decide +kernel
theorem dl_1357 : decode code 1357 = .ok (.ireturn, 1) := by decide +kernel
theorem dl_1358 : decode code 1358 = .ok (.iinc 3 6, 3) := by decide +kernel
theorem dl_1361 : decode code 1361 = .ok (.goto (-1343), 3) := by decide +kernel
theorem dl_1364 : decode code 1364 = .ok (.iconst 1, 1) := by decide +kernel
theorem dl_1365 : decode code 1365 = .ok (.ireturn, 1) := by decide +kernel
/-- a call, whatever the cells that were made so far -/
theorem q_cally {p : Program} {l : Launch} {e : Env} {R : Room} {s : State} {m : MethodId} {args : Array Value} {below : List Frame} {meth : Method} {c : Code} {D : va_G} {dom : List q_R} {ad : q_R → Nat} {cA : Nat → ClassId} {A A0 : Nat → Prop} {cells slots : Nat} {Q : State → Prop} {H : Heap} {locs : List Loc} {pc : Nat} {ls : Array Slot} {st0 rest : List Value} {a : Array Value} {res : q_O} (hr : va_Run p l e R s m args below meth c H locs cells slots 0 0 (F0 m pc ls st0) rest (q_Qc D dom ad cA A res a) A) (hS : va_S A0 s.heap H locs) (hA : ∀ q, A q → A0 q)
    (kk : ∀ (H1 : Heap) (locs1 : List Loc), va_P D vwCl (q_ws dom ad cA res.2) H1 → va_S A0 s.heap H1 locs1 → W p l e R s m args below meth c H1 locs1 cells slots Q (F0 m (pc + 3) ls ((res.1.map (q_v ad)).toList ++ rest))) : W p l e R s m args below meth c H locs cells slots Q (F0 m pc ls st0) := by
  intro T hT X
  obtain ⟨v, st₀, t, T', L, h0, X', hL, e1, e2, ⟨⟨hv, hp, hres⟩, hz, hk⟩, st⟩ := hr T hT X
  rw [h0] at hz hk
  have hv : v = res.1.map (q_v ad) := Outcome.returned.inj hv
  subst hv
  obtain ⟨t2, a1, b1⟩ := kk T'.heap (locs ++ L) (by rw [e1]; exact hp)
    ⟨Nat.le_trans hS.1 (by rw [e1]; exact hz), fun q h1 h2 => by rw [e1, hk q (Nat.lt_of_lt_of_le h1 hS.1) (fun z => h2 (hA q z))]; exact hS.2.1 q h1 h2, fun q hq => by
      rcases List.mem_append.mp hq with h | h
      · exact hS.2.2 q h
      · exact hA _ (hL q h)⟩ T' rfl X'
  exact ⟨t2, st t2 a1, b1⟩
/-- what the law's walk stands on, once both objects are made: the world is dom, at the addresses ad, all of it made since the law began -/
def lw_CX (p : Program) (l : Launch) (s : State) (m : MethodId) (meth : Method) (c : Code) (b L : Nat) (xs : Nat → Int32) (D : va_G) (dom : List q_R) (ad : q_R → Nat) (cA : Nat → ClassId) (tys : List (ClassId × FieldType)) (A : Nat → Prop) (X : State → Prop) (cells slots : Nat) : Prop :=
  lw_At p s m meth c b L xs ∧ L ≤ 3072 ∧ q_Cx dom ad cA tys A ∧ va_K D vwCl tys s ∧ q_XX ad A X ∧ X s ∧ q_EXT l D dom ad cA tys A X ∧ (∀ q, A q → s.heap.size ≤ q) ∧ (24, 6, 0) ∈ dom ∧ (30, 7, 0) ∈ dom ∧ cells ≤ 600000 ∧ slots ≤ 7302250
theorem lw_call {p : Program} {l : Launch} {e : Env} {s : State} {m : MethodId} {below : List Frame} {meth : Method} {c : Code} {b L : Nat} {xs : Nat → Int32} {D : va_G} {dom : List q_R} {ad : q_R → Nat} {cA : Nat → ClassId} {tys : List (ClassId × FieldType)} {A : Nat → Prop} {X : State → Prop} {cells slots : Nat} {Q : State → Prop} (C0 : lw_CX p l s m meth c b L xs D dom ad cA tys A X cells slots)
    {mm idx t k pc : Nat} {av : List q_V} {rest : List Value} {h : q_H} {res : q_O} {H : Heap} {locs : List Loc} {ls : Array Slot} (hlink : Cond.methodLink R_law idx (q_y mm) ∈ lw_tblG) (h1 : 1 ≤ mm) (h2 : mm < 310) (hvi : q_vi mm = 1) (hobj : (q_fl t).isEmpty = false) (hci : q_ci t = q_mc mm) (hr : (t, k, 0) ∈ dom) (hav : q_oks dom av) (hna : av.length = q_na mm) (hct : (rest.map fun v => v.category).sum ≤ 8)
    (hT : q_T 11 mm (.inr (.inr (t, k, 0)) :: av) h res) (hP : va_P D vwCl (q_ws dom ad cA h) H) (hS : va_S (fun q => s.heap.size ≤ q) s.heap H locs) (hls : ls.size = 4) (hdg : decode code pc = .ok (.invokevirtual idx, 3))
    (kk : ∀ (H1 : Heap) (locs1 : List Loc), va_P D vwCl (q_ws dom ad cA res.2) H1 → va_S (fun q => s.heap.size ≤ q) s.heap H1 locs1 → W p l e room_1 s m #[Value.ref b] below meth c H1 locs1 cells slots Q (F0 m (pc + 3) ls ((res.1.map (q_v ad)).toList ++ rest))) :
    W p l e room_1 s m #[Value.ref b] below meth c H locs cells slots Q (F0 m pc ls ((av.map (q_v ad)).reverse ++ .ref (ad (t, k, 0)) :: rest)) := by
  obtain ⟨⟨hx, hb, hrt, hml, hown, hts, hXs, hbl, hlocks, hgv⟩, hL, hC, hK, hX, hXX, hE, hA, -, -, hcs, hsl⟩ := C0
  obtain ⟨n0, hT⟩ := hT
  have hM := q_call_ok hC hX hE n0 11 mm _ h res (hT n0 (Nat.le_refl _)) (q_oks_c (Or.inl hr) hav) h1 h2
  obtain ⟨⟨k1, k2⟩, k3, ⟨k4, k5, k6⟩, k7⟩ := id (q_mk_all mm h1 h2)
  rw [hvi] at k3
  obtain ⟨k3a, k3b⟩ := k3
  have hin : ∀ w ∈ lw_tblG, w.before #[Value.ref b] s = true := fun w hw => hts w (List.mem_filter.mp hw).1
  have hn := q_cn_not _ k5
  rw [← k4] at hn
  have hrec : ∃ cellB : Cell, H[ad (t, k, 0)]? = some cellB ∧ cellB.vm.isStatics = false ∧ s.vm.findClass (q_y mm).cls = some cellB.cls := by
    cases hb0 : (q_fl t).isEmpty with
    | false =>
      obtain ⟨q0, h2⟩ := q_objA (ad := ad) (cA := cA) hr hb0 h
      obtain ⟨t1, -, -, t4, -⟩ := q_tagT t (q_fl_tag hb0)
      have h5 := va_recv hK hP t1 h2
      rw [t4, hci, ← k4] at h5
      exact h5
    | true => exact absurd hb0 (by rw [hobj]; decide)
  have hp : PreV s H (q_y mm).cls (ad (t, k, 0)) (va_Pc ((.inr (.inr (t, k, 0)) :: av : List q_V).map (q_v ad)) (fun U => va_P D vwCl (q_ws dom ad cA h) U.heap ∧ va_K D vwCl tys U ∧ X U)) (av.map (q_v ad)) :=
    ⟨fun a U g mk q => ⟨q.1, q.2.1, va_K.moved (u := U) (U := U.calling g mk a) (Vm.Alike.refl U.vm) q.2.2.1, hX.2.1 a U g mk q.2.2.2⟩, hrec,
     fun U hU hW => ⟨rfl, by rw [hU]; exact hP, va_K.moved hW.alike hK, hX.1 s U hW (by rw [hU]; exact hS.1) (fun q g1 g2 => by rw [hU]; exact hS.2.1 q g1 (fun z => Nat.lt_irrefl _ (Nat.lt_of_lt_of_le g1 z))) hXX⟩⟩
  have hrun := va_runV (p := p) (l := l) (e := e) (R := room_1) (below := below) (meth := meth) (locs := locs) (cells := cells) (slots := slots) (g := F0 m pc ls ((av.map (q_v ad)).reverse ++ .ref (ad (t, k, 0)) :: rest)) (As := av.map (q_v ad)) (rest := rest) (n := q_na mm) (ret := q_rt mm) (bytes := q_b mm) (maxL := q_ml mm) (own := R_law) (Ts := lw_tblG) ⟨hx, hb, hml, hown, hin⟩ hM
    ⟨⟨rfl, rfl, Nat.le_refl _, by show 8 + (q_ml mm + 11) + 330 ≤ 466; omega, pay_in hin (q_wsin _ (q_mk_all mm h1 h2)), List.mem_cons_self, hin _ k1, hin _ k2, hn, fun sig hsig => by
        rw [hsig] at k7
        exact (Option.some.inj k7).symm, hin _ hlink⟩, hin _ k3a, hin _ k3b⟩
    hp rfl (by rw [List.length_map]; exact hna) hls rfl (lv_room hct) hdg ⟨hcs, hsl⟩
  exact q_cally hrun hS (fun q hq => hA q hq) kk
