/-! THE LAW'S WALK, 6.1: its cases -/
theorem C_feed {len I : Nat} {sc : Nat → Int32} {g : Bool} {f : Nat → Int32} {μX μM : zMem} {ca cb : Nat} (hI : I + 7 ≤ len) (hl : len ≤ 3584) (h : zInv μX μM) (k : ∀ (f' : Nat → Int32) (μX' μM' : zMem), zInv μX' μM' → zLaw len sc 2685 (zLoc (zi I) .null .null) [] g μM' f' μX' ca cb) : zLaw len sc 220 (zLoc (zi I) .null .null) [] g μM f μX (ca + 1) (cb + 6) := by
  obtain ⟨e, v, μX', w, μM', hr, hr', h0, hv, he, hi⟩ := P_feed (a := sc (I + 1)) (b := sc (I + 2)) (c := sc (I + 3)) (d := sc (I + 4)) (e := sc (I + 5)) h
  obtain rfl : e = 0 := he.resolve_right (fun q => absurd q (Nat.lt_irrefl 0))
  obtain rfl := hv rfl
  refine yA_more (Nat.le_add_right ca 1) (Nat.le_add_right cb 6) ?_
  refine yA_aload_n (pc := 220) dL_law_220 rfl ?_
  refine L_arg (pc := 221) (k := 1) hI hl (by decide) dL_law_221 dL_law_222 dL_law_224 (by decide) dL_law_225 dL_law_226 ?_
  refine L_arg (pc := 227) (k := 2) hI hl (by decide) dL_law_227 dL_law_228 dL_law_230 (by decide) dL_law_231 dL_law_232 ?_
  refine L_arg (pc := 233) (k := 3) hI hl (by decide) dL_law_233 dL_law_234 dL_law_236 (by decide) dL_law_237 dL_law_238 ?_
  refine L_arg (pc := 239) (k := 4) hI hl (by decide) dL_law_239 dL_law_240 dL_law_242 (by decide) dL_law_243 dL_law_244 ?_
  refine L_arg (pc := 245) (k := 5) hI hl (by decide) dL_law_245 dL_law_246 dL_law_248 (by decide) dL_law_249 dL_law_250 ?_
  refine L_cls (pc := 251) (As := [.int (sc (I + 1)), .int (sc (I + 2)), .int (sc (I + 3)), .int (sc (I + 4)), .int (sc (I + 5))]) (st := []) kvL_129 (t8_feed (sc (I + 1)) (sc (I + 2)) (sc (I + 3)) (sc (I + 4)) (sc (I + 5)) μX) hr (by decide) rfl rfl (fun w hw => absurd hw List.not_mem_nil) (by decide) dL_law_251 ?_
  refine yA_aload_n (pc := 254) dL_law_254 rfl ?_
  refine L_arg (pc := 255) (k := 1) hI hl (by decide) dL_law_255 dL_law_256 dL_law_258 (by decide) dL_law_259 dL_law_260 ?_
  refine L_arg (pc := 261) (k := 2) hI hl (by decide) dL_law_261 dL_law_262 dL_law_264 (by decide) dL_law_265 dL_law_266 ?_
  refine L_arg (pc := 267) (k := 3) hI hl (by decide) dL_law_267 dL_law_268 dL_law_270 (by decide) dL_law_271 dL_law_272 ?_
  refine L_arg (pc := 273) (k := 4) hI hl (by decide) dL_law_273 dL_law_274 dL_law_276 (by decide) dL_law_277 dL_law_278 ?_
  refine L_arg (pc := 279) (k := 5) hI hl (by decide) dL_law_279 dL_law_280 dL_law_282 (by decide) dL_law_283 dL_law_284 ?_
  refine L_ref (pc := 285) (As := [.int (sc (I + 1)), .int (sc (I + 2)), .int (sc (I + 3)), .int (sc (I + 4)), .int (sc (I + 5))]) (st := [.int v]) kvL_133 (t9_feed (sc (I + 1)) (sc (I + 2)) (sc (I + 3)) (sc (I + 4)) (sc (I + 5)) μM) hr' (by decide) rfl rfl (fun q e => by cases e) (fun q e => by cases e) L_one (Nat.le_of_ble_eq_true rfl) dL_law_285 ?_
  exact yA_icmp_eq_t (pc := 288) (tgt := 2685) dL_law_288 (by decide) rfl (k f μX' μM' hi)
theorem tl_town : zTl 316 := ⟨dL_law_316, dL_law_318, dL_law_319, dL_law_322, dL_law_324, dL_law_329, dL_law_331, dL_law_334, dL_law_335, dL_law_336, dL_law_337, dL_law_339, dL_law_340, dL_law_341, 2339, dL_law_346, by decide⟩
theorem C_town {len I : Nat} {sc : Nat → Int32} {g : Bool} {f : Nat → Int32} {μX μM : zMem} {ca cb : Nat} (hI : I + 7 ≤ len) (hl : len ≤ 3584) (h : zInv μX μM) (k : ∀ (f' : Nat → Int32) (μX' μM' : zMem), zInv μX' μM' → zLaw len sc 2685 (zLoc (zi I) .null .null) [] g μM' f' μX' ca cb) : zLaw len sc 293 (zLoc (zi I) .null .null) [] g μM f μX (ca + 1) (cb + 6) := by
  obtain ⟨e, v, μX', w, μM', hr, hr', h0, hv, he, hi⟩ := P_town (x := sc (I + 1)) h
  have T : ∀ (kx : Int32) (f' : Nat → Int32), μM' 0 0 = kx → (kx = 0 → f' 0 = w) → zLaw len sc 304 (zLoc (zi I) .null .null) [.int kx] g μM f' μX' ca cb := by
    intro kx f' q1 q2
    refine yA_istore (pc := 304) (L' := zLoc (zi I) (.int kx) .null) dL_law_304 (by decide) rfl ?_
    refine yA_aload_n (pc := 306) dL_law_306 rfl ?_
    refine L_arg (pc := 307) (k := 1) hI hl (by decide) dL_law_307 dL_law_308 dL_law_310 (by decide) dL_law_311 dL_law_312 ?_
    refine L_ref (pc := 313) (As := [.int (sc (I + 1))]) (st := []) kvL_139 (t9_town (sc (I + 1)) μM) hr' (by decide) rfl rfl (fun q e => by cases e) (fun q e => by cases e) (fun w hw => absurd hw List.not_mem_nil) (by decide) dL_law_313 ?_
    exact L_tail tl_town q1 q2 (k f' μX' μM' hi)
  refine yA_aload_n (pc := 293) dL_law_293 rfl ?_
  refine L_arg (pc := 294) (k := 1) hI hl (by decide) dL_law_294 dL_law_295 dL_law_297 (by decide) dL_law_298 dL_law_299 ?_
  refine yA_aload_n (pc := 300) dL_law_300 rfl ?_
  rcases he with rfl | he
  · exact L_wrap (pc := 301) kwL_134 (tw_town hr) (by decide) rfl rfl (Or.inl rfl) (by omega) (by omega) dL_law_301 (T 0 _ (h0.trans (by decide)) (fun _ => hv rfl))
  · rcases cI_cases he with rfl
    · exact L_wrap (pc := 301) kwL_134 (tw_town_x1 hr) (by decide) rfl rfl (Or.inl rfl) (by omega) (by omega) dL_law_301 (T 1 _ (h0.trans (by decide)) (fun q => absurd q (by decide)))
theorem C_fault {len I : Nat} {sc : Nat → Int32} {g : Bool} {f : Nat → Int32} {μX μM : zMem} {ca cb : Nat} (hI : I + 7 ≤ len) (hl : len ≤ 3584) (h : zInv μX μM) (k : ∀ (f' : Nat → Int32) (μX' μM' : zMem), zInv μX' μM' → zLaw len sc 2685 (zLoc (zi I) .null .null) [] g μM' f' μX' ca cb) : zLaw len sc 349 (zLoc (zi I) .null .null) [] g μM f μX (ca + 1) (cb + 6) := by
  obtain ⟨e, v, μX', w, μM', hr, hr', h0, hv, he, hi⟩ := P_fault  h
  obtain rfl : e = 0 := he.resolve_right (fun q => absurd q (Nat.lt_irrefl 0))
  obtain rfl := hv rfl
  refine yA_more (Nat.le_add_right ca 1) (Nat.le_add_right cb 6) ?_
  refine yA_aload_n (pc := 349) dL_law_349 rfl ?_
  refine L_cls (pc := 350) (As := []) (st := []) kvL_143 (t8_fault μX) hr (by decide) rfl rfl (fun w hw => absurd hw List.not_mem_nil) (by decide) dL_law_350 ?_
  refine yA_aload_n (pc := 353) dL_law_353 rfl ?_
  refine L_ref (pc := 354) (As := []) (st := [.int v]) kvL_146 (t9_fault μM) hr' (by decide) rfl rfl (fun q e => by cases e) (fun q e => by cases e) L_one (Nat.le_of_ble_eq_true rfl) dL_law_354 ?_
  exact yA_icmp_eq_t (pc := 357) (tgt := 2685) dL_law_357 (by decide) rfl (k f μX' μM' hi)
theorem tl_told : zTl 385 := ⟨dL_law_385, dL_law_387, dL_law_388, dL_law_391, dL_law_393, dL_law_398, dL_law_400, dL_law_403, dL_law_404, dL_law_405, dL_law_406, dL_law_408, dL_law_409, dL_law_410, 2270, dL_law_415, by decide⟩
theorem C_told {len I : Nat} {sc : Nat → Int32} {g : Bool} {f : Nat → Int32} {μX μM : zMem} {ca cb : Nat} (hI : I + 7 ≤ len) (hl : len ≤ 3584) (h : zInv μX μM) (k : ∀ (f' : Nat → Int32) (μX' μM' : zMem), zInv μX' μM' → zLaw len sc 2685 (zLoc (zi I) .null .null) [] g μM' f' μX' ca cb) : zLaw len sc 362 (zLoc (zi I) .null .null) [] g μM f μX (ca + 1) (cb + 6) := by
  obtain ⟨e, v, μX', w, μM', hr, hr', h0, hv, he, hi⟩ := P_told (x := sc (I + 1)) h
  have T : ∀ (kx : Int32) (f' : Nat → Int32), μM' 0 0 = kx → (kx = 0 → f' 0 = w) → zLaw len sc 373 (zLoc (zi I) .null .null) [.int kx] g μM f' μX' ca cb := by
    intro kx f' q1 q2
    refine yA_istore (pc := 373) (L' := zLoc (zi I) (.int kx) .null) dL_law_373 (by decide) rfl ?_
    refine yA_aload_n (pc := 375) dL_law_375 rfl ?_
    refine L_arg (pc := 376) (k := 1) hI hl (by decide) dL_law_376 dL_law_377 dL_law_379 (by decide) dL_law_380 dL_law_381 ?_
    refine L_ref (pc := 382) (As := [.int (sc (I + 1))]) (st := []) kvL_149 (t9_told (sc (I + 1)) μM) hr' (by decide) rfl rfl (fun q e => by cases e) (fun q e => by cases e) (fun w hw => absurd hw List.not_mem_nil) (by decide) dL_law_382 ?_
    exact L_tail tl_told q1 q2 (k f' μX' μM' hi)
  refine yA_aload_n (pc := 362) dL_law_362 rfl ?_
  refine L_arg (pc := 363) (k := 1) hI hl (by decide) dL_law_363 dL_law_364 dL_law_366 (by decide) dL_law_367 dL_law_368 ?_
  refine yA_aload_n (pc := 369) dL_law_369 rfl ?_
  rcases he with rfl | he
  · exact L_wrap (pc := 370) kwL_147 (tw_told hr) (by decide) rfl rfl (Or.inl rfl) (by omega) (by omega) dL_law_370 (T 0 _ (h0.trans (by decide)) (fun _ => hv rfl))
  · rcases cI_cases he with rfl
    · exact L_wrap (pc := 370) kwL_147 (tw_told_x1 hr) (by decide) rfl rfl (Or.inl rfl) (by omega) (by omega) dL_law_370 (T 1 _ (h0.trans (by decide)) (fun q => absurd q (by decide)))
theorem tl_thinks : zTl 453 := ⟨dL_law_453, dL_law_455, dL_law_456, dL_law_459, dL_law_461, dL_law_466, dL_law_468, dL_law_471, dL_law_472, dL_law_473, dL_law_474, dL_law_476, dL_law_477, dL_law_478, 2202, dL_law_483, by decide⟩
theorem C_thinks {len I : Nat} {sc : Nat → Int32} {g : Bool} {f : Nat → Int32} {μX μM : zMem} {ca cb : Nat} (hI : I + 7 ≤ len) (hl : len ≤ 3584) (h : zInv μX μM) (k : ∀ (f' : Nat → Int32) (μX' μM' : zMem), zInv μX' μM' → zLaw len sc 2685 (zLoc (zi I) .null .null) [] g μM' f' μX' ca cb) : zLaw len sc 418 (zLoc (zi I) .null .null) [] g μM f μX (ca + 1) (cb + 6) := by
  obtain ⟨e, v, μX', w, μM', hr, hr', h0, hv, he, hi⟩ := P_thinks (x := sc (I + 1)) (y := sc (I + 2)) h
  have T : ∀ (kx : Int32) (f' : Nat → Int32), μM' 0 0 = kx → (kx = 0 → f' 0 = w) → zLaw len sc 435 (zLoc (zi I) .null .null) [.int kx] g μM f' μX' ca cb := by
    intro kx f' q1 q2
    refine yA_istore (pc := 435) (L' := zLoc (zi I) (.int kx) .null) dL_law_435 (by decide) rfl ?_
    refine yA_aload_n (pc := 437) dL_law_437 rfl ?_
    refine L_arg (pc := 438) (k := 1) hI hl (by decide) dL_law_438 dL_law_439 dL_law_441 (by decide) dL_law_442 dL_law_443 ?_
    refine L_arg (pc := 444) (k := 2) hI hl (by decide) dL_law_444 dL_law_445 dL_law_447 (by decide) dL_law_448 dL_law_449 ?_
    refine L_ref (pc := 450) (As := [.int (sc (I + 1)), .int (sc (I + 2))]) (st := []) kvL_153 (t9_thinks (sc (I + 1)) (sc (I + 2)) μM) hr' (by decide) rfl rfl (fun q e => by cases e) (fun q e => by cases e) (fun w hw => absurd hw List.not_mem_nil) (by decide) dL_law_450 ?_
    exact L_tail tl_thinks q1 q2 (k f' μX' μM' hi)
  refine yA_aload_n (pc := 418) dL_law_418 rfl ?_
  refine L_arg (pc := 419) (k := 1) hI hl (by decide) dL_law_419 dL_law_420 dL_law_422 (by decide) dL_law_423 dL_law_424 ?_
  refine L_arg (pc := 425) (k := 2) hI hl (by decide) dL_law_425 dL_law_426 dL_law_428 (by decide) dL_law_429 dL_law_430 ?_
  refine yA_aload_n (pc := 431) dL_law_431 rfl ?_
  rcases he with rfl | he
  · exact L_wrap (pc := 432) kwL_150 (tw_thinks hr) (by decide) rfl rfl (Or.inl rfl) (by omega) (by omega) dL_law_432 (T 0 _ (h0.trans (by decide)) (fun _ => hv rfl))
  · rcases cNI_cases he with rfl | rfl
    · exact L_wrap (pc := 432) kwL_150 (tw_thinks_x2 hr) (by decide) rfl rfl (Or.inl rfl) (by omega) (by omega) dL_law_432 (T 1 _ (h0.trans (by decide)) (fun q => absurd q (by decide)))
    · exact L_wrap (pc := 432) kwL_150 (tw_thinks_x1 hr) (by decide) rfl rfl (Or.inl rfl) (by omega) (by omega) dL_law_432 (T 2 _ (h0.trans (by decide)) (fun q => absurd q (by decide)))
theorem tl_person : zTl 521 := ⟨dL_law_521, dL_law_523, dL_law_524, dL_law_527, dL_law_529, dL_law_534, dL_law_536, dL_law_539, dL_law_540, dL_law_541, dL_law_542, dL_law_544, dL_law_545, dL_law_546, 2134, dL_law_551, by decide⟩
theorem C_person {len I : Nat} {sc : Nat → Int32} {g : Bool} {f : Nat → Int32} {μX μM : zMem} {ca cb : Nat} (hI : I + 7 ≤ len) (hl : len ≤ 3584) (h : zInv μX μM) (k : ∀ (f' : Nat → Int32) (μX' μM' : zMem), zInv μX' μM' → zLaw len sc 2685 (zLoc (zi I) .null .null) [] g μM' f' μX' ca cb) : zLaw len sc 486 (zLoc (zi I) .null .null) [] g μM f μX (ca + 1) (cb + 6) := by
  obtain ⟨e, v, μX', w, μM', hr, hr', h0, hv, he, hi⟩ := P_person (x := sc (I + 1)) (y := sc (I + 2)) h
  have T : ∀ (kx : Int32) (f' : Nat → Int32), μM' 0 0 = kx → (kx = 0 → f' 0 = w) → zLaw len sc 503 (zLoc (zi I) .null .null) [.int kx] g μM f' μX' ca cb := by
    intro kx f' q1 q2
    refine yA_istore (pc := 503) (L' := zLoc (zi I) (.int kx) .null) dL_law_503 (by decide) rfl ?_
    refine yA_aload_n (pc := 505) dL_law_505 rfl ?_
    refine L_arg (pc := 506) (k := 1) hI hl (by decide) dL_law_506 dL_law_507 dL_law_509 (by decide) dL_law_510 dL_law_511 ?_
    refine L_arg (pc := 512) (k := 2) hI hl (by decide) dL_law_512 dL_law_513 dL_law_515 (by decide) dL_law_516 dL_law_517 ?_
    refine L_ref (pc := 518) (As := [.int (sc (I + 1)), .int (sc (I + 2))]) (st := []) kvL_156 (t9_person (sc (I + 1)) (sc (I + 2)) μM) hr' (by decide) rfl rfl (fun q e => by cases e) (fun q e => by cases e) (fun w hw => absurd hw List.not_mem_nil) (by decide) dL_law_518 ?_
    exact L_tail tl_person q1 q2 (k f' μX' μM' hi)
  refine yA_aload_n (pc := 486) dL_law_486 rfl ?_
  refine L_arg (pc := 487) (k := 1) hI hl (by decide) dL_law_487 dL_law_488 dL_law_490 (by decide) dL_law_491 dL_law_492 ?_
  refine L_arg (pc := 493) (k := 2) hI hl (by decide) dL_law_493 dL_law_494 dL_law_496 (by decide) dL_law_497 dL_law_498 ?_
  refine yA_aload_n (pc := 499) dL_law_499 rfl ?_
  rcases he with rfl | he
  · exact L_wrap (pc := 500) kwL_154 (tw_person hr) (by decide) rfl rfl (Or.inl rfl) (by omega) (by omega) dL_law_500 (T 0 _ (h0.trans (by decide)) (fun _ => hv rfl))
  · rcases cNI_cases he with rfl | rfl
    · exact L_wrap (pc := 500) kwL_154 (tw_person_x2 hr) (by decide) rfl rfl (Or.inl rfl) (by omega) (by omega) dL_law_500 (T 1 _ (h0.trans (by decide)) (fun q => absurd q (by decide)))
    · exact L_wrap (pc := 500) kwL_154 (tw_person_x1 hr) (by decide) rfl rfl (Or.inl rfl) (by omega) (by omega) dL_law_500 (T 2 _ (h0.trans (by decide)) (fun q => absurd q (by decide)))
theorem tl_door : zTl 589 := ⟨dL_law_589, dL_law_591, dL_law_592, dL_law_595, dL_law_597, dL_law_602, dL_law_604, dL_law_607, dL_law_608, dL_law_609, dL_law_610, dL_law_612, dL_law_613, dL_law_614, 2066, dL_law_619, by decide⟩
theorem C_door {len I : Nat} {sc : Nat → Int32} {g : Bool} {f : Nat → Int32} {μX μM : zMem} {ca cb : Nat} (hI : I + 7 ≤ len) (hl : len ≤ 3584) (h : zInv μX μM) (k : ∀ (f' : Nat → Int32) (μX' μM' : zMem), zInv μX' μM' → zLaw len sc 2685 (zLoc (zi I) .null .null) [] g μM' f' μX' ca cb) : zLaw len sc 554 (zLoc (zi I) .null .null) [] g μM f μX (ca + 1) (cb + 6) := by
  obtain ⟨e, v, μX', w, μM', hr, hr', h0, hv, he, hi⟩ := P_door (x := sc (I + 1)) (y := sc (I + 2)) h
  have T : ∀ (kx : Int32) (f' : Nat → Int32), μM' 0 0 = kx → (kx = 0 → f' 0 = w) → zLaw len sc 571 (zLoc (zi I) .null .null) [.int kx] g μM f' μX' ca cb := by
    intro kx f' q1 q2
    refine yA_istore (pc := 571) (L' := zLoc (zi I) (.int kx) .null) dL_law_571 (by decide) rfl ?_
    refine yA_aload_n (pc := 573) dL_law_573 rfl ?_
    refine L_arg (pc := 574) (k := 1) hI hl (by decide) dL_law_574 dL_law_575 dL_law_577 (by decide) dL_law_578 dL_law_579 ?_
    refine L_arg (pc := 580) (k := 2) hI hl (by decide) dL_law_580 dL_law_581 dL_law_583 (by decide) dL_law_584 dL_law_585 ?_
    refine L_ref (pc := 586) (As := [.int (sc (I + 1)), .int (sc (I + 2))]) (st := []) kvL_159 (t9_door (sc (I + 1)) (sc (I + 2)) μM) hr' (by decide) rfl rfl (fun q e => by cases e) (fun q e => by cases e) (fun w hw => absurd hw List.not_mem_nil) (by decide) dL_law_586 ?_
    exact L_tail tl_door q1 q2 (k f' μX' μM' hi)
  refine yA_aload_n (pc := 554) dL_law_554 rfl ?_
  refine L_arg (pc := 555) (k := 1) hI hl (by decide) dL_law_555 dL_law_556 dL_law_558 (by decide) dL_law_559 dL_law_560 ?_
  refine L_arg (pc := 561) (k := 2) hI hl (by decide) dL_law_561 dL_law_562 dL_law_564 (by decide) dL_law_565 dL_law_566 ?_
  refine yA_aload_n (pc := 567) dL_law_567 rfl ?_
  rcases he with rfl | he
  · exact L_wrap (pc := 568) kwL_157 (tw_door hr) (by decide) rfl rfl (Or.inl rfl) (by omega) (by omega) dL_law_568 (T 0 _ (h0.trans (by decide)) (fun _ => hv rfl))
  · rcases cBI_cases he with rfl | rfl
    · exact L_wrap (pc := 568) kwL_157 (tw_door_x3 hr) (by decide) rfl rfl (Or.inl rfl) (by omega) (by omega) dL_law_568 (T 1 _ (h0.trans (by decide)) (fun q => absurd q (by decide)))
    · exact L_wrap (pc := 568) kwL_157 (tw_door_x1 hr) (by decide) rfl rfl (Or.inl rfl) (by omega) (by omega) dL_law_568 (T 2 _ (h0.trans (by decide)) (fun q => absurd q (by decide)))
theorem tl_slate : zTl 645 := ⟨dL_law_645, dL_law_647, dL_law_648, dL_law_651, dL_law_653, dL_law_658, dL_law_660, dL_law_663, dL_law_664, dL_law_665, dL_law_666, dL_law_668, dL_law_669, dL_law_670, 2010, dL_law_675, by decide⟩
theorem C_slate {len I : Nat} {sc : Nat → Int32} {g : Bool} {f : Nat → Int32} {μX μM : zMem} {ca cb : Nat} (hI : I + 7 ≤ len) (hl : len ≤ 3584) (h : zInv μX μM) (k : ∀ (f' : Nat → Int32) (μX' μM' : zMem), zInv μX' μM' → zLaw len sc 2685 (zLoc (zi I) .null .null) [] g μM' f' μX' ca cb) : zLaw len sc 622 (zLoc (zi I) .null .null) [] g μM f μX (ca + 1) (cb + 6) := by
  obtain ⟨e, v, μX', w, μM', hr, hr', h0, hv, he, hi⟩ := P_slate (x := sc (I + 1)) h
  have T : ∀ (kx : Int32) (f' : Nat → Int32), μM' 0 0 = kx → (kx = 0 → f' 0 = w) → zLaw len sc 633 (zLoc (zi I) .null .null) [.int kx] g μM f' μX' ca cb := by
    intro kx f' q1 q2
    refine yA_istore (pc := 633) (L' := zLoc (zi I) (.int kx) .null) dL_law_633 (by decide) rfl ?_
    refine yA_aload_n (pc := 635) dL_law_635 rfl ?_
    refine L_arg (pc := 636) (k := 1) hI hl (by decide) dL_law_636 dL_law_637 dL_law_639 (by decide) dL_law_640 dL_law_641 ?_
    refine L_ref (pc := 642) (As := [.int (sc (I + 1))]) (st := []) kvL_162 (t9_slate (sc (I + 1)) μM) hr' (by decide) rfl rfl (fun q e => by cases e) (fun q e => by cases e) (fun w hw => absurd hw List.not_mem_nil) (by decide) dL_law_642 ?_
    exact L_tail tl_slate q1 q2 (k f' μX' μM' hi)
  refine yA_aload_n (pc := 622) dL_law_622 rfl ?_
  refine L_arg (pc := 623) (k := 1) hI hl (by decide) dL_law_623 dL_law_624 dL_law_626 (by decide) dL_law_627 dL_law_628 ?_
  refine yA_aload_n (pc := 629) dL_law_629 rfl ?_
  rcases he with rfl | he
  · exact L_wrap (pc := 630) kwL_160 (tw_slate hr) (by decide) rfl rfl (Or.inl rfl) (by omega) (by omega) dL_law_630 (T 0 _ (h0.trans (by decide)) (fun _ => hv rfl))
  · rcases cI_cases he with rfl
    · exact L_wrap (pc := 630) kwL_160 (tw_slate_x1 hr) (by decide) rfl rfl (Or.inl rfl) (by omega) (by omega) dL_law_630 (T 1 _ (h0.trans (by decide)) (fun q => absurd q (by decide)))
theorem tl_work : zTl 725 := ⟨dL_law_725, dL_law_727, dL_law_728, dL_law_731, dL_law_733, dL_law_738, dL_law_740, dL_law_743, dL_law_744, dL_law_745, dL_law_746, dL_law_748, dL_law_749, dL_law_750, 1930, dL_law_755, by decide⟩
theorem C_work {len I : Nat} {sc : Nat → Int32} {g : Bool} {f : Nat → Int32} {μX μM : zMem} {ca cb : Nat} (hI : I + 7 ≤ len) (hl : len ≤ 3584) (h : zInv μX μM) (k : ∀ (f' : Nat → Int32) (μX' μM' : zMem), zInv μX' μM' → zLaw len sc 2685 (zLoc (zi I) .null .null) [] g μM' f' μX' ca cb) : zLaw len sc 678 (zLoc (zi I) .null .null) [] g μM f μX (ca + 1) (cb + 6) := by
  obtain ⟨e, v, μX', w, μM', hr, hr', h0, hv, he, hi⟩ := P_work (x := sc (I + 1)) (y := sc (I + 2)) (z := sc (I + 3)) h
  have T : ∀ (kx : Int32) (f' : Nat → Int32), μM' 0 0 = kx → (kx = 0 → f' 0 = w) → zLaw len sc 701 (zLoc (zi I) .null .null) [.int kx] g μM f' μX' ca cb := by
    intro kx f' q1 q2
    refine yA_istore (pc := 701) (L' := zLoc (zi I) (.int kx) .null) dL_law_701 (by decide) rfl ?_
    refine yA_aload_n (pc := 703) dL_law_703 rfl ?_
    refine L_arg (pc := 704) (k := 1) hI hl (by decide) dL_law_704 dL_law_705 dL_law_707 (by decide) dL_law_708 dL_law_709 ?_
    refine L_arg (pc := 710) (k := 2) hI hl (by decide) dL_law_710 dL_law_711 dL_law_713 (by decide) dL_law_714 dL_law_715 ?_
    refine L_arg (pc := 716) (k := 3) hI hl (by decide) dL_law_716 dL_law_717 dL_law_719 (by decide) dL_law_720 dL_law_721 ?_
    refine L_ref (pc := 722) (As := [.int (sc (I + 1)), .int (sc (I + 2)), .int (sc (I + 3))]) (st := []) kvL_166 (t9_work (sc (I + 1)) (sc (I + 2)) (sc (I + 3)) μM) hr' (by decide) rfl rfl (fun q e => by cases e) (fun q e => by cases e) (fun w hw => absurd hw List.not_mem_nil) (by decide) dL_law_722 ?_
    exact L_tail tl_work q1 q2 (k f' μX' μM' hi)
  refine yA_aload_n (pc := 678) dL_law_678 rfl ?_
  refine L_arg (pc := 679) (k := 1) hI hl (by decide) dL_law_679 dL_law_680 dL_law_682 (by decide) dL_law_683 dL_law_684 ?_
  refine L_arg (pc := 685) (k := 2) hI hl (by decide) dL_law_685 dL_law_686 dL_law_688 (by decide) dL_law_689 dL_law_690 ?_
  refine L_arg (pc := 691) (k := 3) hI hl (by decide) dL_law_691 dL_law_692 dL_law_694 (by decide) dL_law_695 dL_law_696 ?_
  refine yA_aload_n (pc := 697) dL_law_697 rfl ?_
  rcases he with rfl | he
  · exact L_wrap (pc := 698) kwL_163 (tw_work hr) (by decide) rfl rfl (Or.inl rfl) (by omega) (by omega) dL_law_698 (T 0 _ (h0.trans (by decide)) (fun _ => hv rfl))
  · rcases cBN_cases he with rfl | rfl
    · exact L_wrap (pc := 698) kwL_163 (tw_work_x3 hr) (by decide) rfl rfl (Or.inl rfl) (by omega) (by omega) dL_law_698 (T 1 _ (h0.trans (by decide)) (fun q => absurd q (by decide)))
    · exact L_wrap (pc := 698) kwL_163 (tw_work_x2 hr) (by decide) rfl rfl (Or.inl rfl) (by omega) (by omega) dL_law_698 (T 2 _ (h0.trans (by decide)) (fun q => absurd q (by decide)))
theorem tl_may : zTl 805 := ⟨dL_law_805, dL_law_807, dL_law_808, dL_law_811, dL_law_813, dL_law_818, dL_law_820, dL_law_823, dL_law_824, dL_law_825, dL_law_826, dL_law_828, dL_law_829, dL_law_830, 1850, dL_law_835, by decide⟩
theorem C_may {len I : Nat} {sc : Nat → Int32} {g : Bool} {f : Nat → Int32} {μX μM : zMem} {ca cb : Nat} (hI : I + 7 ≤ len) (hl : len ≤ 3584) (h : zInv μX μM) (k : ∀ (f' : Nat → Int32) (μX' μM' : zMem), zInv μX' μM' → zLaw len sc 2685 (zLoc (zi I) .null .null) [] g μM' f' μX' ca cb) : zLaw len sc 758 (zLoc (zi I) .null .null) [] g μM f μX (ca + 1) (cb + 6) := by
  obtain ⟨e, v, μX', w, μM', hr, hr', h0, hv, he, hi⟩ := P_may (x := sc (I + 1)) (y := sc (I + 2)) (z := sc (I + 3)) h
  have T : ∀ (kx : Int32) (f' : Nat → Int32), μM' 0 0 = kx → (kx = 0 → f' 0 = w) → zLaw len sc 781 (zLoc (zi I) .null .null) [.int kx] g μM f' μX' ca cb := by
    intro kx f' q1 q2
    refine yA_istore (pc := 781) (L' := zLoc (zi I) (.int kx) .null) dL_law_781 (by decide) rfl ?_
    refine yA_aload_n (pc := 783) dL_law_783 rfl ?_
    refine L_arg (pc := 784) (k := 1) hI hl (by decide) dL_law_784 dL_law_785 dL_law_787 (by decide) dL_law_788 dL_law_789 ?_
    refine L_arg (pc := 790) (k := 2) hI hl (by decide) dL_law_790 dL_law_791 dL_law_793 (by decide) dL_law_794 dL_law_795 ?_
    refine L_arg (pc := 796) (k := 3) hI hl (by decide) dL_law_796 dL_law_797 dL_law_799 (by decide) dL_law_800 dL_law_801 ?_
    refine L_ref (pc := 802) (As := [.int (sc (I + 1)), .int (sc (I + 2)), .int (sc (I + 3))]) (st := []) kvL_169 (t9_may (sc (I + 1)) (sc (I + 2)) (sc (I + 3)) μM) hr' (by decide) rfl rfl (fun q e => by cases e) (fun q e => by cases e) (fun w hw => absurd hw List.not_mem_nil) (by decide) dL_law_802 ?_
    exact L_tail tl_may q1 q2 (k f' μX' μM' hi)
  refine yA_aload_n (pc := 758) dL_law_758 rfl ?_
  refine L_arg (pc := 759) (k := 1) hI hl (by decide) dL_law_759 dL_law_760 dL_law_762 (by decide) dL_law_763 dL_law_764 ?_
  refine L_arg (pc := 765) (k := 2) hI hl (by decide) dL_law_765 dL_law_766 dL_law_768 (by decide) dL_law_769 dL_law_770 ?_
  refine L_arg (pc := 771) (k := 3) hI hl (by decide) dL_law_771 dL_law_772 dL_law_774 (by decide) dL_law_775 dL_law_776 ?_
  refine yA_aload_n (pc := 777) dL_law_777 rfl ?_
  rcases he with rfl | he
  · exact L_wrap (pc := 778) kwL_167 (tw_may hr) (by decide) rfl rfl (Or.inl rfl) (by omega) (by omega) dL_law_778 (T 0 _ (h0.trans (by decide)) (fun _ => hv rfl))
  · rcases cBN_cases he with rfl | rfl
    · exact L_wrap (pc := 778) kwL_167 (tw_may_x3 hr) (by decide) rfl rfl (Or.inl rfl) (by omega) (by omega) dL_law_778 (T 1 _ (h0.trans (by decide)) (fun q => absurd q (by decide)))
    · exact L_wrap (pc := 778) kwL_167 (tw_may_x2 hr) (by decide) rfl rfl (Or.inl rfl) (by omega) (by omega) dL_law_778 (T 2 _ (h0.trans (by decide)) (fun q => absurd q (by decide)))
theorem tl_next : zTl 849 := ⟨dL_law_849, dL_law_851, dL_law_852, dL_law_855, dL_law_857, dL_law_862, dL_law_864, dL_law_867, dL_law_868, dL_law_869, dL_law_870, dL_law_872, dL_law_873, dL_law_874, 1806, dL_law_879, by decide⟩
theorem C_next {len I : Nat} {sc : Nat → Int32} {g : Bool} {f : Nat → Int32} {μX μM : zMem} {ca cb : Nat} (hI : I + 7 ≤ len) (hl : len ≤ 3584) (h : zInv μX μM) (k : ∀ (f' : Nat → Int32) (μX' μM' : zMem), zInv μX' μM' → zLaw len sc 2685 (zLoc (zi I) .null .null) [] g μM' f' μX' ca cb) : zLaw len sc 838 (zLoc (zi I) .null .null) [] g μM f μX (ca + 1) (cb + 6) := by
  obtain ⟨e, v, μX', w, μM', hr, hr', h0, hv, he, hi⟩ := P_next  h
  have T : ∀ (kx : Int32) (f' : Nat → Int32), μM' 0 0 = kx → (kx = 0 → f' 0 = w) → zLaw len sc 843 (zLoc (zi I) .null .null) [.int kx] g μM f' μX' ca cb := by
    intro kx f' q1 q2
    refine yA_istore (pc := 843) (L' := zLoc (zi I) (.int kx) .null) dL_law_843 (by decide) rfl ?_
    refine yA_aload_n (pc := 845) dL_law_845 rfl ?_
    refine L_ref (pc := 846) (As := []) (st := []) kvL_173 (t9_next μM) hr' (by decide) rfl rfl (fun q e => by cases e) (fun q e => by cases e) (fun w hw => absurd hw List.not_mem_nil) (by decide) dL_law_846 ?_
    exact L_tail tl_next q1 q2 (k f' μX' μM' hi)
  refine yA_aload_n (pc := 838) dL_law_838 rfl ?_
  refine yA_aload_n (pc := 839) dL_law_839 rfl ?_
  rcases he with rfl | he
  · exact L_wrap (pc := 840) kwL_170 (tw_next hr) (by decide) rfl rfl (Or.inl rfl) (by omega) (by omega) dL_law_840 (T 0 _ (h0.trans (by decide)) (fun _ => hv rfl))
  · rcases cS_cases he with rfl
    · exact L_wrap (pc := 840) kwL_170 (tw_next_x4 hr) (by decide) rfl rfl (Or.inl rfl) (by omega) (by omega) dL_law_840 (T 1 _ (h0.trans (by decide)) (fun q => absurd q (by decide)))
theorem tl_talk : zTl 929 := ⟨dL_law_929, dL_law_931, dL_law_932, dL_law_935, dL_law_937, dL_law_942, dL_law_944, dL_law_947, dL_law_948, dL_law_949, dL_law_950, dL_law_952, dL_law_953, dL_law_954, 1726, dL_law_959, by decide⟩
theorem C_talk {len I : Nat} {sc : Nat → Int32} {g : Bool} {f : Nat → Int32} {μX μM : zMem} {ca cb : Nat} (hI : I + 7 ≤ len) (hl : len ≤ 3584) (h : zInv μX μM) (k : ∀ (f' : Nat → Int32) (μX' μM' : zMem), zInv μX' μM' → zLaw len sc 2685 (zLoc (zi I) .null .null) [] g μM' f' μX' ca cb) : zLaw len sc 882 (zLoc (zi I) .null .null) [] g μM f μX (ca + 1) (cb + 6) := by
  obtain ⟨e, v, μX', w, μM', hr, hr', h0, hv, he, hi⟩ := P_talk (x := sc (I + 1)) (y := sc (I + 2)) (z := sc (I + 3)) h
  have T : ∀ (kx : Int32) (f' : Nat → Int32), μM' 0 0 = kx → (kx = 0 → f' 0 = w) → zLaw len sc 905 (zLoc (zi I) .null .null) [.int kx] g μM f' μX' ca cb := by
    intro kx f' q1 q2
    refine yA_istore (pc := 905) (L' := zLoc (zi I) (.int kx) .null) dL_law_905 (by decide) rfl ?_
    refine yA_aload_n (pc := 907) dL_law_907 rfl ?_
    refine L_arg (pc := 908) (k := 1) hI hl (by decide) dL_law_908 dL_law_909 dL_law_911 (by decide) dL_law_912 dL_law_913 ?_
    refine L_arg (pc := 914) (k := 2) hI hl (by decide) dL_law_914 dL_law_915 dL_law_917 (by decide) dL_law_918 dL_law_919 ?_
    refine L_arg (pc := 920) (k := 3) hI hl (by decide) dL_law_920 dL_law_921 dL_law_923 (by decide) dL_law_924 dL_law_925 ?_
    refine L_ref (pc := 926) (As := [.int (sc (I + 1)), .int (sc (I + 2)), .int (sc (I + 3))]) (st := []) kvL_176 (t9_talk (sc (I + 1)) (sc (I + 2)) (sc (I + 3)) μM) hr' (by decide) rfl rfl (fun q e => by cases e) (fun q e => by cases e) (fun w hw => absurd hw List.not_mem_nil) (by decide) dL_law_926 ?_
    exact L_tail tl_talk q1 q2 (k f' μX' μM' hi)
  refine yA_aload_n (pc := 882) dL_law_882 rfl ?_
  refine L_arg (pc := 883) (k := 1) hI hl (by decide) dL_law_883 dL_law_884 dL_law_886 (by decide) dL_law_887 dL_law_888 ?_
  refine L_arg (pc := 889) (k := 2) hI hl (by decide) dL_law_889 dL_law_890 dL_law_892 (by decide) dL_law_893 dL_law_894 ?_
  refine L_arg (pc := 895) (k := 3) hI hl (by decide) dL_law_895 dL_law_896 dL_law_898 (by decide) dL_law_899 dL_law_900 ?_
  refine yA_aload_n (pc := 901) dL_law_901 rfl ?_
  rcases he with rfl | he
  · exact L_wrap (pc := 902) kwL_174 (tw_talk hr) (by decide) rfl rfl (Or.inl rfl) (by omega) (by omega) dL_law_902 (T 0 _ (h0.trans (by decide)) (fun _ => hv rfl))
  · rcases cNI_cases he with rfl | rfl
    · exact L_wrap (pc := 902) kwL_174 (tw_talk_x2 hr) (by decide) rfl rfl (Or.inl rfl) (by omega) (by omega) dL_law_902 (T 1 _ (h0.trans (by decide)) (fun q => absurd q (by decide)))
    · exact L_wrap (pc := 902) kwL_174 (tw_talk_x1 hr) (by decide) rfl rfl (Or.inl rfl) (by omega) (by omega) dL_law_902 (T 2 _ (h0.trans (by decide)) (fun q => absurd q (by decide)))
theorem tl_earned : zTl 985 := ⟨dL_law_985, dL_law_987, dL_law_988, dL_law_991, dL_law_993, dL_law_998, dL_law_1000, dL_law_1003, dL_law_1004, dL_law_1005, dL_law_1006, dL_law_1008, dL_law_1009, dL_law_1010, 1670, dL_law_1015, by decide⟩
theorem C_earned {len I : Nat} {sc : Nat → Int32} {g : Bool} {f : Nat → Int32} {μX μM : zMem} {ca cb : Nat} (hI : I + 7 ≤ len) (hl : len ≤ 3584) (h : zInv μX μM) (k : ∀ (f' : Nat → Int32) (μX' μM' : zMem), zInv μX' μM' → zLaw len sc 2685 (zLoc (zi I) .null .null) [] g μM' f' μX' ca cb) : zLaw len sc 962 (zLoc (zi I) .null .null) [] g μM f μX (ca + 1) (cb + 6) := by
  obtain ⟨e, v, μX', w, μM', hr, hr', h0, hv, he, hi⟩ := P_earned (x := sc (I + 1)) h
  have T : ∀ (kx : Int32) (f' : Nat → Int32), μM' 0 0 = kx → (kx = 0 → f' 0 = w) → zLaw len sc 973 (zLoc (zi I) .null .null) [.int kx] g μM f' μX' ca cb := by
    intro kx f' q1 q2
    refine yA_istore (pc := 973) (L' := zLoc (zi I) (.int kx) .null) dL_law_973 (by decide) rfl ?_
    refine yA_aload_n (pc := 975) dL_law_975 rfl ?_
    refine L_arg (pc := 976) (k := 1) hI hl (by decide) dL_law_976 dL_law_977 dL_law_979 (by decide) dL_law_980 dL_law_981 ?_
    refine L_ref (pc := 982) (As := [.int (sc (I + 1))]) (st := []) kvL_179 (t9_earned (sc (I + 1)) μM) hr' (by decide) rfl rfl (fun q e => by cases e) (fun q e => by cases e) (fun w hw => absurd hw List.not_mem_nil) (by decide) dL_law_982 ?_
    exact L_tail tl_earned q1 q2 (k f' μX' μM' hi)
  refine yA_aload_n (pc := 962) dL_law_962 rfl ?_
  refine L_arg (pc := 963) (k := 1) hI hl (by decide) dL_law_963 dL_law_964 dL_law_966 (by decide) dL_law_967 dL_law_968 ?_
  refine yA_aload_n (pc := 969) dL_law_969 rfl ?_
  rcases he with rfl | he
  · exact L_wrap (pc := 970) kwL_177 (tw_earned hr) (by decide) rfl rfl (Or.inl rfl) (by omega) (by omega) dL_law_970 (T 0 _ (h0.trans (by decide)) (fun _ => hv rfl))
  · rcases cI_cases he with rfl
    · exact L_wrap (pc := 970) kwL_177 (tw_earned_x1 hr) (by decide) rfl rfl (Or.inl rfl) (by omega) (by omega) dL_law_970 (T 1 _ (h0.trans (by decide)) (fun q => absurd q (by decide)))
theorem tl_row : zTl 1077 := ⟨dL_law_1077, dL_law_1079, dL_law_1080, dL_law_1083, dL_law_1085, dL_law_1090, dL_law_1092, dL_law_1095, dL_law_1096, dL_law_1097, dL_law_1098, dL_law_1100, dL_law_1101, dL_law_1102, 1578, dL_law_1107, by decide⟩
theorem C_row {len I : Nat} {sc : Nat → Int32} {g : Bool} {f : Nat → Int32} {μX μM : zMem} {ca cb : Nat} (hI : I + 7 ≤ len) (hl : len ≤ 3584) (h : zInv μX μM) (k : ∀ (f' : Nat → Int32) (μX' μM' : zMem), zInv μX' μM' → zLaw len sc 2685 (zLoc (zi I) .null .null) [] g μM' f' μX' ca cb) : zLaw len sc 1018 (zLoc (zi I) .null .null) [] g μM f μX (ca + 1) (cb + 6) := by
  obtain ⟨e, v, μX', w, μM', hr, hr', h0, hv, he, hi⟩ := P_row (x := sc (I + 1)) (y := sc (I + 2)) (z := sc (I + 3)) (u := sc (I + 4)) h
  have T : ∀ (kx : Int32) (f' : Nat → Int32), μM' 0 0 = kx → (kx = 0 → f' 0 = w) → zLaw len sc 1047 (zLoc (zi I) .null .null) [.int kx] g μM f' μX' ca cb := by
    intro kx f' q1 q2
    refine yA_istore (pc := 1047) (L' := zLoc (zi I) (.int kx) .null) dL_law_1047 (by decide) rfl ?_
    refine yA_aload_n (pc := 1049) dL_law_1049 rfl ?_
    refine L_arg (pc := 1050) (k := 1) hI hl (by decide) dL_law_1050 dL_law_1051 dL_law_1053 (by decide) dL_law_1054 dL_law_1055 ?_
    refine L_arg (pc := 1056) (k := 2) hI hl (by decide) dL_law_1056 dL_law_1057 dL_law_1059 (by decide) dL_law_1060 dL_law_1061 ?_
    refine L_arg (pc := 1062) (k := 3) hI hl (by decide) dL_law_1062 dL_law_1063 dL_law_1065 (by decide) dL_law_1066 dL_law_1067 ?_
    refine L_arg (pc := 1068) (k := 4) hI hl (by decide) dL_law_1068 dL_law_1069 dL_law_1071 (by decide) dL_law_1072 dL_law_1073 ?_
    refine L_ref (pc := 1074) (As := [.int (sc (I + 1)), .int (sc (I + 2)), .int (sc (I + 3)), .int (sc (I + 4))]) (st := []) kvL_183 (t9_row (sc (I + 1)) (sc (I + 2)) (sc (I + 3)) (sc (I + 4)) μM) hr' (by decide) rfl rfl (fun q e => by cases e) (fun q e => by cases e) (fun w hw => absurd hw List.not_mem_nil) (by decide) dL_law_1074 ?_
    exact L_tail tl_row q1 q2 (k f' μX' μM' hi)
  refine yA_aload_n (pc := 1018) dL_law_1018 rfl ?_
  refine L_arg (pc := 1019) (k := 1) hI hl (by decide) dL_law_1019 dL_law_1020 dL_law_1022 (by decide) dL_law_1023 dL_law_1024 ?_
  refine L_arg (pc := 1025) (k := 2) hI hl (by decide) dL_law_1025 dL_law_1026 dL_law_1028 (by decide) dL_law_1029 dL_law_1030 ?_
  refine L_arg (pc := 1031) (k := 3) hI hl (by decide) dL_law_1031 dL_law_1032 dL_law_1034 (by decide) dL_law_1035 dL_law_1036 ?_
  refine L_arg (pc := 1037) (k := 4) hI hl (by decide) dL_law_1037 dL_law_1038 dL_law_1040 (by decide) dL_law_1041 dL_law_1042 ?_
  refine yA_aload_n (pc := 1043) dL_law_1043 rfl ?_
  rcases he with rfl | he
  · exact L_wrap (pc := 1044) kwL_180 (tw_row hr) (by decide) rfl rfl (Or.inl rfl) (by omega) (by omega) dL_law_1044 (T 0 _ (h0.trans (by decide)) (fun _ => hv rfl))
  · rcases cBNI_cases he with rfl | rfl | rfl
    · exact L_wrap (pc := 1044) kwL_180 (tw_row_x3 hr) (by decide) rfl rfl (Or.inl rfl) (by omega) (by omega) dL_law_1044 (T 1 _ (h0.trans (by decide)) (fun q => absurd q (by decide)))
    · exact L_wrap (pc := 1044) kwL_180 (tw_row_x2 hr) (by decide) rfl rfl (Or.inl rfl) (by omega) (by omega) dL_law_1044 (T 2 _ (h0.trans (by decide)) (fun q => absurd q (by decide)))
    · exact L_wrap (pc := 1044) kwL_180 (tw_row_x1 hr) (by decide) rfl rfl (Or.inl rfl) (by omega) (by omega) dL_law_1044 (T 3 _ (h0.trans (by decide)) (fun q => absurd q (by decide)))
theorem C_clear {len I : Nat} {sc : Nat → Int32} {g : Bool} {f : Nat → Int32} {μX μM : zMem} {ca cb : Nat} (hI : I + 7 ≤ len) (hl : len ≤ 3584) (h : zInv μX μM) (k : ∀ (f' : Nat → Int32) (μX' μM' : zMem), zInv μX' μM' → zLaw len sc 2685 (zLoc (zi I) .null .null) [] g μM' f' μX' ca cb) : zLaw len sc 1110 (zLoc (zi I) .null .null) [] g μM f μX (ca + 1) (cb + 6) := by
  obtain ⟨e, v, μX', w, μM', hr, hr', h0, hv, he, hi⟩ := P_clear  h
  obtain rfl : e = 0 := he.resolve_right (fun q => absurd q (Nat.lt_irrefl 0))
  obtain rfl := hv rfl
  refine yA_more (Nat.le_add_right ca 1) (Nat.le_add_right cb 6) ?_
  refine yA_aload_n (pc := 1110) dL_law_1110 rfl ?_
  refine L_cls (pc := 1111) (As := []) (st := []) kvL_184 (t8_clear μX) hr (by decide) rfl rfl (fun w hw => absurd hw List.not_mem_nil) (by decide) dL_law_1111 ?_
  refine yA_aload_n (pc := 1114) dL_law_1114 rfl ?_
  refine L_ref (pc := 1115) (As := []) (st := [.int v]) kvL_187 (t9_clear μM) hr' (by decide) rfl rfl (fun q e => by cases e) (fun q e => by cases e) L_one (Nat.le_of_ble_eq_true rfl) dL_law_1115 ?_
  exact yA_icmp_eq_t (pc := 1118) (tgt := 2685) dL_law_1118 (by decide) rfl (k f μX' μM' hi)
theorem tl_judge : zTl 1146 := ⟨dL_law_1146, dL_law_1148, dL_law_1149, dL_law_1152, dL_law_1154, dL_law_1159, dL_law_1161, dL_law_1164, dL_law_1165, dL_law_1166, dL_law_1167, dL_law_1169, dL_law_1170, dL_law_1171, 1509, dL_law_1176, by decide⟩
theorem C_judge {len I : Nat} {sc : Nat → Int32} {g : Bool} {f : Nat → Int32} {μX μM : zMem} {ca cb : Nat} (hI : I + 7 ≤ len) (hl : len ≤ 3584) (h : zInv μX μM) (k : ∀ (f' : Nat → Int32) (μX' μM' : zMem), zInv μX' μM' → zLaw len sc 2685 (zLoc (zi I) .null .null) [] g μM' f' μX' ca cb) : zLaw len sc 1123 (zLoc (zi I) .null .null) [] g μM f μX (ca + 1) (cb + 6) := by
  obtain ⟨e, v, μX', w, μM', hr, hr', h0, hv, he, hi⟩ := P_judge (x := sc (I + 1)) h
  have T : ∀ (kx : Int32) (f' : Nat → Int32), μM' 0 0 = kx → (kx = 0 → f' 0 = w) → zLaw len sc 1134 (zLoc (zi I) .null .null) [.int kx] g μM f' μX' ca cb := by
    intro kx f' q1 q2
    refine yA_istore (pc := 1134) (L' := zLoc (zi I) (.int kx) .null) dL_law_1134 (by decide) rfl ?_
    refine yA_aload_n (pc := 1136) dL_law_1136 rfl ?_
    refine L_arg (pc := 1137) (k := 1) hI hl (by decide) dL_law_1137 dL_law_1138 dL_law_1140 (by decide) dL_law_1141 dL_law_1142 ?_
    refine L_ref (pc := 1143) (As := [.int (sc (I + 1))]) (st := []) kvL_190 (t9_judge (sc (I + 1)) μM) hr' (by decide) rfl rfl (fun q e => by cases e) (fun q e => by cases e) (fun w hw => absurd hw List.not_mem_nil) (by decide) dL_law_1143 ?_
    exact L_tail tl_judge q1 q2 (k f' μX' μM' hi)
  refine yA_aload_n (pc := 1123) dL_law_1123 rfl ?_
  refine L_arg (pc := 1124) (k := 1) hI hl (by decide) dL_law_1124 dL_law_1125 dL_law_1127 (by decide) dL_law_1128 dL_law_1129 ?_
  refine yA_aload_n (pc := 1130) dL_law_1130 rfl ?_
  rcases he with rfl | he
  · exact L_wrap (pc := 1131) kwL_188 (tw_judge hr) (by decide) rfl rfl (Or.inl rfl) (by omega) (by omega) dL_law_1131 (T 0 _ (h0.trans (by decide)) (fun _ => hv rfl))
  · rcases cI_cases he with rfl
    · exact L_wrap (pc := 1131) kwL_188 (tw_judge_x1 hr) (by decide) rfl rfl (Or.inl rfl) (by omega) (by omega) dL_law_1131 (T 1 _ (h0.trans (by decide)) (fun q => absurd q (by decide)))
theorem tl_today : zTl 1214 := ⟨dL_law_1214, dL_law_1216, dL_law_1217, dL_law_1220, dL_law_1222, dL_law_1227, dL_law_1229, dL_law_1232, dL_law_1233, dL_law_1234, dL_law_1235, dL_law_1237, dL_law_1238, dL_law_1239, 1441, dL_law_1244, by decide⟩
theorem C_today {len I : Nat} {sc : Nat → Int32} {g : Bool} {f : Nat → Int32} {μX μM : zMem} {ca cb : Nat} (hI : I + 7 ≤ len) (hl : len ≤ 3584) (h : zInv μX μM) (k : ∀ (f' : Nat → Int32) (μX' μM' : zMem), zInv μX' μM' → zLaw len sc 2685 (zLoc (zi I) .null .null) [] g μM' f' μX' ca cb) : zLaw len sc 1179 (zLoc (zi I) .null .null) [] g μM f μX (ca + 1) (cb + 6) := by
  obtain ⟨e, v, μX', w, μM', hr, hr', h0, hv, he, hi⟩ := P_today (x := sc (I + 1)) (y := sc (I + 2)) h
  have T : ∀ (kx : Int32) (f' : Nat → Int32), μM' 0 0 = kx → (kx = 0 → f' 0 = w) → zLaw len sc 1196 (zLoc (zi I) .null .null) [.int kx] g μM f' μX' ca cb := by
    intro kx f' q1 q2
    refine yA_istore (pc := 1196) (L' := zLoc (zi I) (.int kx) .null) dL_law_1196 (by decide) rfl ?_
    refine yA_aload_n (pc := 1198) dL_law_1198 rfl ?_
    refine L_arg (pc := 1199) (k := 1) hI hl (by decide) dL_law_1199 dL_law_1200 dL_law_1202 (by decide) dL_law_1203 dL_law_1204 ?_
    refine L_arg (pc := 1205) (k := 2) hI hl (by decide) dL_law_1205 dL_law_1206 dL_law_1208 (by decide) dL_law_1209 dL_law_1210 ?_
    refine L_ref (pc := 1211) (As := [.int (sc (I + 1)), .int (sc (I + 2))]) (st := []) kvL_193 (t9_today (sc (I + 1)) (sc (I + 2)) μM) hr' (by decide) rfl rfl (fun q e => by cases e) (fun q e => by cases e) (fun w hw => absurd hw List.not_mem_nil) (by decide) dL_law_1211 ?_
    exact L_tail tl_today q1 q2 (k f' μX' μM' hi)
  refine yA_aload_n (pc := 1179) dL_law_1179 rfl ?_
  refine L_arg (pc := 1180) (k := 1) hI hl (by decide) dL_law_1180 dL_law_1181 dL_law_1183 (by decide) dL_law_1184 dL_law_1185 ?_
  refine L_arg (pc := 1186) (k := 2) hI hl (by decide) dL_law_1186 dL_law_1187 dL_law_1189 (by decide) dL_law_1190 dL_law_1191 ?_
  refine yA_aload_n (pc := 1192) dL_law_1192 rfl ?_
  rcases he with rfl | he
  · exact L_wrap (pc := 1193) kwL_191 (tw_today hr) (by decide) rfl rfl (Or.inl rfl) (by omega) (by omega) dL_law_1193 (T 0 _ (h0.trans (by decide)) (fun _ => hv rfl))
  · rcases cI_cases he with rfl
    · exact L_wrap (pc := 1193) kwL_191 (tw_today_x1 hr) (by decide) rfl rfl (Or.inl rfl) (by omega) (by omega) dL_law_1193 (T 1 _ (h0.trans (by decide)) (fun q => absurd q (by decide)))
theorem tl_pair : zTl 1282 := ⟨dL_law_1282, dL_law_1284, dL_law_1285, dL_law_1288, dL_law_1290, dL_law_1295, dL_law_1297, dL_law_1300, dL_law_1301, dL_law_1302, dL_law_1303, dL_law_1305, dL_law_1306, dL_law_1307, 1373, dL_law_1312, by decide⟩
theorem C_pair {len I : Nat} {sc : Nat → Int32} {g : Bool} {f : Nat → Int32} {μX μM : zMem} {ca cb : Nat} (hI : I + 7 ≤ len) (hl : len ≤ 3584) (h : zInv μX μM) (k : ∀ (f' : Nat → Int32) (μX' μM' : zMem), zInv μX' μM' → zLaw len sc 2685 (zLoc (zi I) .null .null) [] g μM' f' μX' ca cb) : zLaw len sc 1247 (zLoc (zi I) .null .null) [] g μM f μX (ca + 1) (cb + 6) := by
  obtain ⟨e, v, μX', w, μM', hr, hr', h0, hv, he, hi⟩ := P_pair (x := sc (I + 1)) (y := sc (I + 2)) h
  have T : ∀ (kx : Int32) (f' : Nat → Int32), μM' 0 0 = kx → (kx = 0 → f' 0 = w) → zLaw len sc 1264 (zLoc (zi I) .null .null) [.int kx] g μM f' μX' ca cb := by
    intro kx f' q1 q2
    refine yA_istore (pc := 1264) (L' := zLoc (zi I) (.int kx) .null) dL_law_1264 (by decide) rfl ?_
    refine yA_aload_n (pc := 1266) dL_law_1266 rfl ?_
    refine L_arg (pc := 1267) (k := 1) hI hl (by decide) dL_law_1267 dL_law_1268 dL_law_1270 (by decide) dL_law_1271 dL_law_1272 ?_
    refine L_arg (pc := 1273) (k := 2) hI hl (by decide) dL_law_1273 dL_law_1274 dL_law_1276 (by decide) dL_law_1277 dL_law_1278 ?_
    refine L_ref (pc := 1279) (As := [.int (sc (I + 1)), .int (sc (I + 2))]) (st := []) kvL_196 (t9_pair (sc (I + 1)) (sc (I + 2)) μM) hr' (by decide) rfl rfl (fun q e => by cases e) (fun q e => by cases e) (fun w hw => absurd hw List.not_mem_nil) (by decide) dL_law_1279 ?_
    exact L_tail tl_pair q1 q2 (k f' μX' μM' hi)
  refine yA_aload_n (pc := 1247) dL_law_1247 rfl ?_
  refine L_arg (pc := 1248) (k := 1) hI hl (by decide) dL_law_1248 dL_law_1249 dL_law_1251 (by decide) dL_law_1252 dL_law_1253 ?_
  refine L_arg (pc := 1254) (k := 2) hI hl (by decide) dL_law_1254 dL_law_1255 dL_law_1257 (by decide) dL_law_1258 dL_law_1259 ?_
  refine yA_aload_n (pc := 1260) dL_law_1260 rfl ?_
  rcases he with rfl | he
  · exact L_wrap (pc := 1261) kwL_194 (tw_pair hr) (by decide) rfl rfl (Or.inl rfl) (by omega) (by omega) dL_law_1261 (T 0 _ (h0.trans (by decide)) (fun _ => hv rfl))
  · rcases cIB_cases he with rfl | rfl
    · exact L_wrap (pc := 1261) kwL_194 (tw_pair_x1 hr) (by decide) rfl rfl (Or.inl rfl) (by omega) (by omega) dL_law_1261 (T 1 _ (h0.trans (by decide)) (fun q => absurd q (by decide)))
    · exact L_wrap (pc := 1261) kwL_194 (tw_pair_x3 hr) (by decide) rfl rfl (Or.inl rfl) (by omega) (by omega) dL_law_1261 (T 2 _ (h0.trans (by decide)) (fun q => absurd q (by decide)))
theorem tl_bound : zTl 1338 := ⟨dL_law_1338, dL_law_1340, dL_law_1341, dL_law_1344, dL_law_1346, dL_law_1351, dL_law_1353, dL_law_1356, dL_law_1357, dL_law_1358, dL_law_1359, dL_law_1361, dL_law_1362, dL_law_1363, 1317, dL_law_1368, by decide⟩
theorem C_bound {len I : Nat} {sc : Nat → Int32} {g : Bool} {f : Nat → Int32} {μX μM : zMem} {ca cb : Nat} (hI : I + 7 ≤ len) (hl : len ≤ 3584) (h : zInv μX μM) (k : ∀ (f' : Nat → Int32) (μX' μM' : zMem), zInv μX' μM' → zLaw len sc 2685 (zLoc (zi I) .null .null) [] g μM' f' μX' ca cb) : zLaw len sc 1315 (zLoc (zi I) .null .null) [] g μM f μX (ca + 1) (cb + 6) := by
  obtain ⟨e, v, μX', w, μM', hr, hr', h0, hv, he, hi⟩ := P_bound (x := sc (I + 1)) h
  have T : ∀ (kx : Int32) (f' : Nat → Int32), μM' 0 0 = kx → (kx = 0 → f' 0 = w) → zLaw len sc 1326 (zLoc (zi I) .null .null) [.int kx] g μM f' μX' ca cb := by
    intro kx f' q1 q2
    refine yA_istore (pc := 1326) (L' := zLoc (zi I) (.int kx) .null) dL_law_1326 (by decide) rfl ?_
    refine yA_aload_n (pc := 1328) dL_law_1328 rfl ?_
    refine L_arg (pc := 1329) (k := 1) hI hl (by decide) dL_law_1329 dL_law_1330 dL_law_1332 (by decide) dL_law_1333 dL_law_1334 ?_
    refine L_ref (pc := 1335) (As := [.int (sc (I + 1))]) (st := []) kvL_199 (t9_bound (sc (I + 1)) μM) hr' (by decide) rfl rfl (fun q e => by cases e) (fun q e => by cases e) (fun w hw => absurd hw List.not_mem_nil) (by decide) dL_law_1335 ?_
    exact L_tail tl_bound q1 q2 (k f' μX' μM' hi)
  refine yA_aload_n (pc := 1315) dL_law_1315 rfl ?_
  refine L_arg (pc := 1316) (k := 1) hI hl (by decide) dL_law_1316 dL_law_1317 dL_law_1319 (by decide) dL_law_1320 dL_law_1321 ?_
  refine yA_aload_n (pc := 1322) dL_law_1322 rfl ?_
  rcases he with rfl | he
  · exact L_wrap (pc := 1323) kwL_197 (tw_bound hr) (by decide) rfl rfl (Or.inl rfl) (by omega) (by omega) dL_law_1323 (T 0 _ (h0.trans (by decide)) (fun _ => hv rfl))
  · rcases cI_cases he with rfl
    · exact L_wrap (pc := 1323) kwL_197 (tw_bound_x1 hr) (by decide) rfl rfl (Or.inl rfl) (by omega) (by omega) dL_law_1323 (T 1 _ (h0.trans (by decide)) (fun q => absurd q (by decide)))
theorem tl_need : zTl 1406 := ⟨dL_law_1406, dL_law_1408, dL_law_1409, dL_law_1412, dL_law_1414, dL_law_1419, dL_law_1421, dL_law_1424, dL_law_1425, dL_law_1426, dL_law_1427, dL_law_1429, dL_law_1430, dL_law_1431, 1249, dL_law_1436, by decide⟩
