/-! ===== the calls of the law ===== -/
theorem cl_feed {G : zG} {Y : zY} {L i k n : Nat} {xs : Nat → Int32} {a5 a6 : Option Value} {M : zM} {o : Int64} (hY : yC G Y L xs) (hL : i + 6 ≤ L ∧ L ≤ 3072) (hk : k ≤ 601024) (hn : n ≤ 7293034) (h : Rel M) (K : ∀ M2, Rel M2 → ZL G Y k n 1359 (lvL i a5 a6) [] M2 o) : ZL G Y k n 192 (lvL i a5 a6) [] M o := by
  obtain ⟨r, M1, M2, e1, e2, e3⟩ := k_feed h (xs (i + 1)) (xs (i + 2)) (xs (i + 3)) (xs (i + 4)) (xs (i + 5))
  refine y_aload_n hY dL_law_192 rfl _ rfl ?_
  refine y_arg (j := 1) hY hL dL_law_193 dL_law_194 dL_law_196 dL_law_197 dL_law_198 (by decide) (by omega) ?_
  refine y_arg (j := 2) hY hL dL_law_199 dL_law_200 dL_law_202 dL_law_203 dL_law_204 (by decide) (by omega) ?_
  refine y_arg (j := 3) hY hL dL_law_205 dL_law_206 dL_law_208 dL_law_209 dL_law_210 (by decide) (by omega) ?_
  refine y_arg (j := 4) hY hL dL_law_211 dL_law_212 dL_law_214 dL_law_215 dL_law_216 (by decide) (by omega) ?_
  refine y_arg (j := 5) hY hL dL_law_217 dL_law_218 dL_law_220 dL_law_221 dL_law_222 (by decide) (by omega) ?_
  refine y_callI hY vX9_feed lL_21 dL_law_223 zs_0 rfl (mX9_feed e1) (by decide) rfl rfl (Nat.le_of_ble_eq_true rfl) hk hn ?_
  refine y_aload_n hY dL_law_226 rfl _ rfl ?_
  refine y_arg (j := 1) hY hL dL_law_227 dL_law_228 dL_law_230 dL_law_231 dL_law_232 (by decide) (by omega) ?_
  refine y_arg (j := 2) hY hL dL_law_233 dL_law_234 dL_law_236 dL_law_237 dL_law_238 (by decide) (by omega) ?_
  refine y_arg (j := 3) hY hL dL_law_239 dL_law_240 dL_law_242 dL_law_243 dL_law_244 (by decide) (by omega) ?_
  refine y_arg (j := 4) hY hL dL_law_245 dL_law_246 dL_law_248 dL_law_249 dL_law_250 (by decide) (by omega) ?_
  refine y_arg (j := 5) hY hL dL_law_251 dL_law_252 dL_law_254 dL_law_255 dL_law_256 (by decide) (by omega) ?_
  refine y_callI hY vX10_feed lL_25 dL_law_257 zs_98 rfl (mX10_feed e2) (by decide) rfl rfl (Nat.le_of_ble_eq_true rfl) hk hn ?_
  exact y_icmp_eq hY dL_law_260 1359 _ (by decide) rfl (fun _ => K M2 e3) (fun w => absurd rfl w)
theorem cl_text {G : zG} {Y : zY} {L i k n : Nat} {xs : Nat → Int32} {a5 a6 : Option Value} {M : zM} {o : Int64} (hY : yC G Y L xs) (hL : i + 6 ≤ L ∧ L ≤ 3072) (hk : k ≤ 601024) (hn : n ≤ 7293034) (h : Rel M) (K : ∀ M2, Rel M2 → ZL G Y k n 1359 (lvL i a5 a6) [] M2 o) : ZL G Y k n 265 (lvL i a5 a6) [] M o := by
  obtain ⟨r, M1, M2, e1, e2, e3⟩ := k_text h (xs (i + 1))
  refine y_aload_n hY dL_law_265 rfl _ rfl ?_
  refine y_arg (j := 1) hY hL dL_law_266 dL_law_267 dL_law_269 dL_law_270 dL_law_271 (by decide) (by omega) ?_
  refine y_callI hY vX9_text lL_26 dL_law_272 zs_0 rfl (mX9_text e1) (by decide) rfl rfl (Nat.le_of_ble_eq_true rfl) hk hn ?_
  refine y_aload_n hY dL_law_275 rfl _ rfl ?_
  refine y_arg (j := 1) hY hL dL_law_276 dL_law_277 dL_law_279 dL_law_280 dL_law_281 (by decide) (by omega) ?_
  refine y_callI hY vX10_text lL_30 dL_law_282 zs_98 rfl (mX10_text e2) (by decide) rfl rfl (Nat.le_of_ble_eq_true rfl) hk hn ?_
  exact y_icmp_eq hY dL_law_285 1359 _ (by decide) rfl (fun _ => K M2 e3) (fun w => absurd rfl w)
theorem cl_fault {G : zG} {Y : zY} {L i k n : Nat} {xs : Nat → Int32} {a5 a6 : Option Value} {M : zM} {o : Int64} (hY : yC G Y L xs) (hL : i + 6 ≤ L ∧ L ≤ 3072) (hk : k ≤ 601024) (hn : n ≤ 7293034) (h : Rel M) (K : ∀ M2, Rel M2 → ZL G Y k n 1359 (lvL i a5 a6) [] M2 o) : ZL G Y k n 290 (lvL i a5 a6) [] M o := by
  obtain ⟨r, M2, e1, e2, e3⟩ := k_fault h (xs (i + 1))
  refine y_aload_n hY dL_law_290 rfl _ rfl ?_
  refine y_arg (j := 1) hY hL dL_law_291 dL_law_292 dL_law_294 dL_law_295 dL_law_296 (by decide) (by omega) ?_
  refine y_callIp hY vX9_fault lL_31 dL_law_297 zs_0 rfl (mX9_fault e1) (by decide) rfl rfl (Nat.le_of_ble_eq_true rfl) hk hn ?_
  refine y_aload_n hY dL_law_300 rfl _ rfl ?_
  refine y_arg (j := 1) hY hL dL_law_301 dL_law_302 dL_law_304 dL_law_305 dL_law_306 (by decide) (by omega) ?_
  refine y_callI hY vX10_fault lL_34 dL_law_307 zs_98 rfl (mX10_fault e2) (by decide) rfl rfl (Nat.le_of_ble_eq_true rfl) hk hn ?_
  exact y_icmp_eq hY dL_law_310 1359 _ (by decide) rfl (fun _ => K M2 e3) (fun w => absurd rfl w)
theorem cl_named {G : zG} {Y : zY} {L i k n : Nat} {xs : Nat → Int32} {a5 a6 : Option Value} {M : zM} {o : Int64} (hY : yC G Y L xs) (hL : i + 6 ≤ L ∧ L ≤ 3072) (hk : k ≤ 601024) (hn : n ≤ 7293034) (h : Rel M) (K : ∀ M2, Rel M2 → ZL G Y k n 1359 (lvL i a5 a6) [] M2 o) : ZL G Y k n 315 (lvL i a5 a6) [] M o := by
  obtain ⟨r, M2, e1, e2, e3⟩ := k_named h (xs (i + 1)) (xs (i + 2))
  refine y_aload_n hY dL_law_315 rfl _ rfl ?_
  refine y_arg (j := 1) hY hL dL_law_316 dL_law_317 dL_law_319 dL_law_320 dL_law_321 (by decide) (by omega) ?_
  refine y_arg (j := 2) hY hL dL_law_322 dL_law_323 dL_law_325 dL_law_326 dL_law_327 (by decide) (by omega) ?_
  refine y_callIp hY vX9_named lL_35 dL_law_328 zs_0 rfl (mX9_named e1) (by decide) rfl rfl (Nat.le_of_ble_eq_true rfl) hk hn ?_
  refine y_aload_n hY dL_law_331 rfl _ rfl ?_
  refine y_arg (j := 1) hY hL dL_law_332 dL_law_333 dL_law_335 dL_law_336 dL_law_337 (by decide) (by omega) ?_
  refine y_arg (j := 2) hY hL dL_law_338 dL_law_339 dL_law_341 dL_law_342 dL_law_343 (by decide) (by omega) ?_
  refine y_callI hY vX10_named lL_38 dL_law_344 zs_98 rfl (mX10_named e2) (by decide) rfl rfl (Nat.le_of_ble_eq_true rfl) hk hn ?_
  exact y_icmp_eq hY dL_law_347 1359 _ (by decide) rfl (fun _ => K M2 e3) (fun w => absurd rfl w)
theorem cl_thing {G : zG} {Y : zY} {L i k n : Nat} {xs : Nat → Int32} {a5 a6 : Option Value} {M : zM} {o : Int64} (hY : yC G Y L xs) (hL : i + 6 ≤ L ∧ L ≤ 3072) (hk : k ≤ 601024) (hn : n ≤ 7293034) (h : Rel M) (K : ∀ M2, Rel M2 → ZL G Y k n 1359 (lvL i a5 a6) [] M2 o) : ZL G Y k n 420 (lvL i a5 a6) [] M o := by
  obtain ⟨r, M2, e1, e2, e3⟩ := k_thing h (xs (i + 1)) (xs (i + 2))
  refine y_aload_n hY dL_law_420 rfl _ rfl ?_
  refine y_arg (j := 1) hY hL dL_law_421 dL_law_422 dL_law_424 dL_law_425 dL_law_426 (by decide) (by omega) ?_
  refine y_arg (j := 2) hY hL dL_law_427 dL_law_428 dL_law_430 dL_law_431 dL_law_432 (by decide) (by omega) ?_
  refine y_callIp hY vX9_thing lL_49 dL_law_433 zs_0 rfl (mX9_thing e1) (by decide) rfl rfl (Nat.le_of_ble_eq_true rfl) hk hn ?_
  refine y_aload_n hY dL_law_436 rfl _ rfl ?_
  refine y_arg (j := 1) hY hL dL_law_437 dL_law_438 dL_law_440 dL_law_441 dL_law_442 (by decide) (by omega) ?_
  refine y_arg (j := 2) hY hL dL_law_443 dL_law_444 dL_law_446 dL_law_447 dL_law_448 (by decide) (by omega) ?_
  refine y_callI hY vX10_thing lL_52 dL_law_449 zs_98 rfl (mX10_thing e2) (by decide) rfl rfl (Nat.le_of_ble_eq_true rfl) hk hn ?_
  exact y_icmp_eq hY dL_law_452 1359 _ (by decide) rfl (fun _ => K M2 e3) (fun w => absurd rfl w)
theorem cl_law {G : zG} {Y : zY} {L i k n : Nat} {xs : Nat → Int32} {a5 a6 : Option Value} {M : zM} {o : Int64} (hY : yC G Y L xs) (hL : i + 6 ≤ L ∧ L ≤ 3072) (hk : k ≤ 601024) (hn : n ≤ 7293034) (h : Rel M) (K : ∀ M2, Rel M2 → ZL G Y k n 1359 (lvL i a5 a6) [] M2 o) : ZL G Y k n 457 (lvL i a5 a6) [] M o := by
  obtain ⟨r, M1, M2, e1, e2, e3⟩ := k_law h (xs (i + 1)) (xs (i + 2))
  refine y_aload_n hY dL_law_457 rfl _ rfl ?_
  refine y_arg (j := 1) hY hL dL_law_458 dL_law_459 dL_law_461 dL_law_462 dL_law_463 (by decide) (by omega) ?_
  refine y_arg (j := 2) hY hL dL_law_464 dL_law_465 dL_law_467 dL_law_468 dL_law_469 (by decide) (by omega) ?_
  refine y_callL hY vX9_law lL_53 dL_law_470 zs_0 rfl (mX9_law e1) (by decide) rfl rfl (Nat.le_of_ble_eq_true rfl) hk hn ?_
  refine y_aload_n hY dL_law_473 rfl _ rfl ?_
  refine y_arg (j := 1) hY hL dL_law_474 dL_law_475 dL_law_477 dL_law_478 dL_law_479 (by decide) (by omega) ?_
  refine y_arg (j := 2) hY hL dL_law_480 dL_law_481 dL_law_483 dL_law_484 dL_law_485 (by decide) (by omega) ?_
  refine y_callL hY vX10_law lL_57 dL_law_486 zs_98 rfl (mX10_law e2) (by decide) rfl rfl (Nat.le_of_ble_eq_true rfl) hk hn ?_
  refine y_lcmp hY dL_law_489 _ rfl ?_
  exact y_if_eq hY dL_law_490 1359 _ (by decide) rfl (fun _ => K M2 e3) (fun w => absurd (lg_cmp_self _) w)
theorem cl_pay {G : zG} {Y : zY} {L i k n : Nat} {xs : Nat → Int32} {a5 a6 : Option Value} {M : zM} {o : Int64} (hY : yC G Y L xs) (hL : i + 6 ≤ L ∧ L ≤ 3072) (hk : k ≤ 601024) (hn : n ≤ 7293034) (h : Rel M) (K : ∀ M2, Rel M2 → ZL G Y k n 1359 (lvL i a5 a6) [] M2 o) : ZL G Y k n 495 (lvL i a5 a6) [] M o := by
  obtain ⟨r, M1, M2, e1, e2, e3⟩ := k_pay h (xs (i + 1)) (xs (i + 2))
  refine y_aload_n hY dL_law_495 rfl _ rfl ?_
  refine y_arg (j := 1) hY hL dL_law_496 dL_law_497 dL_law_499 dL_law_500 dL_law_501 (by decide) (by omega) ?_
  refine y_arg (j := 2) hY hL dL_law_502 dL_law_503 dL_law_505 dL_law_506 dL_law_507 (by decide) (by omega) ?_
  refine y_callI hY vX9_pay lL_58 dL_law_508 zs_0 rfl (mX9_pay e1) (by decide) rfl rfl (Nat.le_of_ble_eq_true rfl) hk hn ?_
  refine y_aload_n hY dL_law_511 rfl _ rfl ?_
  refine y_arg (j := 1) hY hL dL_law_512 dL_law_513 dL_law_515 dL_law_516 dL_law_517 (by decide) (by omega) ?_
  refine y_arg (j := 2) hY hL dL_law_518 dL_law_519 dL_law_521 dL_law_522 dL_law_523 (by decide) (by omega) ?_
  refine y_callI hY vX10_pay lL_61 dL_law_524 zs_98 rfl (mX10_pay e2) (by decide) rfl rfl (Nat.le_of_ble_eq_true rfl) hk hn ?_
  exact y_icmp_eq hY dL_law_527 1359 _ (by decide) rfl (fun _ => K M2 e3) (fun w => absurd rfl w)
theorem cl_swap {G : zG} {Y : zY} {L i k n : Nat} {xs : Nat → Int32} {a5 a6 : Option Value} {M : zM} {o : Int64} (hY : yC G Y L xs) (hL : i + 6 ≤ L ∧ L ≤ 3072) (hk : k ≤ 601024) (hn : n ≤ 7293034) (h : Rel M) (K : ∀ M2, Rel M2 → ZL G Y k n 1359 (lvL i a5 a6) [] M2 o) : ZL G Y k n 532 (lvL i a5 a6) [] M o := by
  obtain ⟨r, M1, M2, e1, e2, e3⟩ := k_swap h (xs (i + 1)) (xs (i + 2))
  refine y_aload_n hY dL_law_532 rfl _ rfl ?_
  refine y_arg (j := 1) hY hL dL_law_533 dL_law_534 dL_law_536 dL_law_537 dL_law_538 (by decide) (by omega) ?_
  refine y_arg (j := 2) hY hL dL_law_539 dL_law_540 dL_law_542 dL_law_543 dL_law_544 (by decide) (by omega) ?_
  refine y_callI hY vX9_swap lL_62 dL_law_545 zs_0 rfl (mX9_swap e1) (by decide) rfl rfl (Nat.le_of_ble_eq_true rfl) hk hn ?_
  refine y_aload_n hY dL_law_548 rfl _ rfl ?_
  refine y_arg (j := 1) hY hL dL_law_549 dL_law_550 dL_law_552 dL_law_553 dL_law_554 (by decide) (by omega) ?_
  refine y_arg (j := 2) hY hL dL_law_555 dL_law_556 dL_law_558 dL_law_559 dL_law_560 (by decide) (by omega) ?_
  refine y_callI hY vX10_swap lL_66 dL_law_561 zs_98 rfl (mX10_swap e2) (by decide) rfl rfl (Nat.le_of_ble_eq_true rfl) hk hn ?_
  exact y_icmp_eq hY dL_law_564 1359 _ (by decide) rfl (fun _ => K M2 e3) (fun w => absurd rfl w)
theorem cl_hold {G : zG} {Y : zY} {L i k n : Nat} {xs : Nat → Int32} {a5 a6 : Option Value} {M : zM} {o : Int64} (hY : yC G Y L xs) (hL : i + 6 ≤ L ∧ L ≤ 3072) (hk : k ≤ 601024) (hn : n ≤ 7293034) (h : Rel M) (K : ∀ M2, Rel M2 → ZL G Y k n 1359 (lvL i a5 a6) [] M2 o) : ZL G Y k n 569 (lvL i a5 a6) [] M o := by
  obtain ⟨r, M1, M2, e1, e2, e3⟩ := k_hold h (xs (i + 1)) (yb (xs (i + 2))) (yb_or (xs (i + 2)))
  refine y_aload_n hY dL_law_569 rfl _ rfl ?_
  refine y_arg (j := 1) hY hL dL_law_570 dL_law_571 dL_law_573 dL_law_574 dL_law_575 (by decide) (by omega) ?_
  refine y_arg (j := 2) hY hL dL_law_576 dL_law_577 dL_law_579 dL_law_580 dL_law_581 (by decide) (by omega) ?_
  refine y_bool hY dL_law_582 dL_law_585 dL_law_586 dL_law_589 ?_
  refine y_callI hY vX9_hold lL_67 dL_law_590 zs_0 rfl (mX9_hold e1) (by decide) rfl rfl (Nat.le_of_ble_eq_true rfl) hk hn ?_
  refine y_aload_n hY dL_law_593 rfl _ rfl ?_
  refine y_arg (j := 1) hY hL dL_law_594 dL_law_595 dL_law_597 dL_law_598 dL_law_599 (by decide) (by omega) ?_
  refine y_arg (j := 2) hY hL dL_law_600 dL_law_601 dL_law_603 dL_law_604 dL_law_605 (by decide) (by omega) ?_
  refine y_bool hY dL_law_606 dL_law_609 dL_law_610 dL_law_613 ?_
  refine y_callI hY vX10_hold lL_71 dL_law_614 zs_98 rfl (mX10_hold e2) (by decide) rfl rfl (Nat.le_of_ble_eq_true rfl) hk hn ?_
  exact y_icmp_eq hY dL_law_617 1359 _ (by decide) rfl (fun _ => K M2 e3) (fun w => absurd rfl w)
theorem cl_wet {G : zG} {Y : zY} {L i k n : Nat} {xs : Nat → Int32} {a5 a6 : Option Value} {M : zM} {o : Int64} (hY : yC G Y L xs) (hL : i + 6 ≤ L ∧ L ≤ 3072) (hk : k ≤ 601024) (hn : n ≤ 7293034) (h : Rel M) (K : ∀ M2, Rel M2 → ZL G Y k n 1359 (lvL i a5 a6) [] M2 o) : ZL G Y k n 622 (lvL i a5 a6) [] M o := by
  obtain ⟨r, M1, M2, e1, e2, e3⟩ := k_wet h (xs (i + 1)) (xs (i + 2))
  refine y_aload_n hY dL_law_622 rfl _ rfl ?_
  refine y_arg (j := 1) hY hL dL_law_623 dL_law_624 dL_law_626 dL_law_627 dL_law_628 (by decide) (by omega) ?_
  refine y_arg (j := 2) hY hL dL_law_629 dL_law_630 dL_law_632 dL_law_633 dL_law_634 (by decide) (by omega) ?_
  refine y_callI hY vX9_wet lL_72 dL_law_635 zs_0 rfl (mX9_wet e1) (by decide) rfl rfl (Nat.le_of_ble_eq_true rfl) hk hn ?_
  refine y_aload_n hY dL_law_638 rfl _ rfl ?_
  refine y_arg (j := 1) hY hL dL_law_639 dL_law_640 dL_law_642 dL_law_643 dL_law_644 (by decide) (by omega) ?_
  refine y_arg (j := 2) hY hL dL_law_645 dL_law_646 dL_law_648 dL_law_649 dL_law_650 (by decide) (by omega) ?_
  refine y_callI hY vX10_wet lL_75 dL_law_651 zs_98 rfl (mX10_wet e2) (by decide) rfl rfl (Nat.le_of_ble_eq_true rfl) hk hn ?_
  exact y_icmp_eq hY dL_law_654 1359 _ (by decide) rfl (fun _ => K M2 e3) (fun w => absurd rfl w)
theorem cl_go {G : zG} {Y : zY} {L i k n : Nat} {xs : Nat → Int32} {a5 a6 : Option Value} {M : zM} {o : Int64} (hY : yC G Y L xs) (hL : i + 6 ≤ L ∧ L ≤ 3072) (hk : k ≤ 601024) (hn : n ≤ 7293034) (h : Rel M) (K : ∀ M2, Rel M2 → ZL G Y k n 1359 (lvL i a5 a6) [] M2 o) : ZL G Y k n 659 (lvL i a5 a6) [] M o := by
  obtain ⟨r, M1, M2, e1, e2, e3⟩ := k_go h (xs (i + 1))
  refine y_aload_n hY dL_law_659 rfl _ rfl ?_
  refine y_arg (j := 1) hY hL dL_law_660 dL_law_661 dL_law_663 dL_law_664 dL_law_665 (by decide) (by omega) ?_
  refine y_callI hY vX9_go lL_76 dL_law_666 zs_0 rfl (mX9_go e1) (by decide) rfl rfl (Nat.le_of_ble_eq_true rfl) hk hn ?_
  refine y_aload_n hY dL_law_669 rfl _ rfl ?_
  refine y_arg (j := 1) hY hL dL_law_670 dL_law_671 dL_law_673 dL_law_674 dL_law_675 (by decide) (by omega) ?_
  refine y_callI hY vX10_go lL_79 dL_law_676 zs_98 rfl (mX10_go e2) (by decide) rfl rfl (Nat.le_of_ble_eq_true rfl) hk hn ?_
  exact y_icmp_eq hY dL_law_679 1359 _ (by decide) rfl (fun _ => K M2 e3) (fun w => absurd rfl w)
theorem cl_ahead {G : zG} {Y : zY} {L i k n : Nat} {xs : Nat → Int32} {a5 a6 : Option Value} {M : zM} {o : Int64} (hY : yC G Y L xs) (hL : i + 6 ≤ L ∧ L ≤ 3072) (hk : k ≤ 601024) (hn : n ≤ 7293034) (h : Rel M) (K : ∀ M2, Rel M2 → ZL G Y k n 1359 (lvL i a5 a6) [] M2 o) : ZL G Y k n 684 (lvL i a5 a6) [] M o := by
  obtain ⟨r, M1, M2, e1, e2, e3⟩ := k_ahead h (xs (i + 1)) (xs (i + 2))
  refine y_aload_n hY dL_law_684 rfl _ rfl ?_
  refine y_arg (j := 1) hY hL dL_law_685 dL_law_686 dL_law_688 dL_law_689 dL_law_690 (by decide) (by omega) ?_
  refine y_arg (j := 2) hY hL dL_law_691 dL_law_692 dL_law_694 dL_law_695 dL_law_696 (by decide) (by omega) ?_
  refine y_callI hY vX9_ahead lL_80 dL_law_697 zs_0 rfl (mX9_ahead e1) (by decide) rfl rfl (Nat.le_of_ble_eq_true rfl) hk hn ?_
  refine y_aload_n hY dL_law_700 rfl _ rfl ?_
  refine y_arg (j := 1) hY hL dL_law_701 dL_law_702 dL_law_704 dL_law_705 dL_law_706 (by decide) (by omega) ?_
  refine y_arg (j := 2) hY hL dL_law_707 dL_law_708 dL_law_710 dL_law_711 dL_law_712 (by decide) (by omega) ?_
  refine y_callI hY vX10_ahead lL_83 dL_law_713 zs_98 rfl (mX10_ahead e2) (by decide) rfl rfl (Nat.le_of_ble_eq_true rfl) hk hn ?_
  exact y_icmp_eq hY dL_law_716 1359 _ (by decide) rfl (fun _ => K M2 e3) (fun w => absurd rfl w)
theorem cl_goes {G : zG} {Y : zY} {L i k n : Nat} {xs : Nat → Int32} {a5 a6 : Option Value} {M : zM} {o : Int64} (hY : yC G Y L xs) (hL : i + 6 ≤ L ∧ L ≤ 3072) (hk : k ≤ 601024) (hn : n ≤ 7293034) (h : Rel M) (K : ∀ M2, Rel M2 → ZL G Y k n 1359 (lvL i a5 a6) [] M2 o) : ZL G Y k n 721 (lvL i a5 a6) [] M o := by
  obtain ⟨r, M1, M2, e1, e2, e3⟩ := k_goes h (xs (i + 1))
  refine y_aload_n hY dL_law_721 rfl _ rfl ?_
  refine y_arg (j := 1) hY hL dL_law_722 dL_law_723 dL_law_725 dL_law_726 dL_law_727 (by decide) (by omega) ?_
  refine y_callI hY vX9_goes lL_84 dL_law_728 zs_0 rfl (mX9_goes e1) (by decide) rfl rfl (Nat.le_of_ble_eq_true rfl) hk hn ?_
  refine y_aload_n hY dL_law_731 rfl _ rfl ?_
  refine y_arg (j := 1) hY hL dL_law_732 dL_law_733 dL_law_735 dL_law_736 dL_law_737 (by decide) (by omega) ?_
  refine y_callI hY vX10_goes lL_87 dL_law_738 zs_98 rfl (mX10_goes e2) (by decide) rfl rfl (Nat.le_of_ble_eq_true rfl) hk hn ?_
  exact y_icmp_eq hY dL_law_741 1359 _ (by decide) rfl (fun _ => K M2 e3) (fun w => absurd rfl w)
theorem cl_out {G : zG} {Y : zY} {L i k n : Nat} {xs : Nat → Int32} {a5 a6 : Option Value} {M : zM} {o : Int64} (hY : yC G Y L xs) (hL : i + 6 ≤ L ∧ L ≤ 3072) (hk : k ≤ 601024) (hn : n ≤ 7293034) (h : Rel M) (K : ∀ M2, Rel M2 → ZL G Y k n 1359 (lvL i a5 a6) [] M2 o) : ZL G Y k n 746 (lvL i a5 a6) [] M o := by
  obtain ⟨r, M1, M2, e1, e2, e3⟩ := k_out h (xs (i + 1))
  refine y_aload_n hY dL_law_746 rfl _ rfl ?_
  refine y_arg (j := 1) hY hL dL_law_747 dL_law_748 dL_law_750 dL_law_751 dL_law_752 (by decide) (by omega) ?_
  refine y_callI hY vX9_out lL_88 dL_law_753 zs_0 rfl (mX9_out e1) (by decide) rfl rfl (Nat.le_of_ble_eq_true rfl) hk hn ?_
  refine y_aload_n hY dL_law_756 rfl _ rfl ?_
  refine y_arg (j := 1) hY hL dL_law_757 dL_law_758 dL_law_760 dL_law_761 dL_law_762 (by decide) (by omega) ?_
  refine y_callI hY vX10_out lL_91 dL_law_763 zs_98 rfl (mX10_out e2) (by decide) rfl rfl (Nat.le_of_ble_eq_true rfl) hk hn ?_
  exact y_icmp_eq hY dL_law_766 1359 _ (by decide) rfl (fun _ => K M2 e3) (fun w => absurd rfl w)
theorem cl_premium {G : zG} {Y : zY} {L i k n : Nat} {xs : Nat → Int32} {a5 a6 : Option Value} {M : zM} {o : Int64} (hY : yC G Y L xs) (hL : i + 6 ≤ L ∧ L ≤ 3072) (hk : k ≤ 601024) (hn : n ≤ 7293034) (h : Rel M) (K : ∀ M2, Rel M2 → ZL G Y k n 1359 (lvL i a5 a6) [] M2 o) : ZL G Y k n 771 (lvL i a5 a6) [] M o := by
  obtain ⟨r, M1, M2, e1, e2, e3⟩ := k_premium h (xs (i + 1))
  refine y_aload_n hY dL_law_771 rfl _ rfl ?_
  refine y_arg (j := 1) hY hL dL_law_772 dL_law_773 dL_law_775 dL_law_776 dL_law_777 (by decide) (by omega) ?_
  refine y_callI hY vX9_premium lL_92 dL_law_778 zs_0 rfl (mX9_premium e1) (by decide) rfl rfl (Nat.le_of_ble_eq_true rfl) hk hn ?_
  refine y_aload_n hY dL_law_781 rfl _ rfl ?_
  refine y_arg (j := 1) hY hL dL_law_782 dL_law_783 dL_law_785 dL_law_786 dL_law_787 (by decide) (by omega) ?_
  refine y_callI hY vX10_premium lL_95 dL_law_788 zs_98 rfl (mX10_premium e2) (by decide) rfl rfl (Nat.le_of_ble_eq_true rfl) hk hn ?_
  exact y_icmp_eq hY dL_law_791 1359 _ (by decide) rfl (fun _ => K M2 e3) (fun w => absurd rfl w)
theorem cl_cover {G : zG} {Y : zY} {L i k n : Nat} {xs : Nat → Int32} {a5 a6 : Option Value} {M : zM} {o : Int64} (hY : yC G Y L xs) (hL : i + 6 ≤ L ∧ L ≤ 3072) (hk : k ≤ 601024) (hn : n ≤ 7293034) (h : Rel M) (K : ∀ M2, Rel M2 → ZL G Y k n 1359 (lvL i a5 a6) [] M2 o) : ZL G Y k n 796 (lvL i a5 a6) [] M o := by
  obtain ⟨r, M1, M2, e1, e2, e3⟩ := k_cover h (xs (i + 1))
  refine y_aload_n hY dL_law_796 rfl _ rfl ?_
  refine y_arg (j := 1) hY hL dL_law_797 dL_law_798 dL_law_800 dL_law_801 dL_law_802 (by decide) (by omega) ?_
  refine y_callI hY vX9_cover lL_96 dL_law_803 zs_0 rfl (mX9_cover e1) (by decide) rfl rfl (Nat.le_of_ble_eq_true rfl) hk hn ?_
  refine y_aload_n hY dL_law_806 rfl _ rfl ?_
  refine y_arg (j := 1) hY hL dL_law_807 dL_law_808 dL_law_810 dL_law_811 dL_law_812 (by decide) (by omega) ?_
  refine y_callI hY vX10_cover lL_99 dL_law_813 zs_98 rfl (mX10_cover e2) (by decide) rfl rfl (Nat.le_of_ble_eq_true rfl) hk hn ?_
  exact y_icmp_eq hY dL_law_816 1359 _ (by decide) rfl (fun _ => K M2 e3) (fun w => absurd rfl w)
theorem cl_match {G : zG} {Y : zY} {L i k n : Nat} {xs : Nat → Int32} {a5 a6 : Option Value} {M : zM} {o : Int64} (hY : yC G Y L xs) (hL : i + 6 ≤ L ∧ L ≤ 3072) (hk : k ≤ 601024) (hn : n ≤ 7293034) (h : Rel M) (K : ∀ M2, Rel M2 → ZL G Y k n 1359 (lvL i a5 a6) [] M2 o) : ZL G Y k n 821 (lvL i a5 a6) [] M o := by
  obtain ⟨r, M1, M2, e1, e2, e3⟩ := k_match h (xs (i + 1))
  refine y_aload_n hY dL_law_821 rfl _ rfl ?_
  refine y_arg (j := 1) hY hL dL_law_822 dL_law_823 dL_law_825 dL_law_826 dL_law_827 (by decide) (by omega) ?_
  refine y_callI hY vX9_match lL_100 dL_law_828 zs_0 rfl (mX9_match e1) (by decide) rfl rfl (Nat.le_of_ble_eq_true rfl) hk hn ?_
  refine y_aload_n hY dL_law_831 rfl _ rfl ?_
  refine y_arg (j := 1) hY hL dL_law_832 dL_law_833 dL_law_835 dL_law_836 dL_law_837 (by decide) (by omega) ?_
  refine y_callI hY vX10_match lL_103 dL_law_838 zs_98 rfl (mX10_match e2) (by decide) rfl rfl (Nat.le_of_ble_eq_true rfl) hk hn ?_
  exact y_icmp_eq hY dL_law_841 1359 _ (by decide) rfl (fun _ => K M2 e3) (fun w => absurd rfl w)
theorem cl_order {G : zG} {Y : zY} {L i k n : Nat} {xs : Nat → Int32} {a5 a6 : Option Value} {M : zM} {o : Int64} (hY : yC G Y L xs) (hL : i + 6 ≤ L ∧ L ≤ 3072) (hk : k ≤ 601024) (hn : n ≤ 7293034) (h : Rel M) (K : ∀ M2, Rel M2 → ZL G Y k n 1359 (lvL i a5 a6) [] M2 o) : ZL G Y k n 846 (lvL i a5 a6) [] M o := by
  obtain ⟨r, M1, M2, e1, e2, e3⟩ := k_order h (xs (i + 1))
  refine y_aload_n hY dL_law_846 rfl _ rfl ?_
  refine y_arg (j := 1) hY hL dL_law_847 dL_law_848 dL_law_850 dL_law_851 dL_law_852 (by decide) (by omega) ?_
  refine y_callI hY vX9_order lL_104 dL_law_853 zs_0 rfl (mX9_order e1) (by decide) rfl rfl (Nat.le_of_ble_eq_true rfl) hk hn ?_
  refine y_aload_n hY dL_law_856 rfl _ rfl ?_
  refine y_arg (j := 1) hY hL dL_law_857 dL_law_858 dL_law_860 dL_law_861 dL_law_862 (by decide) (by omega) ?_
  refine y_callI hY vX10_order lL_107 dL_law_863 zs_98 rfl (mX10_order e2) (by decide) rfl rfl (Nat.le_of_ble_eq_true rfl) hk hn ?_
  exact y_icmp_eq hY dL_law_866 1359 _ (by decide) rfl (fun _ => K M2 e3) (fun w => absurd rfl w)
theorem cl_rests {G : zG} {Y : zY} {L i k n : Nat} {xs : Nat → Int32} {a5 a6 : Option Value} {M : zM} {o : Int64} (hY : yC G Y L xs) (hL : i + 6 ≤ L ∧ L ≤ 3072) (hk : k ≤ 601024) (hn : n ≤ 7293034) (h : Rel M) (K : ∀ M2, Rel M2 → ZL G Y k n 1359 (lvL i a5 a6) [] M2 o) : ZL G Y k n 871 (lvL i a5 a6) [] M o := by
  obtain ⟨r, M2, e1, e2, e3⟩ := k_rests h (xs (i + 1)) (xs (i + 2))
  refine y_aload_n hY dL_law_871 rfl _ rfl ?_
  refine y_arg (j := 1) hY hL dL_law_872 dL_law_873 dL_law_875 dL_law_876 dL_law_877 (by decide) (by omega) ?_
  refine y_arg (j := 2) hY hL dL_law_878 dL_law_879 dL_law_881 dL_law_882 dL_law_883 (by decide) (by omega) ?_
  refine y_callIp hY vX9_rests lL_108 dL_law_884 zs_0 rfl (mX9_rests e1) (by decide) rfl rfl (Nat.le_of_ble_eq_true rfl) hk hn ?_
  refine y_aload_n hY dL_law_887 rfl _ rfl ?_
  refine y_arg (j := 1) hY hL dL_law_888 dL_law_889 dL_law_891 dL_law_892 dL_law_893 (by decide) (by omega) ?_
  refine y_arg (j := 2) hY hL dL_law_894 dL_law_895 dL_law_897 dL_law_898 dL_law_899 (by decide) (by omega) ?_
  refine y_callI hY vX10_rests lL_111 dL_law_900 zs_98 rfl (mX10_rests e2) (by decide) rfl rfl (Nat.le_of_ble_eq_true rfl) hk hn ?_
  exact y_icmp_eq hY dL_law_903 1359 _ (by decide) rfl (fun _ => K M2 e3) (fun w => absurd rfl w)
theorem cl_rest {G : zG} {Y : zY} {L i k n : Nat} {xs : Nat → Int32} {a5 a6 : Option Value} {M : zM} {o : Int64} (hY : yC G Y L xs) (hL : i + 6 ≤ L ∧ L ≤ 3072) (hk : k ≤ 601024) (hn : n ≤ 7293034) (h : Rel M) (K : ∀ M2, Rel M2 → ZL G Y k n 1359 (lvL i a5 a6) [] M2 o) : ZL G Y k n 908 (lvL i a5 a6) [] M o := by
  obtain ⟨r, M2, e1, e2, e3⟩ := k_rest h (xs (i + 1)) (xs (i + 2)) (xs (i + 3))
  refine y_aload_n hY dL_law_908 rfl _ rfl ?_
  refine y_arg (j := 1) hY hL dL_law_909 dL_law_910 dL_law_912 dL_law_913 dL_law_914 (by decide) (by omega) ?_
  refine y_arg (j := 2) hY hL dL_law_915 dL_law_916 dL_law_918 dL_law_919 dL_law_920 (by decide) (by omega) ?_
  refine y_arg (j := 3) hY hL dL_law_921 dL_law_922 dL_law_924 dL_law_925 dL_law_926 (by decide) (by omega) ?_
  refine y_callIp hY vX9_rest lL_112 dL_law_927 zs_0 rfl (mX9_rest e1) (by decide) rfl rfl (Nat.le_of_ble_eq_true rfl) hk hn ?_
  refine y_aload_n hY dL_law_930 rfl _ rfl ?_
  refine y_arg (j := 1) hY hL dL_law_931 dL_law_932 dL_law_934 dL_law_935 dL_law_936 (by decide) (by omega) ?_
  refine y_arg (j := 2) hY hL dL_law_937 dL_law_938 dL_law_940 dL_law_941 dL_law_942 (by decide) (by omega) ?_
  refine y_arg (j := 3) hY hL dL_law_943 dL_law_944 dL_law_946 dL_law_947 dL_law_948 (by decide) (by omega) ?_
  refine y_callI hY vX10_rest lL_116 dL_law_949 zs_98 rfl (mX10_rest e2) (by decide) rfl rfl (Nat.le_of_ble_eq_true rfl) hk hn ?_
  exact y_icmp_eq hY dL_law_952 1359 _ (by decide) rfl (fun _ => K M2 e3) (fun w => absurd rfl w)
theorem cl_comesBack {G : zG} {Y : zY} {L i k n : Nat} {xs : Nat → Int32} {a5 a6 : Option Value} {M : zM} {o : Int64} (hY : yC G Y L xs) (hL : i + 6 ≤ L ∧ L ≤ 3072) (hk : k ≤ 601024) (hn : n ≤ 7293034) (h : Rel M) (K : ∀ M2, Rel M2 → ZL G Y k n 1359 (lvL i a5 a6) [] M2 o) : ZL G Y k n 957 (lvL i a5 a6) [] M o := by
  obtain ⟨r, M2, e1, e2, e3⟩ := k_comesBack h (xs (i + 1)) (xs (i + 2))
  refine y_aload_n hY dL_law_957 rfl _ rfl ?_
  refine y_arg (j := 1) hY hL dL_law_958 dL_law_959 dL_law_961 dL_law_962 dL_law_963 (by decide) (by omega) ?_
  refine y_arg (j := 2) hY hL dL_law_964 dL_law_965 dL_law_967 dL_law_968 dL_law_969 (by decide) (by omega) ?_
  refine y_callLp hY vX9_comesBack lL_117 dL_law_970 zs_0 rfl (mX9_comesBack e1) (by decide) rfl rfl (Nat.le_of_ble_eq_true rfl) hk hn ?_
  refine y_aload_n hY dL_law_973 rfl _ rfl ?_
  refine y_arg (j := 1) hY hL dL_law_974 dL_law_975 dL_law_977 dL_law_978 dL_law_979 (by decide) (by omega) ?_
  refine y_arg (j := 2) hY hL dL_law_980 dL_law_981 dL_law_983 dL_law_984 dL_law_985 (by decide) (by omega) ?_
  refine y_callL hY vX10_comesBack lL_120 dL_law_986 zs_98 rfl (mX10_comesBack e2) (by decide) rfl rfl (Nat.le_of_ble_eq_true rfl) hk hn ?_
  refine y_lcmp hY dL_law_989 _ rfl ?_
  exact y_if_eq hY dL_law_990 1359 _ (by decide) rfl (fun _ => K M2 e3) (fun w => absurd (lg_cmp_self _) w)
theorem cl_widow {G : zG} {Y : zY} {L i k n : Nat} {xs : Nat → Int32} {a5 a6 : Option Value} {M : zM} {o : Int64} (hY : yC G Y L xs) (hL : i + 6 ≤ L ∧ L ≤ 3072) (hk : k ≤ 601024) (hn : n ≤ 7293034) (h : Rel M) (K : ∀ M2, Rel M2 → ZL G Y k n 1359 (lvL i a5 a6) [] M2 o) : ZL G Y k n 995 (lvL i a5 a6) [] M o := by
  obtain ⟨r, M2, e1, e2, e3⟩ := k_widow h (xs (i + 1)) (xs (i + 2))
  refine y_aload_n hY dL_law_995 rfl _ rfl ?_
  refine y_arg (j := 1) hY hL dL_law_996 dL_law_997 dL_law_999 dL_law_1000 dL_law_1001 (by decide) (by omega) ?_
  refine y_arg (j := 2) hY hL dL_law_1002 dL_law_1003 dL_law_1005 dL_law_1006 dL_law_1007 (by decide) (by omega) ?_
  refine y_callIp hY vX9_widow lL_121 dL_law_1008 zs_0 rfl (mX9_widow e1) (by decide) rfl rfl (Nat.le_of_ble_eq_true rfl) hk hn ?_
  refine y_aload_n hY dL_law_1011 rfl _ rfl ?_
  refine y_arg (j := 1) hY hL dL_law_1012 dL_law_1013 dL_law_1015 dL_law_1016 dL_law_1017 (by decide) (by omega) ?_
  refine y_arg (j := 2) hY hL dL_law_1018 dL_law_1019 dL_law_1021 dL_law_1022 dL_law_1023 (by decide) (by omega) ?_
  refine y_callI hY vX10_widow lL_124 dL_law_1024 zs_98 rfl (mX10_widow e2) (by decide) rfl rfl (Nat.le_of_ble_eq_true rfl) hk hn ?_
  exact y_icmp_eq hY dL_law_1027 1359 _ (by decide) rfl (fun _ => K M2 e3) (fun w => absurd rfl w)
theorem cl_next {G : zG} {Y : zY} {L i k n : Nat} {xs : Nat → Int32} {a5 a6 : Option Value} {M : zM} {o : Int64} (hY : yC G Y L xs) (hL : i + 6 ≤ L ∧ L ≤ 3072) (hk : k ≤ 601024) (hn : n ≤ 7293034) (h : Rel M) (K : ∀ M2, Rel M2 → ZL G Y k n 1359 (lvL i a5 a6) [] M2 o) : ZL G Y k n 1032 (lvL i a5 a6) [] M o := by
  obtain ⟨r, M2, e1, e2, e3⟩ := k_next h (xs (i + 1))
  refine y_aload_n hY dL_law_1032 rfl _ rfl ?_
  refine y_arg (j := 1) hY hL dL_law_1033 dL_law_1034 dL_law_1036 dL_law_1037 dL_law_1038 (by decide) (by omega) ?_
  refine y_callIp hY vX9_next lL_125 dL_law_1039 zs_0 rfl (mX9_next e1) (by decide) rfl rfl (Nat.le_of_ble_eq_true rfl) hk hn ?_
  refine y_aload_n hY dL_law_1042 rfl _ rfl ?_
  refine y_arg (j := 1) hY hL dL_law_1043 dL_law_1044 dL_law_1046 dL_law_1047 dL_law_1048 (by decide) (by omega) ?_
  refine y_callI hY vX10_next lL_128 dL_law_1049 zs_98 rfl (mX10_next e2) (by decide) rfl rfl (Nat.le_of_ble_eq_true rfl) hk hn ?_
  exact y_icmp_eq hY dL_law_1052 1359 _ (by decide) rfl (fun _ => K M2 e3) (fun w => absurd rfl w)
theorem cl_see {G : zG} {Y : zY} {L i k n : Nat} {xs : Nat → Int32} {a5 a6 : Option Value} {M : zM} {o : Int64} (hY : yC G Y L xs) (hL : i + 6 ≤ L ∧ L ≤ 3072) (hk : k ≤ 601024) (hn : n ≤ 7293034) (h : Rel M) (K : ∀ M2, Rel M2 → ZL G Y k n 1359 (lvL i a5 a6) [] M2 o) : ZL G Y k n 1057 (lvL i a5 a6) [] M o := by
  obtain ⟨r, M1, M2, e1, e2, e3⟩ := k_see h (xs (i + 1)) (xs (i + 2)) (yb (xs (i + 3))) (yb_or (xs (i + 3)))
  refine y_aload_n hY dL_law_1057 rfl _ rfl ?_
  refine y_arg (j := 1) hY hL dL_law_1058 dL_law_1059 dL_law_1061 dL_law_1062 dL_law_1063 (by decide) (by omega) ?_
  refine y_arg (j := 2) hY hL dL_law_1064 dL_law_1065 dL_law_1067 dL_law_1068 dL_law_1069 (by decide) (by omega) ?_
  refine y_arg (j := 3) hY hL dL_law_1070 dL_law_1071 dL_law_1073 dL_law_1074 dL_law_1075 (by decide) (by omega) ?_
  refine y_bool hY dL_law_1076 dL_law_1079 dL_law_1080 dL_law_1083 ?_
  refine y_callI hY vX9_see lL_129 dL_law_1084 zs_0 rfl (mX9_see e1) (by decide) rfl rfl (Nat.le_of_ble_eq_true rfl) hk hn ?_
  refine y_aload_n hY dL_law_1087 rfl _ rfl ?_
  refine y_arg (j := 1) hY hL dL_law_1088 dL_law_1089 dL_law_1091 dL_law_1092 dL_law_1093 (by decide) (by omega) ?_
  refine y_arg (j := 2) hY hL dL_law_1094 dL_law_1095 dL_law_1097 dL_law_1098 dL_law_1099 (by decide) (by omega) ?_
  refine y_arg (j := 3) hY hL dL_law_1100 dL_law_1101 dL_law_1103 dL_law_1104 dL_law_1105 (by decide) (by omega) ?_
  refine y_bool hY dL_law_1106 dL_law_1109 dL_law_1110 dL_law_1113 ?_
  refine y_callI hY vX10_see lL_133 dL_law_1114 zs_98 rfl (mX10_see e2) (by decide) rfl rfl (Nat.le_of_ble_eq_true rfl) hk hn ?_
  exact y_icmp_eq hY dL_law_1117 1359 _ (by decide) rfl (fun _ => K M2 e3) (fun w => absurd rfl w)
theorem cl_strike {G : zG} {Y : zY} {L i k n : Nat} {xs : Nat → Int32} {a5 a6 : Option Value} {M : zM} {o : Int64} (hY : yC G Y L xs) (hL : i + 6 ≤ L ∧ L ≤ 3072) (hk : k ≤ 601024) (hn : n ≤ 7293034) (h : Rel M) (K : ∀ M2, Rel M2 → ZL G Y k n 1359 (lvL i a5 a6) [] M2 o) : ZL G Y k n 1122 (lvL i a5 a6) [] M o := by
  obtain ⟨r, M1, M2, e1, e2, e3⟩ := k_strike h (xs (i + 1))
  refine y_aload_n hY dL_law_1122 rfl _ rfl ?_
  refine y_arg (j := 1) hY hL dL_law_1123 dL_law_1124 dL_law_1126 dL_law_1127 dL_law_1128 (by decide) (by omega) ?_
  refine y_callI hY vX9_strike lL_134 dL_law_1129 zs_0 rfl (mX9_strike e1) (by decide) rfl rfl (Nat.le_of_ble_eq_true rfl) hk hn ?_
  refine y_aload_n hY dL_law_1132 rfl _ rfl ?_
  refine y_arg (j := 1) hY hL dL_law_1133 dL_law_1134 dL_law_1136 dL_law_1137 dL_law_1138 (by decide) (by omega) ?_
  refine y_callI hY vX10_strike lL_137 dL_law_1139 zs_98 rfl (mX10_strike e2) (by decide) rfl rfl (Nat.le_of_ble_eq_true rfl) hk hn ?_
  exact y_icmp_eq hY dL_law_1142 1359 _ (by decide) rfl (fun _ => K M2 e3) (fun w => absurd rfl w)
theorem cl_known {G : zG} {Y : zY} {L i k n : Nat} {xs : Nat → Int32} {a5 a6 : Option Value} {M : zM} {o : Int64} (hY : yC G Y L xs) (hL : i + 6 ≤ L ∧ L ≤ 3072) (hk : k ≤ 601024) (hn : n ≤ 7293034) (h : Rel M) (K : ∀ M2, Rel M2 → ZL G Y k n 1359 (lvL i a5 a6) [] M2 o) : ZL G Y k n 1147 (lvL i a5 a6) [] M o := by
  obtain ⟨r, M1, M2, e1, e2, e3⟩ := k_known h (xs (i + 1))
  refine y_aload_n hY dL_law_1147 rfl _ rfl ?_
  refine y_arg (j := 1) hY hL dL_law_1148 dL_law_1149 dL_law_1151 dL_law_1152 dL_law_1153 (by decide) (by omega) ?_
  refine y_callI hY vX9_known lL_138 dL_law_1154 zs_0 rfl (mX9_known e1) (by decide) rfl rfl (Nat.le_of_ble_eq_true rfl) hk hn ?_
  refine y_aload_n hY dL_law_1157 rfl _ rfl ?_
  refine y_arg (j := 1) hY hL dL_law_1158 dL_law_1159 dL_law_1161 dL_law_1162 dL_law_1163 (by decide) (by omega) ?_
  refine y_callI hY vX10_known lL_142 dL_law_1164 zs_98 rfl (mX10_known e2) (by decide) rfl rfl (Nat.le_of_ble_eq_true rfl) hk hn ?_
  exact y_icmp_eq hY dL_law_1167 1359 _ (by decide) rfl (fun _ => K M2 e3) (fun w => absurd rfl w)
theorem cl_rues {G : zG} {Y : zY} {L i k n : Nat} {xs : Nat → Int32} {a5 a6 : Option Value} {M : zM} {o : Int64} (hY : yC G Y L xs) (hL : i + 6 ≤ L ∧ L ≤ 3072) (hk : k ≤ 601024) (hn : n ≤ 7293034) (h : Rel M) (K : ∀ M2, Rel M2 → ZL G Y k n 1359 (lvL i a5 a6) [] M2 o) : ZL G Y k n 1172 (lvL i a5 a6) [] M o := by
  obtain ⟨r, M1, M2, e1, e2, e3⟩ := k_rues h (xs (i + 1))
  refine y_aload_n hY dL_law_1172 rfl _ rfl ?_
  refine y_arg (j := 1) hY hL dL_law_1173 dL_law_1174 dL_law_1176 dL_law_1177 dL_law_1178 (by decide) (by omega) ?_
  refine y_callI hY vX9_rues lL_143 dL_law_1179 zs_0 rfl (mX9_rues e1) (by decide) rfl rfl (Nat.le_of_ble_eq_true rfl) hk hn ?_
  refine y_aload_n hY dL_law_1182 rfl _ rfl ?_
  refine y_arg (j := 1) hY hL dL_law_1183 dL_law_1184 dL_law_1186 dL_law_1187 dL_law_1188 (by decide) (by omega) ?_
  refine y_callI hY vX10_rues lL_146 dL_law_1189 zs_98 rfl (mX10_rues e2) (by decide) rfl rfl (Nat.le_of_ble_eq_true rfl) hk hn ?_
  exact y_icmp_eq hY dL_law_1192 1359 _ (by decide) rfl (fun _ => K M2 e3) (fun w => absurd rfl w)
theorem cl_chance {G : zG} {Y : zY} {L i k n : Nat} {xs : Nat → Int32} {a5 a6 : Option Value} {M : zM} {o : Int64} (hY : yC G Y L xs) (hL : i + 6 ≤ L ∧ L ≤ 3072) (hk : k ≤ 601024) (hn : n ≤ 7293034) (h : Rel M) (K : ∀ M2, Rel M2 → ZL G Y k n 1359 (lvL i a5 a6) [] M2 o) : ZL G Y k n 1197 (lvL i a5 a6) [] M o := by
  obtain ⟨r, M1, M2, e1, e2, e3⟩ := k_chance h (xs (i + 1)) (xs (i + 2)) (xs (i + 3))
  refine y_aload_n hY dL_law_1197 rfl _ rfl ?_
  refine y_arg (j := 1) hY hL dL_law_1198 dL_law_1199 dL_law_1201 dL_law_1202 dL_law_1203 (by decide) (by omega) ?_
  refine y_arg (j := 2) hY hL dL_law_1204 dL_law_1205 dL_law_1207 dL_law_1208 dL_law_1209 (by decide) (by omega) ?_
  refine y_arg (j := 3) hY hL dL_law_1210 dL_law_1211 dL_law_1213 dL_law_1214 dL_law_1215 (by decide) (by omega) ?_
  refine y_callI hY vX9_chance lL_147 dL_law_1216 zs_0 rfl (mX9_chance e1) (by decide) rfl rfl (Nat.le_of_ble_eq_true rfl) hk hn ?_
  refine y_aload_n hY dL_law_1219 rfl _ rfl ?_
  refine y_arg (j := 1) hY hL dL_law_1220 dL_law_1221 dL_law_1223 dL_law_1224 dL_law_1225 (by decide) (by omega) ?_
  refine y_arg (j := 2) hY hL dL_law_1226 dL_law_1227 dL_law_1229 dL_law_1230 dL_law_1231 (by decide) (by omega) ?_
  refine y_arg (j := 3) hY hL dL_law_1232 dL_law_1233 dL_law_1235 dL_law_1236 dL_law_1237 (by decide) (by omega) ?_
  refine y_callI hY vX10_chance lL_150 dL_law_1238 zs_98 rfl (mX10_chance e2) (by decide) rfl rfl (Nat.le_of_ble_eq_true rfl) hk hn ?_
  exact y_icmp_eq hY dL_law_1241 1359 _ (by decide) rfl (fun _ => K M2 e3) (fun w => absurd rfl w)
theorem cl_tried {G : zG} {Y : zY} {L i k n : Nat} {xs : Nat → Int32} {a5 a6 : Option Value} {M : zM} {o : Int64} (hY : yC G Y L xs) (hL : i + 6 ≤ L ∧ L ≤ 3072) (hk : k ≤ 601024) (hn : n ≤ 7293034) (h : Rel M) (K : ∀ M2, Rel M2 → ZL G Y k n 1359 (lvL i a5 a6) [] M2 o) : ZL G Y k n 1246 (lvL i a5 a6) [] M o := by
  obtain ⟨r, M1, M2, e1, e2, e3⟩ := k_tried h (xs (i + 1)) (xs (i + 2)) (xs (i + 3))
  refine y_aload_n hY dL_law_1246 rfl _ rfl ?_
  refine y_arg (j := 1) hY hL dL_law_1247 dL_law_1248 dL_law_1250 dL_law_1251 dL_law_1252 (by decide) (by omega) ?_
  refine y_arg (j := 2) hY hL dL_law_1253 dL_law_1254 dL_law_1256 dL_law_1257 dL_law_1258 (by decide) (by omega) ?_
  refine y_arg (j := 3) hY hL dL_law_1259 dL_law_1260 dL_law_1262 dL_law_1263 dL_law_1264 (by decide) (by omega) ?_
  refine y_callI hY vX9_tried lL_151 dL_law_1265 zs_0 rfl (mX9_tried e1) (by decide) rfl rfl (Nat.le_of_ble_eq_true rfl) hk hn ?_
  refine y_aload_n hY dL_law_1268 rfl _ rfl ?_
  refine y_arg (j := 1) hY hL dL_law_1269 dL_law_1270 dL_law_1272 dL_law_1273 dL_law_1274 (by decide) (by omega) ?_
  refine y_arg (j := 2) hY hL dL_law_1275 dL_law_1276 dL_law_1278 dL_law_1279 dL_law_1280 (by decide) (by omega) ?_
  refine y_arg (j := 3) hY hL dL_law_1281 dL_law_1282 dL_law_1284 dL_law_1285 dL_law_1286 (by decide) (by omega) ?_
  refine y_callI hY vX10_tried lL_154 dL_law_1287 zs_98 rfl (mX10_tried e2) (by decide) rfl rfl (Nat.le_of_ble_eq_true rfl) hk hn ?_
  exact y_icmp_eq hY dL_law_1290 1359 _ (by decide) rfl (fun _ => K M2 e3) (fun w => absurd rfl w)
theorem cl_undo {G : zG} {Y : zY} {L i k n : Nat} {xs : Nat → Int32} {a5 a6 : Option Value} {M : zM} {o : Int64} (hY : yC G Y L xs) (hL : i + 6 ≤ L ∧ L ≤ 3072) (hk : k ≤ 601024) (hn : n ≤ 7293034) (h : Rel M) (K : ∀ M2, Rel M2 → ZL G Y k n 1359 (lvL i a5 a6) [] M2 o) : ZL G Y k n 1295 (lvL i a5 a6) [] M o := by
  obtain ⟨r, M1, M2, e1, e2, e3⟩ := k_undo h 
  refine y_aload_n hY dL_law_1295 rfl _ rfl ?_
  refine y_callI hY vX9_undo lL_155 dL_law_1296 zs_0 rfl (mX9_undo e1) (by decide) rfl rfl (Nat.le_of_ble_eq_true rfl) hk hn ?_
  refine y_aload_n hY dL_law_1299 rfl _ rfl ?_
  refine y_callI hY vX10_undo lL_158 dL_law_1300 zs_98 rfl (mX10_undo e2) (by decide) rfl rfl (Nat.le_of_ble_eq_true rfl) hk hn ?_
  exact y_icmp_eq hY dL_law_1303 1359 _ (by decide) rfl (fun _ => K M2 e3) (fun w => absurd rfl w)
theorem cl_keep {G : zG} {Y : zY} {L i k n : Nat} {xs : Nat → Int32} {a5 a6 : Option Value} {M : zM} {o : Int64} (hY : yC G Y L xs) (hL : i + 6 ≤ L ∧ L ≤ 3072) (hk : k ≤ 601024) (hn : n ≤ 7293034) (h : Rel M) (K : ∀ M2, Rel M2 → ZL G Y k n 1359 (lvL i a5 a6) [] M2 o) : ZL G Y k n 1308 (lvL i a5 a6) [] M o := by
  obtain ⟨r, M1, M2, e1, e2, e3⟩ := k_keep h 
  refine y_aload_n hY dL_law_1308 rfl _ rfl ?_
  refine y_callI hY vX9_keep lL_159 dL_law_1309 zs_0 rfl (mX9_keep e1) (by decide) rfl rfl (Nat.le_of_ble_eq_true rfl) hk hn ?_
  refine y_aload_n hY dL_law_1312 rfl _ rfl ?_
  refine y_callI hY vX10_keep lL_162 dL_law_1313 zs_98 rfl (mX10_keep e2) (by decide) rfl rfl (Nat.le_of_ble_eq_true rfl) hk hn ?_
  exact y_icmp_eq hY dL_law_1316 1359 _ (by decide) rfl (fun _ => K M2 e3) (fun w => absurd rfl w)
theorem cl_back {G : zG} {Y : zY} {L i k n : Nat} {xs : Nat → Int32} {a5 a6 : Option Value} {M : zM} {o : Int64} (hY : yC G Y L xs) (hL : i + 6 ≤ L ∧ L ≤ 3072) (hk : k ≤ 601024) (hn : n ≤ 7293034) (h : Rel M) (K : ∀ M2, Rel M2 → ZL G Y k n 1359 (lvL i a5 a6) [] M2 o) : ZL G Y k n 1321 (lvL i a5 a6) [] M o := by
  obtain ⟨r, M1, M2, e1, e2, e3⟩ := k_back h 
  refine y_aload_n hY dL_law_1321 rfl _ rfl ?_
  refine y_callI hY vX9_back lL_163 dL_law_1322 zs_0 rfl (mX9_back e1) (by decide) rfl rfl (Nat.le_of_ble_eq_true rfl) hk hn ?_
  refine y_aload_n hY dL_law_1325 rfl _ rfl ?_
  refine y_callI hY vX10_back lL_166 dL_law_1326 zs_98 rfl (mX10_back e2) (by decide) rfl rfl (Nat.le_of_ble_eq_true rfl) hk hn ?_
  exact y_icmp_eq hY dL_law_1329 1359 _ (by decide) rfl (fun _ => K M2 e3) (fun w => absurd rfl w)
theorem cl_count {G : zG} {Y : zY} {L i k n : Nat} {xs : Nat → Int32} {a5 a6 : Option Value} {M : zM} {o : Int64} (hY : yC G Y L xs) (hL : i + 6 ≤ L ∧ L ≤ 3072) (hk : k ≤ 601024) (hn : n ≤ 7293034) (h : Rel M) (K : ∀ M2, Rel M2 → ZL G Y k n 1359 (lvL i a5 a6) [] M2 o) : ZL G Y k n 1334 (lvL i a5 a6) [] M o := by
  obtain ⟨r, M2, e1, e2, e3⟩ := k_count h (xs (i + 1))
  refine y_aload_n hY dL_law_1334 rfl _ rfl ?_
  refine y_arg (j := 1) hY hL dL_law_1335 dL_law_1336 dL_law_1338 dL_law_1339 dL_law_1340 (by decide) (by omega) ?_
  refine y_callIp hY vX9_count lL_167 dL_law_1341 zs_0 rfl (mX9_count e1) (by decide) rfl rfl (Nat.le_of_ble_eq_true rfl) hk hn ?_
  refine y_aload_n hY dL_law_1344 rfl _ rfl ?_
  refine y_arg (j := 1) hY hL dL_law_1345 dL_law_1346 dL_law_1348 dL_law_1349 dL_law_1350 (by decide) (by omega) ?_
  refine y_callI hY vX10_count lL_170 dL_law_1351 zs_98 rfl (mX10_count e2) (by decide) rfl rfl (Nat.le_of_ble_eq_true rfl) hk hn ?_
  exact y_icmp_eq hY dL_law_1354 1359 _ (by decide) rfl (fun _ => K M2 e3) (fun w => absurd rfl w)
