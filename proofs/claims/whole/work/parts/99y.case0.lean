theorem ix_none2 {a : Int32} (h : inB a 2 = false) : ix a 2 = none := by
  unfold ix
  rw [if_pos]
  unfold inB at h
  by_cases q : a < 0
  · exact Or.inl q
  · right
    rw [Int32.lt_iff_toInt_lt] at q
    have h6 : (0 : Int32).toInt = 0 := by decide
    show 2 ≤ a.toInt.toNat
    simp only [Bool.and_eq_false_iff, decide_eq_false_iff_not] at h
    omega
theorem ixd (a : Int32) : (ix a 2 = none ∧ inB a 2 = false) ∨ ∃ j, ix a 2 = some j ∧ j < 2 ∧ a = nI j := by
  cases e : inB a 2 with
  | false => exact Or.inl ⟨ix_none2 e, rfl⟩
  | true =>
    obtain ⟨j, hj, rfl⟩ := inB_ex (by decide) e
    exact Or.inr ⟨j, ix_nI hj (by decide), hj, rfl⟩
theorem JI_n {I : Im} {j : Nat} (h : I j = none) : JI I j = none := by show (I j).map _ = none; rw [h]; rfl
theorem JI_s {I : Im} {j : Nat} {ad : Nat → Nat} {τ : St} (h : I j = some (ad, τ)) : JI I j = some τ := by show (I j).map _ = some τ; rw [h]; rfl
theorem JI_upI {I : Im} {j : Nat} {ad : Nat → Nat} {τ : St} : JI (upI I j (ad, τ)) = upS (JI I) j τ := by
  funext x
  show (if x = j then some (ad, τ) else I x).map _ = if x = j then some τ else (I x).map _
  by_cases e : x = j
  · rw [if_pos e, if_pos e]; rfl
  · rw [if_neg e, if_neg e]
theorem JI_up {I : Im} {j : Nat} {ad : Nat → Nat} {τ s u : St} (h : Rl (upS (JI I) j τ) s u) : Rl (JI (upI I j (ad, τ))) s u := by rw [JI_upI]; exact h
theorem cs_0 {M : MT} {E : Ev} {b Ln : Nat} {xs : Nat → Int32} {base kc ks n : Nat} {Q : State → Prop} {am : Nat → Nat} {σ μ : St} {I : Im} (K : OKl M E b Ln xs base) (hD : DJ E am I base) (h : Rl (JI I) σ μ) (hn : n + 8 ≤ Ln) (h1 : kc + 20 ≤ 603072) (h2 : ks + 1300 ≤ 7211114) (kk : Kn M E am b base n (kc + 20) (ks + 1300) Q) : VZ M (bA base) 8 kc ks Q (Wl E am σ I μ) 288 (LL b E am n) [] := by
  obtain ⟨k, σ', μ1, v, hW, hm, hk, hv, hR⟩ := lw_column M.2.1 K.q.nt hD.1.O (JI I) σ μ (xs (n + 1)) h
  refine z_aload1 (pc := 288) K.z dL_law_288 ?_
  refine z_ar (pc := 289) 1 K hn dL_law_289 dL_law_290 dL_law_292 dL_law_293 dL_law_294 (by decide) (by decide) ?_
  refine z_aload3 (pc := 295) K.z dL_law_295 ?_
  refine z_lW (pc := 296) (As := [.ref (E.2.2 0), .int (xs (n + 1)), .ref (E.2.2 28)]) K hD cw_column ml_RL_207 hW rfl rfl (by decide) (Nat.le_of_ble_eq_true rfl) (Nat.le_of_ble_eq_true rfl) h1 h2 dL_law_296 ?_
  refine z_istore5 (pc := 299) K.z dL_law_299 rfl (by decide) ?_
  refine z_aload2 (pc := 301) K.z dL_law_301 ?_
  refine z_ar (pc := 302) 1 K hn dL_law_302 dL_law_303 dL_law_305 dL_law_306 dL_law_307 (by decide) (by decide) ?_
  refine z_lM (pc := 308) (As := [.int (xs (n + 1))]) K hD ca_yX4_column ml_RL_212 rfl (t_X4_column _ K.q.nt hD.2.1 μ (xs (n + 1)) (v, μ1) hm) rfl rfl (by decide) (Nat.le_of_ble_eq_true rfl) (Nat.le_of_ble_eq_true rfl) h1 h2 dL_law_308 ?_
  exact z_tI (pc := 311) K hD hR hk hv h1 h2 dL_law_311 dL_law_313 dL_law_314 dL_law_317 dL_law_319 dL_law_324 dL_law_326 dL_law_329 dL_law_330 dL_law_331 dL_law_332 dL_law_334 dL_law_335 dL_law_336 dL_law_341 (by decide) kk
theorem cs_1 {M : MT} {E : Ev} {b Ln : Nat} {xs : Nat → Int32} {base kc ks n : Nat} {Q : State → Prop} {am : Nat → Nat} {σ μ : St} {I : Im} (K : OKl M E b Ln xs base) (hD : DJ E am I base) (h : Rl (JI I) σ μ) (hn : n + 8 ≤ Ln) (h1 : kc + 20 ≤ 603072) (h2 : ks + 1300 ≤ 7211114) (kk : Kn M E am b base n (kc + 20) (ks + 1300) Q) : VZ M (bA base) 8 kc ks Q (Wl E am σ I μ) 344 (LL b E am n) [] := by
  obtain ⟨k, σ', μ1, v, hW, hm, hk, hv, hR⟩ := lw_drop M.2.1 K.q.nt hD.1.O (JI I) σ μ (xs (n + 1)) h
  refine z_aload1 (pc := 344) K.z dL_law_344 ?_
  refine z_ar (pc := 345) 1 K hn dL_law_345 dL_law_346 dL_law_348 dL_law_349 dL_law_350 (by decide) (by decide) ?_
  refine z_aload3 (pc := 351) K.z dL_law_351 ?_
  refine z_lW (pc := 352) (As := [.ref (E.2.2 0), .int (xs (n + 1)), .ref (E.2.2 28)]) K hD cw_drop ml_RL_217 hW rfl rfl (by decide) (Nat.le_of_ble_eq_true rfl) (Nat.le_of_ble_eq_true rfl) h1 h2 dL_law_352 ?_
  refine z_istore5 (pc := 355) K.z dL_law_355 rfl (by decide) ?_
  refine z_aload2 (pc := 357) K.z dL_law_357 ?_
  refine z_ar (pc := 358) 1 K hn dL_law_358 dL_law_359 dL_law_361 dL_law_362 dL_law_363 (by decide) (by decide) ?_
  refine z_lM (pc := 364) (As := [.int (xs (n + 1))]) K hD ca_yX4_drop ml_RL_219 rfl (t_X4_drop _ K.q.nt hD.2.1 μ (xs (n + 1)) (v, μ1) hm) rfl rfl (by decide) (Nat.le_of_ble_eq_true rfl) (Nat.le_of_ble_eq_true rfl) h1 h2 dL_law_364 ?_
  exact z_tI (pc := 367) K hD hR hk hv h1 h2 dL_law_367 dL_law_369 dL_law_370 dL_law_373 dL_law_375 dL_law_380 dL_law_382 dL_law_385 dL_law_386 dL_law_387 dL_law_388 dL_law_390 dL_law_391 dL_law_392 dL_law_397 (by decide) kk
theorem cs_2 {M : MT} {E : Ev} {b Ln : Nat} {xs : Nat → Int32} {base kc ks n : Nat} {Q : State → Prop} {am : Nat → Nat} {σ μ : St} {I : Im} (K : OKl M E b Ln xs base) (hD : DJ E am I base) (h : Rl (JI I) σ μ) (hn : n + 8 ≤ Ln) (h1 : kc + 20 ≤ 603072) (h2 : ks + 1300 ≤ 7211114) (kk : Kn M E am b base n (kc + 20) (ks + 1300) Q) : VZ M (bA base) 8 kc ks Q (Wl E am σ I μ) 400 (LL b E am n) [] := by
  obtain ⟨k, σ', μ1, v, hW, hm, hk, hv, hR⟩ := lw_rows M.2.1 K.q.nt hD.1.O (JI I) σ μ (xs (n + 1)) h
  refine z_aload1 (pc := 400) K.z dL_law_400 ?_
  refine z_ar (pc := 401) 1 K hn dL_law_401 dL_law_402 dL_law_404 dL_law_405 dL_law_406 (by decide) (by decide) ?_
  refine z_aload3 (pc := 407) K.z dL_law_407 ?_
  refine z_lW (pc := 408) (As := [.ref (E.2.2 0), .int (xs (n + 1)), .ref (E.2.2 28)]) K hD cw_rows ml_RL_220 hW rfl rfl (by decide) (Nat.le_of_ble_eq_true rfl) (Nat.le_of_ble_eq_true rfl) h1 h2 dL_law_408 ?_
  refine z_istore5 (pc := 411) K.z dL_law_411 rfl (by decide) ?_
  refine z_aload2 (pc := 413) K.z dL_law_413 ?_
  refine z_ar (pc := 414) 1 K hn dL_law_414 dL_law_415 dL_law_417 dL_law_418 dL_law_419 (by decide) (by decide) ?_
  refine z_lM (pc := 420) (As := [.int (xs (n + 1))]) K hD ca_yX4_rows ml_RL_222 rfl (t_X4_rows _ K.q.nt hD.2.1 μ (xs (n + 1)) (v, μ1) hm) rfl rfl (by decide) (Nat.le_of_ble_eq_true rfl) (Nat.le_of_ble_eq_true rfl) h1 h2 dL_law_420 ?_
  exact z_tI (pc := 423) K hD hR hk hv h1 h2 dL_law_423 dL_law_425 dL_law_426 dL_law_429 dL_law_431 dL_law_436 dL_law_438 dL_law_441 dL_law_442 dL_law_443 dL_law_444 dL_law_446 dL_law_447 dL_law_448 dL_law_453 (by decide) kk
theorem cs_3 {M : MT} {E : Ev} {b Ln : Nat} {xs : Nat → Int32} {base kc ks n : Nat} {Q : State → Prop} {am : Nat → Nat} {σ μ : St} {I : Im} (K : OKl M E b Ln xs base) (hD : DJ E am I base) (h : Rl (JI I) σ μ) (hn : n + 8 ≤ Ln) (h1 : kc + 20 ≤ 603072) (h2 : ks + 1300 ≤ 7211114) (kk : Kn M E am b base n (kc + 20) (ks + 1300) Q) : VZ M (bA base) 8 kc ks Q (Wl E am σ I μ) 456 (LL b E am n) [] := by
  obtain ⟨k, σ', μ1, v, hW, hm, hk, hv, hR⟩ := lw_set M.2.1 K.q.nt hD.1.O (JI I) σ μ (xs (n + 1)) (xs (n + 2)) (lgv (xs (n + 3)) (xs (n + 4))) h
  refine z_aload1 (pc := 456) K.z dL_law_456 ?_
  refine z_ar (pc := 457) 1 K hn dL_law_457 dL_law_458 dL_law_460 dL_law_461 dL_law_462 (by decide) (by decide) ?_
  refine z_ar (pc := 463) 2 K hn dL_law_463 dL_law_464 dL_law_466 dL_law_467 dL_law_468 (by decide) (by decide) ?_
  refine z_ar (pc := 469) 3 K hn dL_law_469 dL_law_470 dL_law_472 dL_law_473 dL_law_474 (by decide) (by decide) ?_
  refine z_hi (pc := 475) K dL_law_475 dL_law_476 dL_law_478 ?_
  refine z_ar (pc := 479) 4 K hn dL_law_479 dL_law_480 dL_law_482 dL_law_483 dL_law_484 (by decide) (by decide) ?_
  refine z_lo (pc := 485) K dL_law_485 dL_law_486 dL_law_489 dL_law_490 ?_
  refine z_aload3 (pc := 491) K.z dL_law_491 ?_
  refine z_lW (pc := 492) (As := [.ref (E.2.2 0), .int (xs (n + 1)), .int (xs (n + 2)), .long (lgv (xs (n + 3)) (xs (n + 4))), .ref (E.2.2 28)]) K hD cw_set ml_RL_225 hW rfl rfl (by decide) (Nat.le_of_ble_eq_true rfl) (Nat.le_of_ble_eq_true rfl) h1 h2 dL_law_492 ?_
  refine z_istore5 (pc := 495) K.z dL_law_495 rfl (by decide) ?_
  refine z_aload2 (pc := 497) K.z dL_law_497 ?_
  refine z_ar (pc := 498) 1 K hn dL_law_498 dL_law_499 dL_law_501 dL_law_502 dL_law_503 (by decide) (by decide) ?_
  refine z_ar (pc := 504) 2 K hn dL_law_504 dL_law_505 dL_law_507 dL_law_508 dL_law_509 (by decide) (by decide) ?_
  refine z_ar (pc := 510) 3 K hn dL_law_510 dL_law_511 dL_law_513 dL_law_514 dL_law_515 (by decide) (by decide) ?_
  refine z_hi (pc := 516) K dL_law_516 dL_law_517 dL_law_519 ?_
  refine z_ar (pc := 520) 4 K hn dL_law_520 dL_law_521 dL_law_523 dL_law_524 dL_law_525 (by decide) (by decide) ?_
  refine z_lo (pc := 526) K dL_law_526 dL_law_527 dL_law_530 dL_law_531 ?_
  refine z_lM (pc := 532) (As := [.int (xs (n + 1)), .int (xs (n + 2)), .long (lgv (xs (n + 3)) (xs (n + 4)))]) K hD ca_yX4_set ml_RL_228 rfl (t_X4_set _ K.q.nt hD.2.1 μ (xs (n + 1)) (xs (n + 2)) (lgv (xs (n + 3)) (xs (n + 4))) (v, μ1) hm) rfl rfl (by decide) (Nat.le_of_ble_eq_true rfl) (Nat.le_of_ble_eq_true rfl) h1 h2 dL_law_532 ?_
  exact z_tI (pc := 535) K hD hR hk hv h1 h2 dL_law_535 dL_law_537 dL_law_538 dL_law_541 dL_law_543 dL_law_548 dL_law_550 dL_law_553 dL_law_554 dL_law_555 dL_law_556 dL_law_558 dL_law_559 dL_law_560 dL_law_565 (by decide) kk
theorem cs_4 {M : MT} {E : Ev} {b Ln : Nat} {xs : Nat → Int32} {base kc ks n : Nat} {Q : State → Prop} {am : Nat → Nat} {σ μ : St} {I : Im} (K : OKl M E b Ln xs base) (hD : DJ E am I base) (h : Rl (JI I) σ μ) (hn : n + 8 ≤ Ln) (h1 : kc + 20 ≤ 603072) (h2 : ks + 1300 ≤ 7211114) (kk : Kn M E am b base n (kc + 20) (ks + 1300) Q) : VZ M (bA base) 8 kc ks Q (Wl E am σ I μ) 568 (LL b E am n) [] := by
  obtain ⟨k, σ', μ1, v, hW, hm, hk, hv, hR⟩ := lw_clear M.2.1 K.q.nt hD.1.O (JI I) σ μ (xs (n + 1)) (xs (n + 2)) h
  refine z_aload1 (pc := 568) K.z dL_law_568 ?_
  refine z_ar (pc := 569) 1 K hn dL_law_569 dL_law_570 dL_law_572 dL_law_573 dL_law_574 (by decide) (by decide) ?_
  refine z_ar (pc := 575) 2 K hn dL_law_575 dL_law_576 dL_law_578 dL_law_579 dL_law_580 (by decide) (by decide) ?_
  refine z_aload3 (pc := 581) K.z dL_law_581 ?_
  refine z_lW (pc := 582) (As := [.ref (E.2.2 0), .int (xs (n + 1)), .int (xs (n + 2)), .ref (E.2.2 28)]) K hD cw_clear ml_RL_229 hW rfl rfl (by decide) (Nat.le_of_ble_eq_true rfl) (Nat.le_of_ble_eq_true rfl) h1 h2 dL_law_582 ?_
  refine z_istore5 (pc := 585) K.z dL_law_585 rfl (by decide) ?_
  refine z_aload2 (pc := 587) K.z dL_law_587 ?_
  refine z_ar (pc := 588) 1 K hn dL_law_588 dL_law_589 dL_law_591 dL_law_592 dL_law_593 (by decide) (by decide) ?_
  refine z_ar (pc := 594) 2 K hn dL_law_594 dL_law_595 dL_law_597 dL_law_598 dL_law_599 (by decide) (by decide) ?_
  refine z_lM (pc := 600) (As := [.int (xs (n + 1)), .int (xs (n + 2))]) K hD ca_yX4_clear ml_RL_232 rfl (t_X4_clear _ K.q.nt hD.2.1 μ (xs (n + 1)) (xs (n + 2)) (v, μ1) hm) rfl rfl (by decide) (Nat.le_of_ble_eq_true rfl) (Nat.le_of_ble_eq_true rfl) h1 h2 dL_law_600 ?_
  exact z_tI (pc := 603) K hD hR hk hv h1 h2 dL_law_603 dL_law_605 dL_law_606 dL_law_609 dL_law_611 dL_law_616 dL_law_618 dL_law_621 dL_law_622 dL_law_623 dL_law_624 dL_law_626 dL_law_627 dL_law_628 dL_law_633 (by decide) kk
theorem cs_5 {M : MT} {E : Ev} {b Ln : Nat} {xs : Nat → Int32} {base kc ks n : Nat} {Q : State → Prop} {am : Nat → Nat} {σ μ : St} {I : Im} (K : OKl M E b Ln xs base) (hD : DJ E am I base) (h : Rl (JI I) σ μ) (hn : n + 8 ≤ Ln) (h1 : kc + 20 ≤ 603072) (h2 : ks + 1300 ≤ 7211114) (kk : Kn M E am b base n (kc + 20) (ks + 1300) Q) : VZ M (bA base) 8 kc ks Q (Wl E am σ I μ) 636 (LL b E am n) [] := by
  obtain ⟨k, σ', μ1, v, hW, hm, hk, hv, hR⟩ := lw_get M.2.1 K.q.nt hD.1.O (JI I) σ μ (xs (n + 1)) (xs (n + 2)) h
  refine z_aload1 (pc := 636) K.z dL_law_636 ?_
  refine z_ar (pc := 637) 1 K hn dL_law_637 dL_law_638 dL_law_640 dL_law_641 dL_law_642 (by decide) (by decide) ?_
  refine z_ar (pc := 643) 2 K hn dL_law_643 dL_law_644 dL_law_646 dL_law_647 dL_law_648 (by decide) (by decide) ?_
  refine z_aload3 (pc := 649) K.z dL_law_649 ?_
  refine z_lW (pc := 650) (As := [.ref (E.2.2 0), .int (xs (n + 1)), .int (xs (n + 2)), .ref (E.2.2 28)]) K hD cw_get ml_RL_233 hW rfl rfl (by decide) (Nat.le_of_ble_eq_true rfl) (Nat.le_of_ble_eq_true rfl) h1 h2 dL_law_650 ?_
  refine z_istore5 (pc := 653) K.z dL_law_653 rfl (by decide) ?_
  refine z_aload2 (pc := 655) K.z dL_law_655 ?_
  refine z_ar (pc := 656) 1 K hn dL_law_656 dL_law_657 dL_law_659 dL_law_660 dL_law_661 (by decide) (by decide) ?_
  refine z_ar (pc := 662) 2 K hn dL_law_662 dL_law_663 dL_law_665 dL_law_666 dL_law_667 (by decide) (by decide) ?_
  refine z_lM (pc := 668) (As := [.int (xs (n + 1)), .int (xs (n + 2))]) K hD ca_yX4_get ml_RL_235 rfl (t_X4_get _ K.q.nt hD.2.1 μ (xs (n + 1)) (xs (n + 2)) (v, μ1) hm) rfl rfl (by decide) (Nat.le_of_ble_eq_true rfl) (Nat.le_of_ble_eq_true rfl) h1 h2 dL_law_668 ?_
  exact z_tL (pc := 671) K hD hR hk hv h1 h2 dL_law_671 dL_law_673 dL_law_674 dL_law_677 dL_law_679 dL_law_684 dL_law_686 dL_law_689 dL_law_690 dL_law_691 dL_law_692 dL_law_694 dL_law_695 dL_law_700 (by decide) kk
theorem cs_6 {M : MT} {E : Ev} {b Ln : Nat} {xs : Nat → Int32} {base kc ks n : Nat} {Q : State → Prop} {am : Nat → Nat} {σ μ : St} {I : Im} (K : OKl M E b Ln xs base) (hD : DJ E am I base) (h : Rl (JI I) σ μ) (hn : n + 8 ≤ Ln) (h1 : kc + 20 ≤ 603072) (h2 : ks + 1300 ≤ 7211114) (kk : Kn M E am b base n (kc + 20) (ks + 1300) Q) : VZ M (bA base) 8 kc ks Q (Wl E am σ I μ) 703 (LL b E am n) [] := by
  obtain ⟨x, u1, e1, e2, e3⟩ := op_has _ σ μ (xs (n + 1)) h
  refine z_aload1 (pc := 703) K.z dL_law_703 ?_
  refine z_ar (pc := 704) 1 K hn dL_law_704 dL_law_705 dL_law_707 dL_law_708 dL_law_709 (by decide) (by decide) ?_
  refine z_lC (pc := 710) (As := [.int (xs (n + 1))]) K hD ca_yX3_has ml_RL_236 rfl (t_X3_has _ K.q.nt (AdrOC hD.1.O) σ (xs (n + 1)) x e1) rfl rfl (by decide) (Nat.le_of_ble_eq_true rfl) (Nat.le_of_ble_eq_true rfl) (by omega) (by omega) dL_law_710 ?_
  refine z_aload2 (pc := 713) K.z dL_law_713 ?_
  refine z_ar (pc := 714) 1 K hn dL_law_714 dL_law_715 dL_law_717 dL_law_718 dL_law_719 (by decide) (by decide) ?_
  refine z_lM (pc := 720) (As := [.int (xs (n + 1))]) K hD ca_yX4_has ml_RL_239 rfl (t_X4_has _ K.q.nt hD.2.1 μ (xs (n + 1)) (x, u1) e2) rfl rfl (by simp [Value.category]) (Nat.le_of_ble_eq_true rfl) (Nat.le_of_ble_eq_true rfl) (by omega) (by omega) dL_law_720 ?_
  refine z_icmp_eq (pc := 723) (tgt := 5054) K.z dL_law_723 (by decide) (fun _ => ?_) (fun q => absurd rfl q)
  exact z_w (Nat.le_add_right _ _) (Nat.le_add_right _ _) (kk _ _ _ hD e3.mg)
theorem cs_7 {M : MT} {E : Ev} {b Ln : Nat} {xs : Nat → Int32} {base kc ks n : Nat} {Q : State → Prop} {am : Nat → Nat} {σ μ : St} {I : Im} (K : OKl M E b Ln xs base) (hD : DJ E am I base) (h : Rl (JI I) σ μ) (hn : n + 8 ≤ Ln) (h1 : kc + 20 ≤ 603072) (h2 : ks + 1300 ≤ 7211114) (kk : Kn M E am b base n (kc + 20) (ks + 1300) Q) : VZ M (bA base) 8 kc ks Q (Wl E am σ I μ) 728 (LL b E am n) [] := by
  obtain ⟨k, σ', μ1, v, hW, hm, hk, hv, hR⟩ := lw_width M.2.1 K.q.nt hD.1.O (JI I) σ μ (xs (n + 1)) (xs (n + 2)) h
  refine z_aload1 (pc := 728) K.z dL_law_728 ?_
  refine z_ar (pc := 729) 1 K hn dL_law_729 dL_law_730 dL_law_732 dL_law_733 dL_law_734 (by decide) (by decide) ?_
  refine z_ar (pc := 735) 2 K hn dL_law_735 dL_law_736 dL_law_738 dL_law_739 dL_law_740 (by decide) (by decide) ?_
  refine z_aload3 (pc := 741) K.z dL_law_741 ?_
  refine z_lW (pc := 742) (As := [.ref (E.2.2 0), .int (xs (n + 1)), .int (xs (n + 2)), .ref (E.2.2 28)]) K hD cw_width ml_RL_240 hW rfl rfl (by decide) (Nat.le_of_ble_eq_true rfl) (Nat.le_of_ble_eq_true rfl) h1 h2 dL_law_742 ?_
  refine z_istore5 (pc := 745) K.z dL_law_745 rfl (by decide) ?_
  refine z_aload2 (pc := 747) K.z dL_law_747 ?_
  refine z_ar (pc := 748) 1 K hn dL_law_748 dL_law_749 dL_law_751 dL_law_752 dL_law_753 (by decide) (by decide) ?_
  refine z_ar (pc := 754) 2 K hn dL_law_754 dL_law_755 dL_law_757 dL_law_758 dL_law_759 (by decide) (by decide) ?_
  refine z_lM (pc := 760) (As := [.int (xs (n + 1)), .int (xs (n + 2))]) K hD ca_yX4_width ml_RL_242 rfl (t_X4_width _ K.q.nt hD.2.1 μ (xs (n + 1)) (xs (n + 2)) (v, μ1) hm) rfl rfl (by decide) (Nat.le_of_ble_eq_true rfl) (Nat.le_of_ble_eq_true rfl) h1 h2 dL_law_760 ?_
  exact z_tI (pc := 763) K hD hR hk hv h1 h2 dL_law_763 dL_law_765 dL_law_766 dL_law_769 dL_law_771 dL_law_776 dL_law_778 dL_law_781 dL_law_782 dL_law_783 dL_law_784 dL_law_786 dL_law_787 dL_law_788 dL_law_793 (by decide) kk
theorem cs_8 {M : MT} {E : Ev} {b Ln : Nat} {xs : Nat → Int32} {base kc ks n : Nat} {Q : State → Prop} {am : Nat → Nat} {σ μ : St} {I : Im} (K : OKl M E b Ln xs base) (hD : DJ E am I base) (h : Rl (JI I) σ μ) (hn : n + 8 ≤ Ln) (h1 : kc + 20 ≤ 603072) (h2 : ks + 1300 ≤ 7211114) (kk : Kn M E am b base n (kc + 20) (ks + 1300) Q) : VZ M (bA base) 8 kc ks Q (Wl E am σ I μ) 796 (LL b E am n) [] := by
  obtain ⟨k, σ', μ1, v, hW, hm, hk, hv, hR⟩ := lw_slice M.2.1 K.q.nt hD.1.O (JI I) σ μ (xs (n + 1)) (xs (n + 2)) (xs (n + 3)) h
  refine z_aload1 (pc := 796) K.z dL_law_796 ?_
  refine z_ar (pc := 797) 1 K hn dL_law_797 dL_law_798 dL_law_800 dL_law_801 dL_law_802 (by decide) (by decide) ?_
  refine z_ar (pc := 803) 2 K hn dL_law_803 dL_law_804 dL_law_806 dL_law_807 dL_law_808 (by decide) (by decide) ?_
  refine z_ar (pc := 809) 3 K hn dL_law_809 dL_law_810 dL_law_812 dL_law_813 dL_law_814 (by decide) (by decide) ?_
  refine z_aload3 (pc := 815) K.z dL_law_815 ?_
  refine z_lW (pc := 816) (As := [.ref (E.2.2 0), .int (xs (n + 1)), .int (xs (n + 2)), .int (xs (n + 3)), .ref (E.2.2 28)]) K hD cw_slice ml_RL_243 hW rfl rfl (by decide) (Nat.le_of_ble_eq_true rfl) (Nat.le_of_ble_eq_true rfl) h1 h2 dL_law_816 ?_
  refine z_istore5 (pc := 819) K.z dL_law_819 rfl (by decide) ?_
  refine z_aload2 (pc := 821) K.z dL_law_821 ?_
  refine z_ar (pc := 822) 1 K hn dL_law_822 dL_law_823 dL_law_825 dL_law_826 dL_law_827 (by decide) (by decide) ?_
  refine z_ar (pc := 828) 2 K hn dL_law_828 dL_law_829 dL_law_831 dL_law_832 dL_law_833 (by decide) (by decide) ?_
  refine z_ar (pc := 834) 3 K hn dL_law_834 dL_law_835 dL_law_837 dL_law_838 dL_law_839 (by decide) (by decide) ?_
  refine z_lM (pc := 840) (As := [.int (xs (n + 1)), .int (xs (n + 2)), .int (xs (n + 3))]) K hD ca_yX4_slice ml_RL_246 rfl (t_X4_slice _ K.q.nt hD.2.1 μ (xs (n + 1)) (xs (n + 2)) (xs (n + 3)) (v, μ1) hm) rfl rfl (by decide) (Nat.le_of_ble_eq_true rfl) (Nat.le_of_ble_eq_true rfl) h1 h2 dL_law_840 ?_
  exact z_tL (pc := 843) K hD hR hk hv h1 h2 dL_law_843 dL_law_845 dL_law_846 dL_law_849 dL_law_851 dL_law_856 dL_law_858 dL_law_861 dL_law_862 dL_law_863 dL_law_864 dL_law_866 dL_law_867 dL_law_872 (by decide) kk
theorem cs_9 {M : MT} {E : Ev} {b Ln : Nat} {xs : Nat → Int32} {base kc ks n : Nat} {Q : State → Prop} {am : Nat → Nat} {σ μ : St} {I : Im} (K : OKl M E b Ln xs base) (hD : DJ E am I base) (h : Rl (JI I) σ μ) (hn : n + 8 ≤ Ln) (h1 : kc + 20 ≤ 603072) (h2 : ks + 1300 ≤ 7211114) (kk : Kn M E am b base n (kc + 20) (ks + 1300) Q) : VZ M (bA base) 8 kc ks Q (Wl E am σ I μ) 875 (LL b E am n) [] := by
  obtain ⟨k, σ', μ1, v, hW, hm, hk, hv, hR⟩ := lw_mask M.2.1 K.q.nt hD.1.O (JI I) σ μ (xs (n + 1)) (xs (n + 2)) (xs (n + 3)) (xs (n + 4)) h
  refine z_aload1 (pc := 875) K.z dL_law_875 ?_
  refine z_ar (pc := 876) 1 K hn dL_law_876 dL_law_877 dL_law_879 dL_law_880 dL_law_881 (by decide) (by decide) ?_
  refine z_ar (pc := 882) 2 K hn dL_law_882 dL_law_883 dL_law_885 dL_law_886 dL_law_887 (by decide) (by decide) ?_
  refine z_ar (pc := 888) 3 K hn dL_law_888 dL_law_889 dL_law_891 dL_law_892 dL_law_893 (by decide) (by decide) ?_
  refine z_ar (pc := 894) 4 K hn dL_law_894 dL_law_895 dL_law_897 dL_law_898 dL_law_899 (by decide) (by decide) ?_
  refine z_aload3 (pc := 900) K.z dL_law_900 ?_
  refine z_lW (pc := 901) (As := [.ref (E.2.2 0), .int (xs (n + 1)), .int (xs (n + 2)), .int (xs (n + 3)), .int (xs (n + 4)), .ref (E.2.2 28)]) K hD cw_mask ml_RL_247 hW rfl rfl (by decide) (Nat.le_of_ble_eq_true rfl) (Nat.le_of_ble_eq_true rfl) h1 h2 dL_law_901 ?_
  refine z_istore5 (pc := 904) K.z dL_law_904 rfl (by decide) ?_
  refine z_aload2 (pc := 906) K.z dL_law_906 ?_
  refine z_ar (pc := 907) 1 K hn dL_law_907 dL_law_908 dL_law_910 dL_law_911 dL_law_912 (by decide) (by decide) ?_
  refine z_ar (pc := 913) 2 K hn dL_law_913 dL_law_914 dL_law_916 dL_law_917 dL_law_918 (by decide) (by decide) ?_
  refine z_ar (pc := 919) 3 K hn dL_law_919 dL_law_920 dL_law_922 dL_law_923 dL_law_924 (by decide) (by decide) ?_
  refine z_ar (pc := 925) 4 K hn dL_law_925 dL_law_926 dL_law_928 dL_law_929 dL_law_930 (by decide) (by decide) ?_
  refine z_lM (pc := 931) (As := [.int (xs (n + 1)), .int (xs (n + 2)), .int (xs (n + 3)), .int (xs (n + 4))]) K hD ca_yX4_mask ml_RL_250 rfl (t_X4_mask _ K.q.nt hD.2.1 μ (xs (n + 1)) (xs (n + 2)) (xs (n + 3)) (xs (n + 4)) (v, μ1) hm) rfl rfl (by decide) (Nat.le_of_ble_eq_true rfl) (Nat.le_of_ble_eq_true rfl) h1 h2 dL_law_931 ?_
  exact z_tI (pc := 934) K hD hR hk hv h1 h2 dL_law_934 dL_law_936 dL_law_937 dL_law_940 dL_law_942 dL_law_947 dL_law_949 dL_law_952 dL_law_953 dL_law_954 dL_law_955 dL_law_957 dL_law_958 dL_law_959 dL_law_964 (by decide) kk
theorem cs_10 {M : MT} {E : Ev} {b Ln : Nat} {xs : Nat → Int32} {base kc ks n : Nat} {Q : State → Prop} {am : Nat → Nat} {σ μ : St} {I : Im} (K : OKl M E b Ln xs base) (hD : DJ E am I base) (h : Rl (JI I) σ μ) (hn : n + 8 ≤ Ln) (h1 : kc + 20 ≤ 603072) (h2 : ks + 1300 ≤ 7211114) (kk : Kn M E am b base n (kc + 20) (ks + 1300) Q) : VZ M (bA base) 8 kc ks Q (Wl E am σ I μ) 967 (LL b E am n) [] := by
  obtain ⟨k, σ', μ1, v, hW, hm, hk, hv, hR⟩ := lw_bits M.2.1 K.q.nt hD.1.O (JI I) σ μ (xs (n + 1)) (xs (n + 2)) (lgv (xs (n + 3)) (xs (n + 4))) h
  refine z_aload1 (pc := 967) K.z dL_law_967 ?_
  refine z_ar (pc := 968) 1 K hn dL_law_968 dL_law_969 dL_law_971 dL_law_972 dL_law_973 (by decide) (by decide) ?_
  refine z_ar (pc := 974) 2 K hn dL_law_974 dL_law_975 dL_law_977 dL_law_978 dL_law_979 (by decide) (by decide) ?_
  refine z_ar (pc := 980) 3 K hn dL_law_980 dL_law_981 dL_law_983 dL_law_984 dL_law_985 (by decide) (by decide) ?_
  refine z_hi (pc := 986) K dL_law_986 dL_law_987 dL_law_989 ?_
  refine z_ar (pc := 990) 4 K hn dL_law_990 dL_law_991 dL_law_993 dL_law_994 dL_law_995 (by decide) (by decide) ?_
  refine z_lo (pc := 996) K dL_law_996 dL_law_997 dL_law_1000 dL_law_1001 ?_
  refine z_aload3 (pc := 1002) K.z dL_law_1002 ?_
  refine z_lW (pc := 1003) (As := [.ref (E.2.2 0), .int (xs (n + 1)), .int (xs (n + 2)), .long (lgv (xs (n + 3)) (xs (n + 4))), .ref (E.2.2 28)]) K hD cw_bits ml_RL_251 hW rfl rfl (by decide) (Nat.le_of_ble_eq_true rfl) (Nat.le_of_ble_eq_true rfl) h1 h2 dL_law_1003 ?_
  refine z_istore5 (pc := 1006) K.z dL_law_1006 rfl (by decide) ?_
  refine z_aload2 (pc := 1008) K.z dL_law_1008 ?_
  refine z_ar (pc := 1009) 1 K hn dL_law_1009 dL_law_1010 dL_law_1012 dL_law_1013 dL_law_1014 (by decide) (by decide) ?_
  refine z_ar (pc := 1015) 2 K hn dL_law_1015 dL_law_1016 dL_law_1018 dL_law_1019 dL_law_1020 (by decide) (by decide) ?_
  refine z_ar (pc := 1021) 3 K hn dL_law_1021 dL_law_1022 dL_law_1024 dL_law_1025 dL_law_1026 (by decide) (by decide) ?_
  refine z_hi (pc := 1027) K dL_law_1027 dL_law_1028 dL_law_1030 ?_
  refine z_ar (pc := 1031) 4 K hn dL_law_1031 dL_law_1032 dL_law_1034 dL_law_1035 dL_law_1036 (by decide) (by decide) ?_
  refine z_lo (pc := 1037) K dL_law_1037 dL_law_1038 dL_law_1041 dL_law_1042 ?_
  refine z_lM (pc := 1043) (As := [.int (xs (n + 1)), .int (xs (n + 2)), .long (lgv (xs (n + 3)) (xs (n + 4)))]) K hD ca_yX4_bits ml_RL_253 rfl (t_X4_bits _ K.q.nt hD.2.1 μ (xs (n + 1)) (xs (n + 2)) (lgv (xs (n + 3)) (xs (n + 4))) (v, μ1) hm) rfl rfl (by decide) (Nat.le_of_ble_eq_true rfl) (Nat.le_of_ble_eq_true rfl) h1 h2 dL_law_1043 ?_
  exact z_tI (pc := 1046) K hD hR hk hv h1 h2 dL_law_1046 dL_law_1048 dL_law_1049 dL_law_1052 dL_law_1054 dL_law_1059 dL_law_1061 dL_law_1064 dL_law_1065 dL_law_1066 dL_law_1067 dL_law_1069 dL_law_1070 dL_law_1071 dL_law_1076 (by decide) kk
theorem cs_11 {M : MT} {E : Ev} {b Ln : Nat} {xs : Nat → Int32} {base kc ks n : Nat} {Q : State → Prop} {am : Nat → Nat} {σ μ : St} {I : Im} (K : OKl M E b Ln xs base) (hD : DJ E am I base) (h : Rl (JI I) σ μ) (hn : n + 8 ≤ Ln) (h1 : kc + 20 ≤ 603072) (h2 : ks + 1300 ≤ 7211114) (kk : Kn M E am b base n (kc + 20) (ks + 1300) Q) : VZ M (bA base) 8 kc ks Q (Wl E am σ I μ) 1079 (LL b E am n) [] := by
  obtain ⟨k, σ', μ1, v, hW, hm, hk, hv, hR⟩ := lw_join M.2.1 K.q.nt hD.1.O (JI I) σ μ (xs (n + 1)) (xs (n + 2)) (xs (n + 3)) (xs (n + 4)) h
  refine z_aload1 (pc := 1079) K.z dL_law_1079 ?_
  refine z_ar (pc := 1080) 1 K hn dL_law_1080 dL_law_1081 dL_law_1083 dL_law_1084 dL_law_1085 (by decide) (by decide) ?_
  refine z_ar (pc := 1086) 2 K hn dL_law_1086 dL_law_1087 dL_law_1089 dL_law_1090 dL_law_1091 (by decide) (by decide) ?_
  refine z_ar (pc := 1092) 3 K hn dL_law_1092 dL_law_1093 dL_law_1095 dL_law_1096 dL_law_1097 (by decide) (by decide) ?_
  refine z_ar (pc := 1098) 4 K hn dL_law_1098 dL_law_1099 dL_law_1101 dL_law_1102 dL_law_1103 (by decide) (by decide) ?_
  refine z_aload3 (pc := 1104) K.z dL_law_1104 ?_
  refine z_lW (pc := 1105) (As := [.ref (E.2.2 0), .int (xs (n + 1)), .int (xs (n + 2)), .int (xs (n + 3)), .int (xs (n + 4)), .ref (E.2.2 28)]) K hD cw_join ml_RL_254 hW rfl rfl (by decide) (Nat.le_of_ble_eq_true rfl) (Nat.le_of_ble_eq_true rfl) h1 h2 dL_law_1105 ?_
  refine z_istore5 (pc := 1108) K.z dL_law_1108 rfl (by decide) ?_
  refine z_aload2 (pc := 1110) K.z dL_law_1110 ?_
  refine z_ar (pc := 1111) 1 K hn dL_law_1111 dL_law_1112 dL_law_1114 dL_law_1115 dL_law_1116 (by decide) (by decide) ?_
  refine z_ar (pc := 1117) 2 K hn dL_law_1117 dL_law_1118 dL_law_1120 dL_law_1121 dL_law_1122 (by decide) (by decide) ?_
  refine z_ar (pc := 1123) 3 K hn dL_law_1123 dL_law_1124 dL_law_1126 dL_law_1127 dL_law_1128 (by decide) (by decide) ?_
  refine z_ar (pc := 1129) 4 K hn dL_law_1129 dL_law_1130 dL_law_1132 dL_law_1133 dL_law_1134 (by decide) (by decide) ?_
  refine z_lM (pc := 1135) (As := [.int (xs (n + 1)), .int (xs (n + 2)), .int (xs (n + 3)), .int (xs (n + 4))]) K hD ca_yX4_join ml_RL_256 rfl (t_X4_join _ K.q.nt hD.2.1 μ (xs (n + 1)) (xs (n + 2)) (xs (n + 3)) (xs (n + 4)) (v, μ1) hm) rfl rfl (by decide) (Nat.le_of_ble_eq_true rfl) (Nat.le_of_ble_eq_true rfl) h1 h2 dL_law_1135 ?_
  exact z_tI (pc := 1138) K hD hR hk hv h1 h2 dL_law_1138 dL_law_1140 dL_law_1141 dL_law_1144 dL_law_1146 dL_law_1151 dL_law_1153 dL_law_1156 dL_law_1157 dL_law_1158 dL_law_1159 dL_law_1161 dL_law_1162 dL_law_1163 dL_law_1168 (by decide) kk
theorem cs_12 {M : MT} {E : Ev} {b Ln : Nat} {xs : Nat → Int32} {base kc ks n : Nat} {Q : State → Prop} {am : Nat → Nat} {σ μ : St} {I : Im} (K : OKl M E b Ln xs base) (hD : DJ E am I base) (h : Rl (JI I) σ μ) (hn : n + 8 ≤ Ln) (h1 : kc + 20 ≤ 603072) (h2 : ks + 1300 ≤ 7211114) (kk : Kn M E am b base n (kc + 20) (ks + 1300) Q) : VZ M (bA base) 8 kc ks Q (Wl E am σ I μ) 1171 (LL b E am n) [] := by
  obtain ⟨k, σ', μ1, v, hW, hm, hk, hv, hR⟩ := lw_turn M.2.1 K.q.nt hD.1.O (JI I) σ μ (xs (n + 1)) (xs (n + 2)) h
  refine z_aload1 (pc := 1171) K.z dL_law_1171 ?_
  refine z_ar (pc := 1172) 1 K hn dL_law_1172 dL_law_1173 dL_law_1175 dL_law_1176 dL_law_1177 (by decide) (by decide) ?_
  refine z_ar (pc := 1178) 2 K hn dL_law_1178 dL_law_1179 dL_law_1181 dL_law_1182 dL_law_1183 (by decide) (by decide) ?_
  refine z_aload3 (pc := 1184) K.z dL_law_1184 ?_
  refine z_lW (pc := 1185) (As := [.ref (E.2.2 0), .int (xs (n + 1)), .int (xs (n + 2)), .ref (E.2.2 28)]) K hD cw_turn ml_RL_257 hW rfl rfl (by decide) (Nat.le_of_ble_eq_true rfl) (Nat.le_of_ble_eq_true rfl) h1 h2 dL_law_1185 ?_
  refine z_istore5 (pc := 1188) K.z dL_law_1188 rfl (by decide) ?_
  refine z_aload2 (pc := 1190) K.z dL_law_1190 ?_
  refine z_ar (pc := 1191) 1 K hn dL_law_1191 dL_law_1192 dL_law_1194 dL_law_1195 dL_law_1196 (by decide) (by decide) ?_
  refine z_ar (pc := 1197) 2 K hn dL_law_1197 dL_law_1198 dL_law_1200 dL_law_1201 dL_law_1202 (by decide) (by decide) ?_
  refine z_lM (pc := 1203) (As := [.int (xs (n + 1)), .int (xs (n + 2))]) K hD ca_yX4_turn ml_RL_259 rfl (t_X4_turn _ K.q.nt hD.2.1 μ (xs (n + 1)) (xs (n + 2)) (v, μ1) hm) rfl rfl (by decide) (Nat.le_of_ble_eq_true rfl) (Nat.le_of_ble_eq_true rfl) h1 h2 dL_law_1203 ?_
  exact z_tI (pc := 1206) K hD hR hk hv h1 h2 dL_law_1206 dL_law_1208 dL_law_1209 dL_law_1212 dL_law_1214 dL_law_1219 dL_law_1221 dL_law_1224 dL_law_1225 dL_law_1226 dL_law_1227 dL_law_1229 dL_law_1230 dL_law_1231 dL_law_1236 (by decide) kk
theorem cs_13 {M : MT} {E : Ev} {b Ln : Nat} {xs : Nat → Int32} {base kc ks n : Nat} {Q : State → Prop} {am : Nat → Nat} {σ μ : St} {I : Im} (K : OKl M E b Ln xs base) (hD : DJ E am I base) (h : Rl (JI I) σ μ) (hn : n + 8 ≤ Ln) (h1 : kc + 20 ≤ 603072) (h2 : ks + 1300 ≤ 7211114) (kk : Kn M E am b base n (kc + 20) (ks + 1300) Q) : VZ M (bA base) 8 kc ks Q (Wl E am σ I μ) 1239 (LL b E am n) [] := by
  obtain ⟨k, σ', μ1, v, hW, hm, hk, hv, hR⟩ := lw_compare M.2.1 K.q.nt hD.1.O (JI I) σ μ (xs (n + 1)) (xs (n + 2)) (xs (n + 3)) (lgv (xs (n + 4)) (xs (n + 5))) (xs (n + 6)) h
  refine z_aload1 (pc := 1239) K.z dL_law_1239 ?_
  refine z_ar (pc := 1240) 1 K hn dL_law_1240 dL_law_1241 dL_law_1243 dL_law_1244 dL_law_1245 (by decide) (by decide) ?_
  refine z_ar (pc := 1246) 2 K hn dL_law_1246 dL_law_1247 dL_law_1249 dL_law_1250 dL_law_1251 (by decide) (by decide) ?_
  refine z_ar (pc := 1252) 3 K hn dL_law_1252 dL_law_1253 dL_law_1255 dL_law_1256 dL_law_1257 (by decide) (by decide) ?_
  refine z_ar (pc := 1258) 4 K hn dL_law_1258 dL_law_1259 dL_law_1261 dL_law_1262 dL_law_1263 (by decide) (by decide) ?_
  refine z_hi (pc := 1264) K dL_law_1264 dL_law_1265 dL_law_1267 ?_
  refine z_ar (pc := 1268) 5 K hn dL_law_1268 dL_law_1269 dL_law_1271 dL_law_1272 dL_law_1273 (by decide) (by decide) ?_
  refine z_lo (pc := 1274) K dL_law_1274 dL_law_1275 dL_law_1278 dL_law_1279 ?_
  refine z_arb (pc := 1280) 6 K hn dL_law_1280 dL_law_1281 dL_law_1283 dL_law_1285 dL_law_1286 (by decide) (by decide) ?_
  refine z_aload3 (pc := 1287) K.z dL_law_1287 ?_
  refine z_lW (pc := 1288) (As := [.ref (E.2.2 0), .int (xs (n + 1)), .int (xs (n + 2)), .int (xs (n + 3)), .long (lgv (xs (n + 4)) (xs (n + 5))), .int (xs (n + 6)), .ref (E.2.2 28)]) K hD cw_compare ml_RL_260 hW rfl rfl (by decide) (Nat.le_of_ble_eq_true rfl) (Nat.le_of_ble_eq_true rfl) h1 h2 dL_law_1288 ?_
  refine z_istore5 (pc := 1291) K.z dL_law_1291 rfl (by decide) ?_
  refine z_aload2 (pc := 1293) K.z dL_law_1293 ?_
  refine z_ar (pc := 1294) 1 K hn dL_law_1294 dL_law_1295 dL_law_1297 dL_law_1298 dL_law_1299 (by decide) (by decide) ?_
  refine z_ar (pc := 1300) 2 K hn dL_law_1300 dL_law_1301 dL_law_1303 dL_law_1304 dL_law_1305 (by decide) (by decide) ?_
  refine z_ar (pc := 1306) 3 K hn dL_law_1306 dL_law_1307 dL_law_1309 dL_law_1310 dL_law_1311 (by decide) (by decide) ?_
  refine z_ar (pc := 1312) 4 K hn dL_law_1312 dL_law_1313 dL_law_1315 dL_law_1316 dL_law_1317 (by decide) (by decide) ?_
  refine z_hi (pc := 1318) K dL_law_1318 dL_law_1319 dL_law_1321 ?_
  refine z_ar (pc := 1322) 5 K hn dL_law_1322 dL_law_1323 dL_law_1325 dL_law_1326 dL_law_1327 (by decide) (by decide) ?_
  refine z_lo (pc := 1328) K dL_law_1328 dL_law_1329 dL_law_1332 dL_law_1333 ?_
  refine z_arb (pc := 1334) 6 K hn dL_law_1334 dL_law_1335 dL_law_1337 dL_law_1339 dL_law_1340 (by decide) (by decide) ?_
  refine z_lM (pc := 1341) (As := [.int (xs (n + 1)), .int (xs (n + 2)), .int (xs (n + 3)), .long (lgv (xs (n + 4)) (xs (n + 5))), .int (xs (n + 6))]) K hD ca_yX4_compare ml_RL_263 rfl (t_X4_compare _ K.q.nt hD.2.1 μ (xs (n + 1)) (xs (n + 2)) (xs (n + 3)) (lgv (xs (n + 4)) (xs (n + 5))) (xs (n + 6)) (v, μ1) hm) rfl rfl (by decide) (Nat.le_of_ble_eq_true rfl) (Nat.le_of_ble_eq_true rfl) h1 h2 dL_law_1341 ?_
  exact z_tI (pc := 1344) K hD hR hk hv h1 h2 dL_law_1344 dL_law_1346 dL_law_1347 dL_law_1350 dL_law_1352 dL_law_1357 dL_law_1359 dL_law_1362 dL_law_1363 dL_law_1364 dL_law_1365 dL_law_1367 dL_law_1368 dL_law_1369 dL_law_1374 (by decide) kk
theorem cs_14 {M : MT} {E : Ev} {b Ln : Nat} {xs : Nat → Int32} {base kc ks n : Nat} {Q : State → Prop} {am : Nat → Nat} {σ μ : St} {I : Im} (K : OKl M E b Ln xs base) (hD : DJ E am I base) (h : Rl (JI I) σ μ) (hn : n + 8 ≤ Ln) (h1 : kc + 20 ≤ 603072) (h2 : ks + 1300 ≤ 7211114) (kk : Kn M E am b base n (kc + 20) (ks + 1300) Q) : VZ M (bA base) 8 kc ks Q (Wl E am σ I μ) 1377 (LL b E am n) [] := by
  obtain ⟨k, σ', μ1, v, hW, hm, hk, hv, hR⟩ := lw_against M.2.1 K.q.nt hD.1.O (JI I) σ μ (xs (n + 1)) (xs (n + 2)) (xs (n + 3)) (xs (n + 4)) (xs (n + 5)) h
  refine z_aload1 (pc := 1377) K.z dL_law_1377 ?_
  refine z_ar (pc := 1378) 1 K hn dL_law_1378 dL_law_1379 dL_law_1381 dL_law_1382 dL_law_1383 (by decide) (by decide) ?_
  refine z_ar (pc := 1384) 2 K hn dL_law_1384 dL_law_1385 dL_law_1387 dL_law_1388 dL_law_1389 (by decide) (by decide) ?_
  refine z_ar (pc := 1390) 3 K hn dL_law_1390 dL_law_1391 dL_law_1393 dL_law_1394 dL_law_1395 (by decide) (by decide) ?_
  refine z_ar (pc := 1396) 4 K hn dL_law_1396 dL_law_1397 dL_law_1399 dL_law_1400 dL_law_1401 (by decide) (by decide) ?_
  refine z_ar (pc := 1402) 5 K hn dL_law_1402 dL_law_1403 dL_law_1405 dL_law_1406 dL_law_1407 (by decide) (by decide) ?_
  refine z_aload3 (pc := 1408) K.z dL_law_1408 ?_
  refine z_lW (pc := 1409) (As := [.ref (E.2.2 0), .int (xs (n + 1)), .int (xs (n + 2)), .int (xs (n + 3)), .int (xs (n + 4)), .int (xs (n + 5)), .ref (E.2.2 28)]) K hD cw_against ml_RL_264 hW rfl rfl (by decide) (Nat.le_of_ble_eq_true rfl) (Nat.le_of_ble_eq_true rfl) h1 h2 dL_law_1409 ?_
  refine z_istore5 (pc := 1412) K.z dL_law_1412 rfl (by decide) ?_
  refine z_aload2 (pc := 1414) K.z dL_law_1414 ?_
  refine z_ar (pc := 1415) 1 K hn dL_law_1415 dL_law_1416 dL_law_1418 dL_law_1419 dL_law_1420 (by decide) (by decide) ?_
  refine z_ar (pc := 1421) 2 K hn dL_law_1421 dL_law_1422 dL_law_1424 dL_law_1425 dL_law_1426 (by decide) (by decide) ?_
  refine z_ar (pc := 1427) 3 K hn dL_law_1427 dL_law_1428 dL_law_1430 dL_law_1431 dL_law_1432 (by decide) (by decide) ?_
  refine z_ar (pc := 1433) 4 K hn dL_law_1433 dL_law_1434 dL_law_1436 dL_law_1437 dL_law_1438 (by decide) (by decide) ?_
  refine z_ar (pc := 1439) 5 K hn dL_law_1439 dL_law_1440 dL_law_1442 dL_law_1443 dL_law_1444 (by decide) (by decide) ?_
  refine z_lM (pc := 1445) (As := [.int (xs (n + 1)), .int (xs (n + 2)), .int (xs (n + 3)), .int (xs (n + 4)), .int (xs (n + 5))]) K hD ca_yX4_against ml_RL_267 rfl (t_X4_against _ K.q.nt hD.2.1 μ (xs (n + 1)) (xs (n + 2)) (xs (n + 3)) (xs (n + 4)) (xs (n + 5)) (v, μ1) hm) rfl rfl (by decide) (Nat.le_of_ble_eq_true rfl) (Nat.le_of_ble_eq_true rfl) h1 h2 dL_law_1445 ?_
  exact z_tI (pc := 1448) K hD hR hk hv h1 h2 dL_law_1448 dL_law_1450 dL_law_1451 dL_law_1454 dL_law_1456 dL_law_1461 dL_law_1463 dL_law_1466 dL_law_1467 dL_law_1468 dL_law_1469 dL_law_1471 dL_law_1472 dL_law_1473 dL_law_1478 (by decide) kk
theorem cs_15 {M : MT} {E : Ev} {b Ln : Nat} {xs : Nat → Int32} {base kc ks n : Nat} {Q : State → Prop} {am : Nat → Nat} {σ μ : St} {I : Im} (K : OKl M E b Ln xs base) (hD : DJ E am I base) (h : Rl (JI I) σ μ) (hn : n + 8 ≤ Ln) (h1 : kc + 20 ≤ 603072) (h2 : ks + 1300 ≤ 7211114) (kk : Kn M E am b base n (kc + 20) (ks + 1300) Q) : VZ M (bA base) 8 kc ks Q (Wl E am σ I μ) 1481 (LL b E am n) [] := by
  obtain ⟨k, σ', μ1, v, hW, hm, hk, hv, hR⟩ := lw_empty M.2.1 K.q.nt hD.1.O (JI I) σ μ (xs (n + 1)) (xs (n + 2)) (xs (n + 3)) h
  refine z_aload1 (pc := 1481) K.z dL_law_1481 ?_
  refine z_ar (pc := 1482) 1 K hn dL_law_1482 dL_law_1483 dL_law_1485 dL_law_1486 dL_law_1487 (by decide) (by decide) ?_
  refine z_ar (pc := 1488) 2 K hn dL_law_1488 dL_law_1489 dL_law_1491 dL_law_1492 dL_law_1493 (by decide) (by decide) ?_
  refine z_ar (pc := 1494) 3 K hn dL_law_1494 dL_law_1495 dL_law_1497 dL_law_1498 dL_law_1499 (by decide) (by decide) ?_
  refine z_aload3 (pc := 1500) K.z dL_law_1500 ?_
  refine z_lW (pc := 1501) (As := [.ref (E.2.2 0), .int (xs (n + 1)), .int (xs (n + 2)), .int (xs (n + 3)), .ref (E.2.2 28)]) K hD cw_empty ml_RL_268 hW rfl rfl (by decide) (Nat.le_of_ble_eq_true rfl) (Nat.le_of_ble_eq_true rfl) h1 h2 dL_law_1501 ?_
  refine z_istore5 (pc := 1504) K.z dL_law_1504 rfl (by decide) ?_
  refine z_aload2 (pc := 1506) K.z dL_law_1506 ?_
  refine z_ar (pc := 1507) 1 K hn dL_law_1507 dL_law_1508 dL_law_1510 dL_law_1511 dL_law_1512 (by decide) (by decide) ?_
  refine z_ar (pc := 1513) 2 K hn dL_law_1513 dL_law_1514 dL_law_1516 dL_law_1517 dL_law_1518 (by decide) (by decide) ?_
  refine z_ar (pc := 1519) 3 K hn dL_law_1519 dL_law_1520 dL_law_1522 dL_law_1523 dL_law_1524 (by decide) (by decide) ?_
  refine z_lM (pc := 1525) (As := [.int (xs (n + 1)), .int (xs (n + 2)), .int (xs (n + 3))]) K hD ca_yX4_empty ml_RL_270 rfl (t_X4_empty _ K.q.nt hD.2.1 μ (xs (n + 1)) (xs (n + 2)) (xs (n + 3)) (v, μ1) hm) rfl rfl (by decide) (Nat.le_of_ble_eq_true rfl) (Nat.le_of_ble_eq_true rfl) h1 h2 dL_law_1525 ?_
  exact z_tI (pc := 1528) K hD hR hk hv h1 h2 dL_law_1528 dL_law_1530 dL_law_1531 dL_law_1534 dL_law_1536 dL_law_1541 dL_law_1543 dL_law_1546 dL_law_1547 dL_law_1548 dL_law_1549 dL_law_1551 dL_law_1552 dL_law_1553 dL_law_1558 (by decide) kk
theorem cs_16 {M : MT} {E : Ev} {b Ln : Nat} {xs : Nat → Int32} {base kc ks n : Nat} {Q : State → Prop} {am : Nat → Nat} {σ μ : St} {I : Im} (K : OKl M E b Ln xs base) (hD : DJ E am I base) (h : Rl (JI I) σ μ) (hn : n + 8 ≤ Ln) (h1 : kc + 20 ≤ 603072) (h2 : ks + 1300 ≤ 7211114) (kk : Kn M E am b base n (kc + 20) (ks + 1300) Q) : VZ M (bA base) 8 kc ks Q (Wl E am σ I μ) 1561 (LL b E am n) [] := by
  obtain ⟨k, σ', μ1, v, hW, hm, hk, hv, hR⟩ := lw_top M.2.1 K.q.nt hD.1.O (JI I) σ μ (xs (n + 1)) (xs (n + 2)) (xs (n + 3)) (xs (n + 4)) h
  refine z_aload1 (pc := 1561) K.z dL_law_1561 ?_
  refine z_ar (pc := 1562) 1 K hn dL_law_1562 dL_law_1563 dL_law_1565 dL_law_1566 dL_law_1567 (by decide) (by decide) ?_
  refine z_ar (pc := 1568) 2 K hn dL_law_1568 dL_law_1569 dL_law_1571 dL_law_1572 dL_law_1573 (by decide) (by decide) ?_
  refine z_ar (pc := 1574) 3 K hn dL_law_1574 dL_law_1575 dL_law_1577 dL_law_1578 dL_law_1579 (by decide) (by decide) ?_
  refine z_ar (pc := 1580) 4 K hn dL_law_1580 dL_law_1581 dL_law_1583 dL_law_1584 dL_law_1585 (by decide) (by decide) ?_
  refine z_aload3 (pc := 1586) K.z dL_law_1586 ?_
  refine z_lW (pc := 1587) (As := [.ref (E.2.2 0), .int (xs (n + 1)), .int (xs (n + 2)), .int (xs (n + 3)), .int (xs (n + 4)), .ref (E.2.2 28)]) K hD cw_top ml_RL_271 hW rfl rfl (by decide) (Nat.le_of_ble_eq_true rfl) (Nat.le_of_ble_eq_true rfl) h1 h2 dL_law_1587 ?_
  refine z_istore5 (pc := 1590) K.z dL_law_1590 rfl (by decide) ?_
  refine z_aload2 (pc := 1592) K.z dL_law_1592 ?_
  refine z_ar (pc := 1593) 1 K hn dL_law_1593 dL_law_1594 dL_law_1596 dL_law_1597 dL_law_1598 (by decide) (by decide) ?_
  refine z_ar (pc := 1599) 2 K hn dL_law_1599 dL_law_1600 dL_law_1602 dL_law_1603 dL_law_1604 (by decide) (by decide) ?_
  refine z_ar (pc := 1605) 3 K hn dL_law_1605 dL_law_1606 dL_law_1608 dL_law_1609 dL_law_1610 (by decide) (by decide) ?_
  refine z_ar (pc := 1611) 4 K hn dL_law_1611 dL_law_1612 dL_law_1614 dL_law_1615 dL_law_1616 (by decide) (by decide) ?_
  refine z_lM (pc := 1617) (As := [.int (xs (n + 1)), .int (xs (n + 2)), .int (xs (n + 3)), .int (xs (n + 4))]) K hD ca_yX4_top ml_RL_273 rfl (t_X4_top _ K.q.nt hD.2.1 μ (xs (n + 1)) (xs (n + 2)) (xs (n + 3)) (xs (n + 4)) (v, μ1) hm) rfl rfl (by decide) (Nat.le_of_ble_eq_true rfl) (Nat.le_of_ble_eq_true rfl) h1 h2 dL_law_1617 ?_
  exact z_tI (pc := 1620) K hD hR hk hv h1 h2 dL_law_1620 dL_law_1622 dL_law_1623 dL_law_1626 dL_law_1628 dL_law_1633 dL_law_1635 dL_law_1638 dL_law_1639 dL_law_1640 dL_law_1641 dL_law_1643 dL_law_1644 dL_law_1645 dL_law_1650 (by decide) kk
theorem cs_17 {M : MT} {E : Ev} {b Ln : Nat} {xs : Nat → Int32} {base kc ks n : Nat} {Q : State → Prop} {am : Nat → Nat} {σ μ : St} {I : Im} (K : OKl M E b Ln xs base) (hD : DJ E am I base) (h : Rl (JI I) σ μ) (hn : n + 8 ≤ Ln) (h1 : kc + 20 ≤ 603072) (h2 : ks + 1300 ≤ 7211114) (kk : Kn M E am b base n (kc + 20) (ks + 1300) Q) : VZ M (bA base) 8 kc ks Q (Wl E am σ I μ) 1653 (LL b E am n) [] := by
  obtain ⟨k, σ', μ1, v, hW, hm, hk, hv, hR⟩ := lw_field M.2.1 K.q.nt hD.1.O (JI I) σ μ (xs (n + 1)) (xs (n + 2)) (xs (n + 3)) (xs (n + 4)) (xs (n + 5)) (xs (n + 6)) h
  refine z_aload1 (pc := 1653) K.z dL_law_1653 ?_
  refine z_ar (pc := 1654) 1 K hn dL_law_1654 dL_law_1655 dL_law_1657 dL_law_1658 dL_law_1659 (by decide) (by decide) ?_
  refine z_ar (pc := 1660) 2 K hn dL_law_1660 dL_law_1661 dL_law_1663 dL_law_1664 dL_law_1665 (by decide) (by decide) ?_
  refine z_ar (pc := 1666) 3 K hn dL_law_1666 dL_law_1667 dL_law_1669 dL_law_1670 dL_law_1671 (by decide) (by decide) ?_
  refine z_ar (pc := 1672) 4 K hn dL_law_1672 dL_law_1673 dL_law_1675 dL_law_1676 dL_law_1677 (by decide) (by decide) ?_
  refine z_ar (pc := 1678) 5 K hn dL_law_1678 dL_law_1679 dL_law_1681 dL_law_1682 dL_law_1683 (by decide) (by decide) ?_
  refine z_arb (pc := 1684) 6 K hn dL_law_1684 dL_law_1685 dL_law_1687 dL_law_1689 dL_law_1690 (by decide) (by decide) ?_
  refine z_aload3 (pc := 1691) K.z dL_law_1691 ?_
  refine z_lW (pc := 1692) (As := [.ref (E.2.2 0), .int (xs (n + 1)), .int (xs (n + 2)), .int (xs (n + 3)), .int (xs (n + 4)), .int (xs (n + 5)), .int (xs (n + 6)), .ref (E.2.2 28)]) K hD cw_field ml_RL_274 hW rfl rfl (by decide) (Nat.le_of_ble_eq_true rfl) (Nat.le_of_ble_eq_true rfl) h1 h2 dL_law_1692 ?_
  refine z_istore5 (pc := 1695) K.z dL_law_1695 rfl (by decide) ?_
  refine z_aload2 (pc := 1697) K.z dL_law_1697 ?_
  refine z_ar (pc := 1698) 1 K hn dL_law_1698 dL_law_1699 dL_law_1701 dL_law_1702 dL_law_1703 (by decide) (by decide) ?_
  refine z_ar (pc := 1704) 2 K hn dL_law_1704 dL_law_1705 dL_law_1707 dL_law_1708 dL_law_1709 (by decide) (by decide) ?_
  refine z_ar (pc := 1710) 3 K hn dL_law_1710 dL_law_1711 dL_law_1713 dL_law_1714 dL_law_1715 (by decide) (by decide) ?_
  refine z_ar (pc := 1716) 4 K hn dL_law_1716 dL_law_1717 dL_law_1719 dL_law_1720 dL_law_1721 (by decide) (by decide) ?_
  refine z_ar (pc := 1722) 5 K hn dL_law_1722 dL_law_1723 dL_law_1725 dL_law_1726 dL_law_1727 (by decide) (by decide) ?_
  refine z_arb (pc := 1728) 6 K hn dL_law_1728 dL_law_1729 dL_law_1731 dL_law_1733 dL_law_1734 (by decide) (by decide) ?_
  refine z_lM (pc := 1735) (As := [.int (xs (n + 1)), .int (xs (n + 2)), .int (xs (n + 3)), .int (xs (n + 4)), .int (xs (n + 5)), .int (xs (n + 6))]) K hD ca_yX4_field ml_RL_277 rfl (t_X4_field _ K.q.nt hD.2.1 μ (xs (n + 1)) (xs (n + 2)) (xs (n + 3)) (xs (n + 4)) (xs (n + 5)) (xs (n + 6)) (v, μ1) hm) rfl rfl (by decide) (Nat.le_of_ble_eq_true rfl) (Nat.le_of_ble_eq_true rfl) h1 h2 dL_law_1735 ?_
  exact z_tI (pc := 1738) K hD hR hk hv h1 h2 dL_law_1738 dL_law_1740 dL_law_1741 dL_law_1744 dL_law_1746 dL_law_1751 dL_law_1753 dL_law_1756 dL_law_1757 dL_law_1758 dL_law_1759 dL_law_1761 dL_law_1762 dL_law_1763 dL_law_1768 (by decide) kk
theorem cs_18 {M : MT} {E : Ev} {b Ln : Nat} {xs : Nat → Int32} {base kc ks n : Nat} {Q : State → Prop} {am : Nat → Nat} {σ μ : St} {I : Im} (K : OKl M E b Ln xs base) (hD : DJ E am I base) (h : Rl (JI I) σ μ) (hn : n + 8 ≤ Ln) (h1 : kc + 20 ≤ 603072) (h2 : ks + 1300 ≤ 7211114) (kk : Kn M E am b base n (kc + 20) (ks + 1300) Q) : VZ M (bA base) 8 kc ks Q (Wl E am σ I μ) 1771 (LL b E am n) [] := by
  obtain ⟨k, σ', μ1, v, hW, hm, hk, hv, hR⟩ := lw_move M.2.1 K.q.nt hD.1.O (JI I) σ μ (xs (n + 1)) (xs (n + 2)) (xs (n + 3)) h
  refine z_aload1 (pc := 1771) K.z dL_law_1771 ?_
  refine z_ar (pc := 1772) 1 K hn dL_law_1772 dL_law_1773 dL_law_1775 dL_law_1776 dL_law_1777 (by decide) (by decide) ?_
  refine z_ar (pc := 1778) 2 K hn dL_law_1778 dL_law_1779 dL_law_1781 dL_law_1782 dL_law_1783 (by decide) (by decide) ?_
  refine z_ar (pc := 1784) 3 K hn dL_law_1784 dL_law_1785 dL_law_1787 dL_law_1788 dL_law_1789 (by decide) (by decide) ?_
  refine z_aload3 (pc := 1790) K.z dL_law_1790 ?_
  refine z_lW (pc := 1791) (As := [.ref (E.2.2 0), .int (xs (n + 1)), .int (xs (n + 2)), .int (xs (n + 3)), .ref (E.2.2 28)]) K hD cw_move ml_RL_278 hW rfl rfl (by decide) (Nat.le_of_ble_eq_true rfl) (Nat.le_of_ble_eq_true rfl) h1 h2 dL_law_1791 ?_
  refine z_istore5 (pc := 1794) K.z dL_law_1794 rfl (by decide) ?_
  refine z_aload2 (pc := 1796) K.z dL_law_1796 ?_
  refine z_ar (pc := 1797) 1 K hn dL_law_1797 dL_law_1798 dL_law_1800 dL_law_1801 dL_law_1802 (by decide) (by decide) ?_
  refine z_ar (pc := 1803) 2 K hn dL_law_1803 dL_law_1804 dL_law_1806 dL_law_1807 dL_law_1808 (by decide) (by decide) ?_
  refine z_ar (pc := 1809) 3 K hn dL_law_1809 dL_law_1810 dL_law_1812 dL_law_1813 dL_law_1814 (by decide) (by decide) ?_
  refine z_lM (pc := 1815) (As := [.int (xs (n + 1)), .int (xs (n + 2)), .int (xs (n + 3))]) K hD ca_yX4_move ml_RL_280 rfl (t_X4_move _ K.q.nt hD.2.1 μ (xs (n + 1)) (xs (n + 2)) (xs (n + 3)) (v, μ1) hm) rfl rfl (by decide) (Nat.le_of_ble_eq_true rfl) (Nat.le_of_ble_eq_true rfl) h1 h2 dL_law_1815 ?_
  exact z_tI (pc := 1818) K hD hR hk hv h1 h2 dL_law_1818 dL_law_1820 dL_law_1821 dL_law_1824 dL_law_1826 dL_law_1831 dL_law_1833 dL_law_1836 dL_law_1837 dL_law_1838 dL_law_1839 dL_law_1841 dL_law_1842 dL_law_1843 dL_law_1848 (by decide) kk
theorem cs_19 {M : MT} {E : Ev} {b Ln : Nat} {xs : Nat → Int32} {base kc ks n : Nat} {Q : State → Prop} {am : Nat → Nat} {σ μ : St} {I : Im} (K : OKl M E b Ln xs base) (hD : DJ E am I base) (h : Rl (JI I) σ μ) (hn : n + 8 ≤ Ln) (h1 : kc + 20 ≤ 603072) (h2 : ks + 1300 ≤ 7211114) (kk : Kn M E am b base n (kc + 20) (ks + 1300) Q) : VZ M (bA base) 8 kc ks Q (Wl E am σ I μ) 1851 (LL b E am n) [] := by
  obtain ⟨k, σ', μ1, v, hW, hm, hk, hv, hR⟩ := lw_firsts M.2.1 K.q.nt hD.1.O (JI I) σ μ (xs (n + 1)) (xs (n + 2)) h
  refine z_aload1 (pc := 1851) K.z dL_law_1851 ?_
  refine z_ar (pc := 1852) 1 K hn dL_law_1852 dL_law_1853 dL_law_1855 dL_law_1856 dL_law_1857 (by decide) (by decide) ?_
  refine z_ar (pc := 1858) 2 K hn dL_law_1858 dL_law_1859 dL_law_1861 dL_law_1862 dL_law_1863 (by decide) (by decide) ?_
  refine z_aload3 (pc := 1864) K.z dL_law_1864 ?_
  refine z_lW (pc := 1865) (As := [.ref (E.2.2 0), .int (xs (n + 1)), .int (xs (n + 2)), .ref (E.2.2 28)]) K hD cw_firsts ml_RL_281 hW rfl rfl (by decide) (Nat.le_of_ble_eq_true rfl) (Nat.le_of_ble_eq_true rfl) h1 h2 dL_law_1865 ?_
  refine z_istore5 (pc := 1868) K.z dL_law_1868 rfl (by decide) ?_
  refine z_aload2 (pc := 1870) K.z dL_law_1870 ?_
  refine z_ar (pc := 1871) 1 K hn dL_law_1871 dL_law_1872 dL_law_1874 dL_law_1875 dL_law_1876 (by decide) (by decide) ?_
  refine z_ar (pc := 1877) 2 K hn dL_law_1877 dL_law_1878 dL_law_1880 dL_law_1881 dL_law_1882 (by decide) (by decide) ?_
  refine z_lM (pc := 1883) (As := [.int (xs (n + 1)), .int (xs (n + 2))]) K hD ca_yX4_firsts ml_RL_283 rfl (t_X4_firsts _ K.q.nt hD.2.1 μ (xs (n + 1)) (xs (n + 2)) (v, μ1) hm) rfl rfl (by decide) (Nat.le_of_ble_eq_true rfl) (Nat.le_of_ble_eq_true rfl) h1 h2 dL_law_1883 ?_
  exact z_tI (pc := 1886) K hD hR hk hv h1 h2 dL_law_1886 dL_law_1888 dL_law_1889 dL_law_1892 dL_law_1894 dL_law_1899 dL_law_1901 dL_law_1904 dL_law_1905 dL_law_1906 dL_law_1907 dL_law_1909 dL_law_1910 dL_law_1911 dL_law_1916 (by decide) kk
