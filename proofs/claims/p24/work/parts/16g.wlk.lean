set_option maxRecDepth 100000 in
set_option maxHeartbeats 4000000 in
theorem tb_X9_comes_518 {l : Launch} {g : gx_T} {σ : sx_T} {u : sx_T} {As : Array Value} {n0 : Nat} {t : Nat} (h : fb_X9_comes_518 n0 σ t = some u) (hT : TS g σ) (hk_t : sx_K σ t = 11) : ZY l g cX9_comes RX9 "comes" none 9 1 23 0 0 false As (QM g As (Qxv g u)) (True) u σ 518 [(0, .ref t)] [] := by
  unfold fb_X9_comes_518 at h
  refine ym 519 (fun B k => z_aload_n B dX9_comes_518 rfl 0 rfl k) ?_
  refine ym 520 (fun B k => z_iconst (v := 0) B dX9_comes_519 (by decide) k) ?_
  refine ymw (σ' := (wx_I σ t 30 0)) 523 e_I (fun B hin k => pf_X9_116 (x := 0) B hk_t rfl dX9_comes_520 k) ?_
  have hT := TS_I (k := 30) (x := 0) hT hk_t (Or.inl rfl)
  have hk_t := kk_I (σ := σ) (a := t) (k := 30) (x := 0) hk_t
  obtain rfl := Option.some.inj h
  exact yr_v hT trivial rfl dX9_comes_523
set_option maxRecDepth 100000 in
set_option maxHeartbeats 4000000 in
theorem tb_X9_comes_515 {l : Launch} {g : gx_T} {σ : sx_T} {u : sx_T} {As : Array Value} {n0 : Nat} {t : Nat} {y0 : Int32} (h : fb_X9_comes_515 n0 σ t y0 = some u) (hT : TS g σ) (hk_t : sx_K σ t = 11) : ZY l g cX9_comes RX9 "comes" none 9 1 23 0 0 false As (QM g As (Qxv g u)) (True) u σ 515 [(0, .ref t)] [.int y0, .ref t] := by
  unfold fb_X9_comes_515 at h
  refine ymw (σ' := (wx_I σ t 36 y0)) 518 e_I (fun B hin k => pf_X9_131 (x := y0) B hk_t rfl dX9_comes_515 k) ?_
  have hT := TS_I (k := 36) (x := y0) hT hk_t (Or.inl rfl)
  have hk_t := kk_I (σ := σ) (a := t) (k := 36) (x := y0) hk_t
  refine y_sub [(0, .ref t)] [0] rfl ?_
  exact tb_X9_comes_518 h hT hk_t
set_option maxRecDepth 100000 in
set_option maxHeartbeats 4000000 in
theorem tb_X9_comes_496 {l : Launch} {g : gx_T} {σ : sx_T} {u : sx_T} {As : Array Value} {n0 : Nat} {t : Nat} {x7 : Int64} {y0 : Int32} (h : fb_X9_comes_496 n0 σ t x7 y0 = some u) (hT : TS g σ) (hk_t : sx_K σ t = 11) : ZY l g cX9_comes RX9 "comes" none 9 1 23 0 0 false As (QM g As (Qxv g u)) (True) u σ 496 [(0, .ref t), (7, .long x7)] [.int y0, .ref t] := by
  unfold fb_X9_comes_496 at h
  refine ymw (σ' := (wx_I σ t 29 y0)) 499 e_I (fun B hin k => pf_X9_113 (x := y0) B hk_t rfl dX9_comes_496 k) ?_
  have hT := TS_I (k := 29) (x := y0) hT hk_t (Or.inl rfl)
  have hk_t := kk_I (σ := σ) (a := t) (k := 29) (x := y0) hk_t
  refine ym 500 (fun B k => z_aload_n B dX9_comes_499 rfl 0 rfl k) ?_
  refine ym 502 (fun B k => z_lload B dX9_comes_500 1 rfl k) ?_
  refine ym 503 (fun B k => z_lconst (v := 1) B dX9_comes_502 (by decide) k) ?_
  refine ym 504 (fun B k => z_lcmp (v := lg_cmp x7 1) B dX9_comes_503 rfl k) ?_
  by_cases c1 : (lg_cmp x7 1) = 0
  · replace h := ite_p c1 h
    refine ym 507 (fun B k => z_if_ne (tgt := 514) B dX9_comes_504 (by decide) (fun q => absurd c1 q) (fun _ => k)) ?_
    refine ym 508 (fun B k => z_aload_n B dX9_comes_507 rfl 0 rfl k) ?_
    refine ym 511 (fun B k => gf_X9_131 (x := (sx_I σ t 36)) B hk_t (rI_n (by decide) rfl) dX9_comes_508 k) ?_
    refine ym 515 (fun B k => z_goto (tgt := 515) B dX9_comes_511 (by decide) k) ?_
    refine y_sub [(0, .ref t)] [0] rfl ?_
    exact tb_X9_comes_515 h hT hk_t
  · replace h := ite_n c1 h
    refine ym 514 (fun B k => z_if_ne (tgt := 514) B dX9_comes_504 (by decide) (fun _ => k) (fun q => absurd q c1)) ?_
    refine ym 515 (fun B k => z_iconst (v := 2) B dX9_comes_514 (by decide) k) ?_
    refine y_sub [(0, .ref t)] [0] rfl ?_
    exact tb_X9_comes_515 h hT hk_t
set_option maxRecDepth 100000 in
set_option maxHeartbeats 4000000 in
theorem tb_X9_comes_470 {l : Launch} {g : gx_T} {σ : sx_T} {u : sx_T} {As : Array Value} {n0 : Nat} {t : Nat} {x3 : Int64} {y0 : Int64} (h : fb_X9_comes_470 n0 σ t x3 y0 = some u) (hT : TS g σ) (hk_t : sx_K σ t = 11) : ZY l g cX9_comes RX9 "comes" none 9 1 23 0 0 false As (QM g As (Qxv g u)) (True) u σ 470 [(0, .ref t), (3, .long x3)] [.long y0] := by
  unfold fb_X9_comes_470 at h
  refine ym 472 (fun B k => z_lstore (lv' := [(7, .long y0), (0, .ref t), (3, .long x3)]) B dX9_comes_470 (by decide) rfl k) ?_
  refine ym 473 (fun B k => z_aload_n B dX9_comes_472 rfl 1 rfl k) ?_
  refine ym 475 (fun B k => z_lload B dX9_comes_473 0 rfl k) ?_
  refine ym 476 (fun B k => z_lconst (v := 1) B dX9_comes_475 (by decide) k) ?_
  refine ym 477 (fun B k => z_lcmp (v := lg_cmp y0 1) B dX9_comes_476 rfl k) ?_
  by_cases c1 : (lg_cmp y0 1) = 0
  · replace h := ite_p c1 h
    refine ym 480 (fun B k => z_if_ne (tgt := 492) B dX9_comes_477 (by decide) (fun q => absurd c1 q) (fun _ => k)) ?_
    refine ym 481 (fun B k => z_lload_n B dX9_comes_480 rfl 2 rfl k) ?_
    refine ym 483 (fun B k => z_lload B dX9_comes_481 0 rfl k) ?_
    refine ym 484 (fun B k => z_lsub B dX9_comes_483 k) ?_
    refine ym 487 (fun B k => z_ldc2 (v := 10) B dX9_comes_484 wg_1243 k) ?_
    refine ym 488 (fun B k => z_ldiv B dX9_comes_487 (by decide) k) ?_
    refine ym 489 (fun B k => z_l2i (v := ((x3 - y0) / 10).toInt32) B dX9_comes_488 rfl k) ?_
    refine ym 496 (fun B k => z_goto (tgt := 496) B dX9_comes_489 (by decide) k) ?_
    refine y_sub [(0, .ref t), (7, .long y0)] [1, 0] rfl ?_
    exact tb_X9_comes_496 h hT hk_t
  · replace h := ite_n c1 h
    refine ym 492 (fun B k => z_if_ne (tgt := 492) B dX9_comes_477 (by decide) (fun _ => k) (fun q => absurd q c1)) ?_
    refine ym 493 (fun B k => z_aload_n B dX9_comes_492 rfl 1 rfl k) ?_
    refine ym 496 (fun B k => gf_X9_113 (x := (sx_I σ t 29)) B hk_t rfl dX9_comes_493 k) ?_
    refine y_sub [(0, .ref t), (7, .long y0)] [1, 0] rfl ?_
    exact tb_X9_comes_496 h hT hk_t
set_option maxRecDepth 100000 in
set_option maxHeartbeats 4000000 in
theorem tb_X9_comes_434 {l : Launch} {g : gx_T} {σ : sx_T} {u : sx_T} {As : Array Value} {n0 : Nat} {t : Nat} {x2 : Int32} {x3 : Int64} {y0 : Int32} (h : fb_X9_comes_434 n0 σ t x2 x3 y0 = some u) (hT : TS g σ) (hk_t : sx_K σ t = 11) : ZY l g cX9_comes RX9 "comes" none 9 1 23 0 0 false As (QM g As (Qxv g u)) (True) u σ 434 [(0, .ref t), (2, .int x2), (3, .long x3)] [.int y0, .ref t] := by
  unfold fb_X9_comes_434 at h
  refine ymw (σ' := (wx_I σ t 36 y0)) 437 e_I (fun B hin k => pf_X9_131 (x := y0) B hk_t rfl dX9_comes_434 k) ?_
  have hT := TS_I (k := 36) (x := y0) hT hk_t (Or.inl rfl)
  have hk_t := kk_I (σ := σ) (a := t) (k := 36) (x := y0) hk_t
  refine ym 438 (fun B k => z_iload_n B dX9_comes_437 rfl 1 rfl k) ?_
  refine ym 440 (fun B k => z_bipush (v := 8) B dX9_comes_438 (by decide) k) ?_
  by_cases c1 : x2 = 8
  · replace h := ite_p c1 h
    refine ym 443 (fun B k => z_icmp_ne (tgt := 518) B dX9_comes_440 (by decide) (fun q => absurd c1 q) (fun _ => k)) ?_
    refine ym 444 (fun B k => z_lload_n B dX9_comes_443 rfl 2 rfl k) ?_
    refine ym 447 (fun B k => z_ldc2 (v := 10) B dX9_comes_444 wg_1243 k) ?_
    refine ym 448 (fun B k => z_lrem B dX9_comes_447 (by decide) k) ?_
    refine ym 449 (fun B k => z_lconst (v := 0) B dX9_comes_448 (by decide) k) ?_
    refine ym 450 (fun B k => z_lcmp (v := lg_cmp (jreml x3 10) 0) B dX9_comes_449 rfl k) ?_
    by_cases c2 : 0 ≤ (lg_cmp (jreml x3 10) 0)
    · replace h := ite_p c2 h
      refine ym 465 (fun B k => z_if_ge (tgt := 465) B dX9_comes_450 (by decide) (fun _ => k) (fun q => absurd c2 q)) ?_
      refine ym 466 (fun B k => z_lload_n B dX9_comes_465 rfl 2 rfl k) ?_
      refine ym 469 (fun B k => z_ldc2 (v := 10) B dX9_comes_466 wg_1243 k) ?_
      refine ym 470 (fun B k => z_lrem B dX9_comes_469 (by decide) k) ?_
      refine y_sub [(0, .ref t), (3, .long x3)] [0, 2] rfl ?_
      exact tb_X9_comes_470 h hT hk_t
    · replace h := ite_n c2 h
      refine ym 453 (fun B k => z_if_ge (tgt := 465) B dX9_comes_450 (by decide) (fun q => absurd q c2) (fun _ => k)) ?_
      refine ym 454 (fun B k => z_lload_n B dX9_comes_453 rfl 2 rfl k) ?_
      refine ym 457 (fun B k => z_ldc2 (v := 10) B dX9_comes_454 wg_1243 k) ?_
      refine ym 458 (fun B k => z_lrem B dX9_comes_457 (by decide) k) ?_
      refine ym 461 (fun B k => z_ldc2 (v := 10) B dX9_comes_458 wg_1243 k) ?_
      refine ym 462 (fun B k => z_ladd B dX9_comes_461 k) ?_
      refine ym 470 (fun B k => z_goto (tgt := 470) B dX9_comes_462 (by decide) k) ?_
      refine y_sub [(0, .ref t), (3, .long x3)] [0, 2] rfl ?_
      exact tb_X9_comes_470 h hT hk_t
  · replace h := ite_n c1 h
    refine ym 518 (fun B k => z_icmp_ne (tgt := 518) B dX9_comes_440 (by decide) (fun _ => k) (fun q => absurd q c1)) ?_
    refine y_sub [(0, .ref t)] [0] rfl ?_
    exact tb_X9_comes_518 h hT hk_t
set_option maxRecDepth 100000 in
set_option maxHeartbeats 4000000 in
theorem tb_X9_comes_430 {l : Launch} {g : gx_T} {σ : sx_T} {u : sx_T} {As : Array Value} {n0 : Nat} {t : Nat} {x2 : Int32} {x3 : Int64} (h : fb_X9_comes_430 n0 σ t x2 x3 = some u) (hT : TS g σ) (hk_t : sx_K σ t = 11) : ZY l g cX9_comes RX9 "comes" none 9 1 23 0 0 false As (QM g As (Qxv g u)) (True) u σ 430 [(0, .ref t), (2, .int x2), (3, .long x3)] [.ref t] := by
  unfold fb_X9_comes_430 at h
  refine ym 431 (fun B k => z_aload_n B dX9_comes_430 rfl 0 rfl k) ?_
  refine ym 434 (fun B k => gf_X9_131 (x := (sx_I σ t 36)) B hk_t rfl dX9_comes_431 k) ?_
  refine y_sub [(0, .ref t), (2, .int x2), (3, .long x3)] [0, 1, 2] rfl ?_
  exact tb_X9_comes_434 h hT hk_t
set_option maxRecDepth 100000 in
set_option maxHeartbeats 4000000 in
theorem tb_X9_comes_409 {l : Launch} {g : gx_T} {σ : sx_T} {u : sx_T} {As : Array Value} {n0 : Nat} {t : Nat} {x2 : Int32} {x3 : Int64} {y0 : Int32} (h : fb_X9_comes_409 n0 σ t x2 x3 y0 = some u) (hT : TS g σ) (hk_t : sx_K σ t = 11) : ZY l g cX9_comes RX9 "comes" none 9 1 23 0 0 false As (QM g As (Qxv g u)) (True) u σ 409 [(0, .ref t), (2, .int x2), (3, .long x3)] [.int y0, .ref t] := by
  unfold fb_X9_comes_409 at h
  refine ymw (σ' := (wx_I σ t 29 y0)) 412 e_I (fun B hin k => pf_X9_113 (x := y0) B hk_t rfl dX9_comes_409 k) ?_
  have hT := TS_I (k := 29) (x := y0) hT hk_t (Or.inl rfl)
  have hk_t := kk_I (σ := σ) (a := t) (k := 29) (x := y0) hk_t
  refine ym 413 (fun B k => z_aload_n B dX9_comes_412 rfl 0 rfl k) ?_
  refine ym 414 (fun B k => z_iload_n B dX9_comes_413 rfl 1 rfl k) ?_
  refine ym 415 (fun B k => z_iconst (v := 3) B dX9_comes_414 (by decide) k) ?_
  by_cases c1 : x2 = 3
  · replace h := ite_p c1 h
    refine ym 418 (fun B k => z_icmp_ne (tgt := 430) B dX9_comes_415 (by decide) (fun q => absurd c1 q) (fun _ => k)) ?_
    refine ym 419 (fun B k => z_aload_n B dX9_comes_418 rfl 0 rfl k) ?_
    refine ym 422 (fun B k => gf_X9_116 (x := (sx_I σ t 30)) B hk_t (rI_n (by decide) rfl) dX9_comes_419 k) ?_
    refine ym 423 (fun B k => z_iconst (v := 1) B dX9_comes_422 (by decide) k) ?_
    by_cases c2 : (sx_I σ t 30) = 1
    · replace h := ite_p c2 h
      refine ym 426 (fun B k => z_icmp_ne (tgt := 430) B dX9_comes_423 (by decide) (fun q => absurd c2 q) (fun _ => k)) ?_
      refine ym 427 (fun B k => z_iconst (v := 2) B dX9_comes_426 (by decide) k) ?_
      refine ym 434 (fun B k => z_goto (tgt := 434) B dX9_comes_427 (by decide) k) ?_
      refine y_sub [(0, .ref t), (2, .int x2), (3, .long x3)] [0, 1, 2] rfl ?_
      exact tb_X9_comes_434 h hT hk_t
    · replace h := ite_n c2 h
      refine ym 430 (fun B k => z_icmp_ne (tgt := 430) B dX9_comes_423 (by decide) (fun _ => k) (fun q => absurd q c2)) ?_
      refine y_sub [(0, .ref t), (2, .int x2), (3, .long x3)] [0, 1, 2] rfl ?_
      exact tb_X9_comes_430 h hT hk_t
  · replace h := ite_n c1 h
    refine ym 430 (fun B k => z_icmp_ne (tgt := 430) B dX9_comes_415 (by decide) (fun _ => k) (fun q => absurd q c1)) ?_
    refine y_sub [(0, .ref t), (2, .int x2), (3, .long x3)] [0, 1, 2] rfl ?_
    exact tb_X9_comes_430 h hT hk_t
set_option maxRecDepth 100000 in
set_option maxHeartbeats 4000000 in
theorem tb_X9_comes_405 {l : Launch} {g : gx_T} {σ : sx_T} {u : sx_T} {As : Array Value} {n0 : Nat} {t : Nat} {x2 : Int32} {x3 : Int64} (h : fb_X9_comes_405 n0 σ t x2 x3 = some u) (hT : TS g σ) (hk_t : sx_K σ t = 11) : ZY l g cX9_comes RX9 "comes" none 9 1 23 0 0 false As (QM g As (Qxv g u)) (True) u σ 405 [(0, .ref t), (2, .int x2), (3, .long x3)] [.ref t] := by
  unfold fb_X9_comes_405 at h
  refine ym 406 (fun B k => z_aload_n B dX9_comes_405 rfl 0 rfl k) ?_
  refine ym 409 (fun B k => gf_X9_113 (x := (sx_I σ t 29)) B hk_t rfl dX9_comes_406 k) ?_
  refine y_sub [(0, .ref t), (2, .int x2), (3, .long x3)] [0, 1, 2] rfl ?_
  exact tb_X9_comes_409 h hT hk_t
set_option maxRecDepth 100000 in
set_option maxHeartbeats 4000000 in
theorem tb_X9_comes_388 {l : Launch} {g : gx_T} {σ : sx_T} {u : sx_T} {As : Array Value} {n0 : Nat} {t : Nat} {x2 : Int32} {x3 : Int64} (h : fb_X9_comes_388 n0 σ t x2 x3 = some u) (hT : TS g σ) (hk_t : sx_K σ t = 11) : ZY l g cX9_comes RX9 "comes" none 9 1 23 0 0 false As (QM g As (Qxv g u)) (True) u σ 388 [(0, .ref t), (2, .int x2), (3, .long x3)] [.ref t] := by
  unfold fb_X9_comes_388 at h
  refine ym 389 (fun B k => z_iload_n B dX9_comes_388 rfl 1 rfl k) ?_
  refine ym 390 (fun B k => z_iconst (v := 5) B dX9_comes_389 (by decide) k) ?_
  by_cases c1 : x2 = 5
  · replace h := ite_p c1 h
    refine ym 393 (fun B k => z_icmp_ne (tgt := 405) B dX9_comes_390 (by decide) (fun q => absurd c1 q) (fun _ => k)) ?_
    refine ym 394 (fun B k => z_aload_n B dX9_comes_393 rfl 0 rfl k) ?_
    refine ym 397 (fun B k => gf_X9_116 (x := (sx_I σ t 30)) B hk_t rfl dX9_comes_394 k) ?_
    refine ym 398 (fun B k => z_iconst (v := 4) B dX9_comes_397 (by decide) k) ?_
    by_cases c2 : (sx_I σ t 30) = 4
    · replace h := ite_p c2 h
      refine ym 401 (fun B k => z_icmp_ne (tgt := 405) B dX9_comes_398 (by decide) (fun q => absurd c2 q) (fun _ => k)) ?_
      refine ym 402 (fun B k => z_iconst (v := 0) B dX9_comes_401 (by decide) k) ?_
      refine ym 409 (fun B k => z_goto (tgt := 409) B dX9_comes_402 (by decide) k) ?_
      refine y_sub [(0, .ref t), (2, .int x2), (3, .long x3)] [0, 1, 2] rfl ?_
      exact tb_X9_comes_409 h hT hk_t
    · replace h := ite_n c2 h
      refine ym 405 (fun B k => z_icmp_ne (tgt := 405) B dX9_comes_398 (by decide) (fun _ => k) (fun q => absurd q c2)) ?_
      refine y_sub [(0, .ref t), (2, .int x2), (3, .long x3)] [0, 1, 2] rfl ?_
      exact tb_X9_comes_405 h hT hk_t
  · replace h := ite_n c1 h
    refine ym 405 (fun B k => z_icmp_ne (tgt := 405) B dX9_comes_390 (by decide) (fun _ => k) (fun q => absurd q c1)) ?_
    refine y_sub [(0, .ref t), (2, .int x2), (3, .long x3)] [0, 1, 2] rfl ?_
    exact tb_X9_comes_405 h hT hk_t
set_option maxRecDepth 100000 in
set_option maxHeartbeats 4000000 in
theorem tb_X9_comes_356 {l : Launch} {g : gx_T} {σ : sx_T} {u : sx_T} {As : Array Value} {n0 : Nat} {t : Nat} (h : fb_X9_comes_356 n0 σ t = some u) (hT : TS g σ) (hk_t : sx_K σ t = 11) : ZY l g cX9_comes RX9 "comes" none 9 1 23 0 0 false As (QM g As (Qxv g u)) (True) u σ 356 [(0, .ref t)] [] := by
  unfold fb_X9_comes_356 at h
  refine ym 357 (fun B k => z_aload_n B dX9_comes_356 rfl 0 rfl k) ?_
  refine ym 358 (fun B k => z_iconst (v := 0) B dX9_comes_357 (by decide) k) ?_
  refine ymw (σ' := (wx_I σ t 30 0)) 361 e_I (fun B hin k => pf_X9_116 (x := 0) B hk_t rfl dX9_comes_358 k) ?_
  have hT := TS_I (k := 30) (x := 0) hT hk_t (Or.inl rfl)
  have hk_t := kk_I (σ := σ) (a := t) (k := 30) (x := 0) hk_t
  refine ym 362 (fun B k => z_aload_n B dX9_comes_361 rfl 0 rfl k) ?_
  refine ym 363 (fun B k => z_iconst (v := 3) B dX9_comes_362 (by decide) k) ?_
  refine ymw (σ' := (wx_I (wx_I σ t 30 0) t 36 3)) 366 e_I (fun B hin k => pf_X9_131 (x := 3) B hk_t rfl dX9_comes_363 k) ?_
  have hT := TS_I (k := 36) (x := 3) hT hk_t (Or.inl rfl)
  have hk_t := kk_I (σ := (wx_I σ t 30 0)) (a := t) (k := 36) (x := 3) hk_t
  refine ym 523 (fun B k => z_goto (tgt := 523) B dX9_comes_366 (by decide) k) ?_
  obtain rfl := Option.some.inj h
  exact yr_v hT trivial rfl dX9_comes_523
set_option maxRecDepth 100000 in
set_option maxHeartbeats 4000000 in
theorem tb_X9_comes_256 {l : Launch} {g : gx_T} {σ : sx_T} {u : sx_T} {As : Array Value} {n0 : Nat} {t : Nat} {y0 : Int32} (h : fb_X9_comes_256 n0 σ t y0 = some u) (hT : TS g σ) (hk_t : sx_K σ t = 11) : ZY l g cX9_comes RX9 "comes" none 9 1 23 0 0 false As (QM g As (Qxv g u)) (True) u σ 256 [(0, .ref t)] [.int y0, .ref t] := by
  unfold fb_X9_comes_256 at h
  refine ymw (σ' := (wx_I σ t 29 y0)) 259 e_I (fun B hin k => pf_X9_113 (x := y0) B hk_t rfl dX9_comes_256 k) ?_
  have hT := TS_I (k := 29) (x := y0) hT hk_t (Or.inl rfl)
  have hk_t := kk_I (σ := σ) (a := t) (k := 29) (x := y0) hk_t
  refine ym 260 (fun B k => z_aload_n B dX9_comes_259 rfl 0 rfl k) ?_
  refine ym 261 (fun B k => z_iconst (v := 0) B dX9_comes_260 (by decide) k) ?_
  refine ymw (σ' := (wx_I (wx_I σ t 29 y0) t 30 0)) 264 e_I (fun B hin k => pf_X9_116 (x := 0) B hk_t rfl dX9_comes_261 k) ?_
  have hT := TS_I (k := 30) (x := 0) hT hk_t (Or.inl rfl)
  have hk_t := kk_I (σ := (wx_I σ t 29 y0)) (a := t) (k := 30) (x := 0) hk_t
  refine ym 523 (fun B k => z_goto (tgt := 523) B dX9_comes_264 (by decide) k) ?_
  obtain rfl := Option.some.inj h
  exact yr_v hT trivial rfl dX9_comes_523
set_option maxRecDepth 100000 in
set_option maxHeartbeats 4000000 in
theorem tb_X9_comes_213 {l : Launch} {g : gx_T} {σ : sx_T} {u : sx_T} {As : Array Value} {n0 : Nat} {t : Nat} {x3 : Int64} (h : fb_X9_comes_213 n0 σ t x3 = some u) (hT : TS g σ) (hk_t : sx_K σ t = 11) : ZY l g cX9_comes RX9 "comes" none 9 1 23 0 0 false As (QM g As (Qxv g u)) (True) u σ 213 [(0, .ref t), (3, .long x3)] [] := by
  unfold fb_X9_comes_213 at h
  refine ym 214 (fun B k => z_lload_n B dX9_comes_213 rfl 1 rfl k) ?_
  refine ym 217 (fun B k => z_ldc2 (v := 100) B dX9_comes_214 wg_1234 k) ?_
  refine ym 218 (fun B k => z_ldiv B dX9_comes_217 (by decide) k) ?_
  refine ym 219 (fun B k => z_aload_n B dX9_comes_218 rfl 0 rfl k) ?_
  refine ym 222 (fun B k => gf_X9_119 (x := (sx_I σ t 31)) B hk_t rfl dX9_comes_219 k) ?_
  refine ym 223 (fun B k => z_i2l (v := (sx_I σ t 31).toInt64) B dX9_comes_222 rfl k) ?_
  refine ym 224 (fun B k => z_lcmp (v := lg_cmp (x3 / 100) ((sx_I σ t 31).toInt64)) B dX9_comes_223 rfl k) ?_
  by_cases c1 : (lg_cmp (x3 / 100) ((sx_I σ t 31).toInt64)) = 0
  · replace h := ite_p c1 h
    refine ym 227 (fun B k => z_if_ne (tgt := 523) B dX9_comes_224 (by decide) (fun q => absurd c1 q) (fun _ => k)) ?_
    refine ym 228 (fun B k => z_aload_n B dX9_comes_227 rfl 0 rfl k) ?_
    refine ym 229 (fun B k => z_aload_n B dX9_comes_228 rfl 0 rfl k) ?_
    refine ym 230 (fun B k => z_aload_n B dX9_comes_229 rfl 0 rfl k) ?_
    refine ym 233 (fun B k => gf_X9_119 (x := (sx_I σ t 31)) B hk_t rfl dX9_comes_230 k) ?_
    replace h := br_e h
    obtain ⟨r3, h2, h⟩ := h
    have m4 := ct_X9_keptOf l (g := g) h2 hT hk_t
    refine yc_Vi (Al := [.int (sx_I σ t 31)]) (rest := [.ref t]) 236 rfl cw_X9_149 cx_10 dX9_comes_233 m4 hk_t rfl (by decide) rfl (Nat.le_of_ble_eq_true rfl) ?_
    replace h := bd_e h
    obtain ⟨r6, u7, h5, h⟩ := h
    have m8 := ct_X9_uses l (g := g) h5 hT hk_t
    refine yc_Vi (Al := [.int r3]) (rest := []) 239 rfl cw_X9_153 cx_10 dX9_comes_236 m8 hk_t rfl (by decide) rfl (Nat.le_of_ble_eq_true rfl) ?_
    have hk_t := k_G m8.1.1 (by decide) hk_t
    have hT := m8.1.1.2.2.2
    refine ym 241 (fun B k => z_istore (lv' := [(7, .int r6), (0, .ref t), (3, .long x3)]) B dX9_comes_239 (by decide) rfl k) ?_
    refine ym 242 (fun B k => z_aload_n B dX9_comes_241 rfl 1 rfl k) ?_
    refine ym 243 (fun B k => z_aload_n B dX9_comes_242 rfl 1 rfl k) ?_
    refine ym 246 (fun B k => gf_X9_116 (x := (sx_I u7 t 30)) B hk_t rfl dX9_comes_243 k) ?_
    refine ym 247 (fun B k => z_iconst (v := 4) B dX9_comes_246 (by decide) k) ?_
    by_cases c9 : (sx_I u7 t 30) = 4
    · replace h := ite_p c9 h
      refine ym 250 (fun B k => z_icmp_ne (tgt := 254) B dX9_comes_247 (by decide) (fun q => absurd c9 q) (fun _ => k)) ?_
      refine ym 251 (fun B k => z_iconst (v := 1) B dX9_comes_250 (by decide) k) ?_
      refine ym 256 (fun B k => z_goto (tgt := 256) B dX9_comes_251 (by decide) k) ?_
      refine y_sub [(0, .ref t)] [1] rfl ?_
      exact tb_X9_comes_256 h hT hk_t
    · replace h := ite_n c9 h
      refine ym 254 (fun B k => z_icmp_ne (tgt := 254) B dX9_comes_247 (by decide) (fun _ => k) (fun q => absurd q c9)) ?_
      refine ym 256 (fun B k => z_iload B dX9_comes_254 0 rfl k) ?_
      refine y_sub [(0, .ref t)] [1] rfl ?_
      exact tb_X9_comes_256 h hT hk_t
  · replace h := ite_n c1 h
    refine ym 523 (fun B k => z_if_ne (tgt := 523) B dX9_comes_224 (by decide) (fun _ => k) (fun q => absurd q c1)) ?_
    obtain rfl := Option.some.inj h
    exact yr_v hT trivial rfl dX9_comes_523
set_option maxRecDepth 100000 in
set_option maxHeartbeats 4000000 in
theorem tb_X9_comes_104 {l : Launch} {g : gx_T} {σ : sx_T} {u : sx_T} {As : Array Value} {n0 : Nat} {t : Nat} {x1 : Int32} {x2 : Int32} {x3 : Int64} (h : fb_X9_comes_104 n0 σ t x1 x2 x3 = some u) (hT : TS g σ) (hk_t : sx_K σ t = 11) : ZY l g cX9_comes RX9 "comes" none 9 1 23 0 0 false As (QM g As (Qxv g u)) (True) u σ 104 [(0, .ref t), (1, .int x1), (2, .int x2), (3, .long x3)] [] := by
  unfold fb_X9_comes_104 at h
  refine ym 105 (fun B k => z_iload_n B dX9_comes_104 rfl 2 rfl k) ?_
  refine ym 107 (fun B k => z_bipush (v := 8) B dX9_comes_105 (by decide) k) ?_
  by_cases c1 : x2 = 8
  · replace h := ite_p c1 h
    refine ym 110 (fun B k => z_icmp_ne (tgt := 122) B dX9_comes_107 (by decide) (fun q => absurd c1 q) (fun _ => k)) ?_
    refine ym 111 (fun B k => z_aload_n B dX9_comes_110 rfl 0 rfl k) ?_
    refine ym 114 (fun B k => gf_X9_116 (x := (sx_I σ t 30)) B hk_t rfl dX9_comes_111 k) ?_
    refine ym 115 (fun B k => z_iconst (v := 5) B dX9_comes_114 (by decide) k) ?_
    by_cases c2 : (sx_I σ t 30) = 5
    · replace h := ite_p c2 h
      refine ym 118 (fun B k => z_icmp_ne (tgt := 122) B dX9_comes_115 (by decide) (fun q => absurd c2 q) (fun _ => k)) ?_
      refine ym 119 (fun B k => z_iconst (v := 1) B dX9_comes_118 (by decide) k) ?_
      refine ym 123 (fun B k => z_goto (tgt := 123) B dX9_comes_119 (by decide) k) ?_
      refine ym 125 (fun B k => z_istore (lv' := [(6, .int 1), (0, .ref t), (1, .int x1), (2, .int x2), (3, .long x3)]) B dX9_comes_123 (by decide) rfl k) ?_
      refine ym 127 (fun B k => z_iload B dX9_comes_125 0 rfl k) ?_
      refine ym 136 (fun B k => z_if_ne (tgt := 136) B dX9_comes_127 (by decide) (fun _ => k) (fun q => absurd q (by decide))) ?_
      refine ym 137 (fun B k => z_aload_n B dX9_comes_136 rfl 1 rfl k) ?_
      refine ym 138 (fun B k => z_dup B dX9_comes_137 rfl k) ?_
      refine ym 141 (fun B k => gf_X9_107 (x := (sx_I σ t 27)) B hk_t rfl dX9_comes_138 k) ?_
      refine ym 142 (fun B k => z_iconst (v := 1) B dX9_comes_141 (by decide) k) ?_
      refine ym 143 (fun B k => z_iadd B dX9_comes_142 k) ?_
      refine ymw (σ' := (wx_I σ t 27 ((sx_I σ t 27) + 1))) 146 e_I (fun B hin k => pf_X9_107 (x := ((sx_I σ t 27) + 1)) B hk_t rfl dX9_comes_143 k) ?_
      have hT := TS_I (k := 27) (x := ((sx_I σ t 27) + 1)) hT hk_t (Or.inl rfl)
      have hk_t := kk_I (σ := σ) (a := t) (k := 27) (x := ((sx_I σ t 27) + 1)) hk_t
      refine ym 147 (fun B k => z_aload_n B dX9_comes_146 rfl 1 rfl k) ?_
      refine ym 148 (fun B k => z_iconst (v := 0) B dX9_comes_147 (by decide) k) ?_
      refine ymw (σ' := (wx_I (wx_I σ t 27 ((sx_I σ t 27) + 1)) t 38 0)) 151 e_I (fun B hin k => pf_X9_137 (x := 0) B hk_t rfl dX9_comes_148 k) ?_
      have hT := TS_I (k := 38) (x := 0) hT hk_t (Or.inl rfl)
      have hk_t := kk_I (σ := (wx_I σ t 27 ((sx_I σ t 27) + 1))) (a := t) (k := 38) (x := 0) hk_t
      refine ym 152 (fun B k => z_iload_n B dX9_comes_151 rfl 3 rfl k) ?_
      refine ym 154 (fun B k => z_bipush (v := 6) B dX9_comes_152 (by decide) k) ?_
      by_cases c3 : x2 = 6
      · replace h := ite_p c3 h
        refine ym 157 (fun B k => z_icmp_ne (tgt := 267) B dX9_comes_154 (by decide) (fun q => absurd c3 q) (fun _ => k)) ?_
        refine ym 158 (fun B k => z_aload_n B dX9_comes_157 rfl 1 rfl k) ?_
        replace h := qv_e h
        obtain ⟨w4, e_w4, h⟩ := h
        have hq_w4 : rk (wx_I (wx_I σ t 27 ((sx_I σ t 27) + 1)) t 38 0) w4 13 := rk_T hT hk_t rfl (by decide) ((rR_I (rR_I rfl)).trans e_w4)
        refine ym 161 (fun B k => gf_X9_75 (x := w4) B hk_t ((rR_I (rR_I rfl)).trans e_w4) dX9_comes_158 k) ?_
        refine ym 162 (fun B k => z_aload_n B dX9_comes_161 rfl 1 rfl k) ?_
        refine ym 165 (fun B k => gf_X9_140 (x := (sx_I σ t 39)) B hk_t (rI_n (by decide) (rI_n (by decide) rfl)) dX9_comes_162 k) ?_
        refine ym 166 (fun B k => z_lload_n B dX9_comes_165 rfl 4 rfl k) ?_
        refine ym 169 (fun B k => z_ldc2 (v := 100) B dX9_comes_166 wg_1234 k) ?_
        refine ym 170 (fun B k => z_ldiv B dX9_comes_169 (by decide) k) ?_
        refine ym 171 (fun B k => z_l2i (v := (x3 / 100).toInt32) B dX9_comes_170 rfl k) ?_
        replace h := bq_e h
        obtain ⟨a5, rfl, h⟩ := h
        have hk_a5 := hq_w4 a5 rfl
        replace h := ck_e h
        obtain ⟨hi_6, h⟩ := h
        refine ymw (σ' := (wx_I (wx_I (wx_I σ t 27 ((sx_I σ t 27) + 1)) t 38 0) a5 (ti (sx_I σ t 39)) ((x3 / 100).toInt32))) 172 e_I (fun B _ k => z_iast (j := (ti (sx_I σ t 39))) B hk_a5 rfl hi_6 rfl dX9_comes_171 k) ?_
        have hT := TS_I (k := (ti (sx_I σ t 39))) (x := ((x3 / 100).toInt32)) hT hk_a5 (Or.inl rfl)
        have hk_t := kk_I (σ := (wx_I (wx_I σ t 27 ((sx_I σ t 27) + 1)) t 38 0)) (a := a5) (k := (ti (sx_I σ t 39))) (x := ((x3 / 100).toInt32)) hk_t
        refine ym 173 (fun B k => z_aload_n B dX9_comes_172 rfl 1 rfl k) ?_
        replace h := qv_e h
        obtain ⟨w7, e_w7, h⟩ := h
        have hq_w7 : rk (wx_I (wx_I (wx_I σ t 27 ((sx_I σ t 27) + 1)) t 38 0) a5 (ti (sx_I σ t 39)) ((x3 / 100).toInt32)) w7 13 := rk_T hT hk_t rfl (by decide) ((rR_I (rR_I (rR_I rfl))).trans e_w7)
        refine ym 176 (fun B k => gf_X9_78 (x := w7) B hk_t ((rR_I (rR_I (rR_I rfl))).trans e_w7) dX9_comes_173 k) ?_
        refine ym 177 (fun B k => z_aload_n B dX9_comes_176 rfl 1 rfl k) ?_
        refine ym 180 (fun B k => gf_X9_140 (x := (sx_I σ t 39)) B hk_t (rI_k (by decide) hk_a5 hk_t (rI_n (by decide) (rI_n (by decide) rfl))) dX9_comes_177 k) ?_
        refine ym 181 (fun B k => z_lload_n B dX9_comes_180 rfl 4 rfl k) ?_
        refine ym 184 (fun B k => z_ldc2 (v := 100) B dX9_comes_181 wg_1234 k) ?_
        refine ym 185 (fun B k => z_lrem B dX9_comes_184 (by decide) k) ?_
        refine ym 186 (fun B k => z_l2i (v := (jreml x3 100).toInt32) B dX9_comes_185 rfl k) ?_
        replace h := bq_e h
        obtain ⟨a8, rfl, h⟩ := h
        have hk_a8 := hq_w7 a8 rfl
        replace h := ck_e h
        obtain ⟨hi_9, h⟩ := h
        refine ymw (σ' := (wx_I (wx_I (wx_I (wx_I σ t 27 ((sx_I σ t 27) + 1)) t 38 0) a5 (ti (sx_I σ t 39)) ((x3 / 100).toInt32)) a8 (ti (sx_I σ t 39)) ((jreml x3 100).toInt32))) 187 e_I (fun B _ k => z_iast (j := (ti (sx_I σ t 39))) B hk_a8 rfl hi_9 rfl dX9_comes_186 k) ?_
        have hT := TS_I (k := (ti (sx_I σ t 39))) (x := ((jreml x3 100).toInt32)) hT hk_a8 (Or.inl rfl)
        have hk_t := kk_I (σ := (wx_I (wx_I (wx_I σ t 27 ((sx_I σ t 27) + 1)) t 38 0) a5 (ti (sx_I σ t 39)) ((x3 / 100).toInt32))) (a := a8) (k := (ti (sx_I σ t 39))) (x := ((jreml x3 100).toInt32)) hk_t
        refine ym 188 (fun B k => z_aload_n B dX9_comes_187 rfl 1 rfl k) ?_
        refine ym 189 (fun B k => z_dup B dX9_comes_188 rfl k) ?_
        refine ym 192 (fun B k => gf_X9_140 (x := (sx_I σ t 39)) B hk_t (rI_k (by decide) hk_a8 hk_t (rI_k (by decide) hk_a5 hk_t (rI_n (by decide) (rI_n (by decide) rfl)))) dX9_comes_189 k) ?_
        refine ym 193 (fun B k => z_iconst (v := 1) B dX9_comes_192 (by decide) k) ?_
        refine ym 194 (fun B k => z_iadd B dX9_comes_193 k) ?_
        refine ymw (σ' := (wx_I (wx_I (wx_I (wx_I (wx_I σ t 27 ((sx_I σ t 27) + 1)) t 38 0) a5 (ti (sx_I σ t 39)) ((x3 / 100).toInt32)) a8 (ti (sx_I σ t 39)) ((jreml x3 100).toInt32)) t 39 ((sx_I σ t 39) + 1))) 197 e_I (fun B hin k => pf_X9_140 (x := ((sx_I σ t 39) + 1)) B hk_t rfl dX9_comes_194 k) ?_
        have hT := TS_I (k := 39) (x := ((sx_I σ t 39) + 1)) hT hk_t (Or.inl rfl)
        have hk_t := kk_I (σ := (wx_I (wx_I (wx_I (wx_I σ t 27 ((sx_I σ t 27) + 1)) t 38 0) a5 (ti (sx_I σ t 39)) ((x3 / 100).toInt32)) a8 (ti (sx_I σ t 39)) ((jreml x3 100).toInt32))) (a := t) (k := 39) (x := ((sx_I σ t 39) + 1)) hk_t
        refine ym 198 (fun B k => z_aload_n B dX9_comes_197 rfl 1 rfl k) ?_
        refine ym 201 (fun B k => gf_X9_116 (x := (sx_I σ t 30)) B hk_t (rI_n (by decide) (rI_k (by decide) hk_a8 hk_t (rI_k (by decide) hk_a5 hk_t (rI_n (by decide) (rI_n (by decide) rfl))))) dX9_comes_198 k) ?_
        refine ym 202 (fun B k => z_iconst (v := 3) B dX9_comes_201 (by decide) k) ?_
        by_cases c10 : (sx_I σ t 30) = 3
        · replace h := ite_p c10 h
          refine ym 213 (fun B k => z_icmp_eq (tgt := 213) B dX9_comes_202 (by decide) (fun _ => k) (fun q => absurd c10 q)) ?_
          refine y_sub [(0, .ref t), (3, .long x3)] [1, 4] rfl ?_
          exact tb_X9_comes_213 h hT hk_t
        · replace h := ite_n c10 h
          refine ym 205 (fun B k => z_icmp_eq (tgt := 213) B dX9_comes_202 (by decide) (fun q => absurd q c10) (fun _ => k)) ?_
          refine ym 206 (fun B k => z_aload_n B dX9_comes_205 rfl 1 rfl k) ?_
          refine ym 209 (fun B k => gf_X9_116 (x := (sx_I σ t 30)) B hk_t (rI_n (by decide) (rI_k (by decide) hk_a8 hk_t (rI_k (by decide) hk_a5 hk_t (rI_n (by decide) (rI_n (by decide) rfl))))) dX9_comes_206 k) ?_
          refine ym 210 (fun B k => z_iconst (v := 4) B dX9_comes_209 (by decide) k) ?_
          by_cases c11 : (sx_I σ t 30) = 4
          · replace h := ite_p c11 h
            refine ym 213 (fun B k => z_icmp_ne (tgt := 523) B dX9_comes_210 (by decide) (fun q => absurd c11 q) (fun _ => k)) ?_
            refine y_sub [(0, .ref t), (3, .long x3)] [1, 4] rfl ?_
            exact tb_X9_comes_213 h hT hk_t
          · replace h := ite_n c11 h
            refine ym 523 (fun B k => z_icmp_ne (tgt := 523) B dX9_comes_210 (by decide) (fun _ => k) (fun q => absurd q c11)) ?_
            obtain rfl := Option.some.inj h
            exact yr_v hT trivial rfl dX9_comes_523
      · replace h := ite_n c3 h
        refine ym 267 (fun B k => z_icmp_ne (tgt := 267) B dX9_comes_154 (by decide) (fun _ => k) (fun q => absurd q c3)) ?_
        refine ym 268 (fun B k => z_iload_n B dX9_comes_267 rfl 3 rfl k) ?_
        refine ym 270 (fun B k => z_bipush (v := 12) B dX9_comes_268 (by decide) k) ?_
        by_cases c12 : x2 = 12
        · replace h := ite_p c12 h
          refine ym 273 (fun B k => z_icmp_ne (tgt := 369) B dX9_comes_270 (by decide) (fun q => absurd c12 q) (fun _ => k)) ?_
          refine ym 274 (fun B k => z_aload_n B dX9_comes_273 rfl 1 rfl k) ?_
          refine ym 277 (fun B k => gf_X9_125 (x := (sx_I σ t 34)) B hk_t (rI_n (by decide) (rI_n (by decide) rfl)) dX9_comes_274 k) ?_
          by_cases c13 : (sx_I σ t 34) = 0
          · replace h := ite_p c13 h
            refine ym 288 (fun B k => z_if_eq (tgt := 288) B dX9_comes_277 (by decide) (fun _ => k) (fun q => absurd c13 q)) ?_
            refine ym 289 (fun B k => z_aload_n B dX9_comes_288 rfl 1 rfl k) ?_
            refine ym 292 (fun B k => gf_X9_131 (x := (sx_I σ t 36)) B hk_t (rI_n (by decide) (rI_n (by decide) rfl)) dX9_comes_289 k) ?_
            by_cases c14 : (sx_I σ t 36) = 0
            · replace h := ite_p c14 h
              refine ym 295 (fun B k => z_if_ne (tgt := 523) B dX9_comes_292 (by decide) (fun q => absurd c14 q) (fun _ => k)) ?_
              refine ym 296 (fun B k => z_aload_n B dX9_comes_295 rfl 1 rfl k) ?_
              refine ym 299 (fun B k => gf_X9_116 (x := (sx_I σ t 30)) B hk_t (rI_n (by decide) (rI_n (by decide) rfl)) dX9_comes_296 k) ?_
              refine ym 300 (fun B k => z_iconst (v := 5) B dX9_comes_299 (by decide) k) ?_
              by_cases c15 : (sx_I σ t 30) = 5
              · replace h := ite_p c15 h
                refine ym 303 (fun B k => z_icmp_ne (tgt := 356) B dX9_comes_300 (by decide) (fun q => absurd c15 q) (fun _ => k)) ?_
                refine ym 304 (fun B k => z_aload_n B dX9_comes_303 rfl 1 rfl k) ?_
                refine ym 307 (fun B k => gf_X9_156 (x := (sx_I σ t 47)) B hk_t (rI_n (by decide) (rI_n (by decide) rfl)) dX9_comes_304 k) ?_
                by_cases c16 : (sx_I σ t 47) = 0
                · replace h := ite_p c16 h
                  refine ym 356 (fun B k => z_if_eq (tgt := 356) B dX9_comes_307 (by decide) (fun _ => k) (fun q => absurd c16 q)) ?_
                  refine y_sub [(0, .ref t)] [1] rfl ?_
                  exact tb_X9_comes_356 h hT hk_t
                · replace h := ite_n c16 h
                  refine ym 310 (fun B k => z_if_eq (tgt := 356) B dX9_comes_307 (by decide) (fun q => absurd q c16) (fun _ => k)) ?_
                  refine ym 311 (fun B k => z_aload_n B dX9_comes_310 rfl 1 rfl k) ?_
                  refine ym 314 (fun B k => gf_X9_107 (x := ((sx_I σ t 27) + 1)) B hk_t (rI_n (by decide) rI_s) dX9_comes_311 k) ?_
                  refine ym 315 (fun B k => z_aload_n B dX9_comes_314 rfl 1 rfl k) ?_
                  replace h := qv_e h
                  obtain ⟨w17, e_w17, h⟩ := h
                  have hq_w17 : rk (wx_I (wx_I σ t 27 ((sx_I σ t 27) + 1)) t 38 0) w17 13 := rk_T hT hk_t rfl (by decide) ((rR_I (rR_I rfl)).trans e_w17)
                  refine ym 318 (fun B k => gf_X9_38 (x := w17) B hk_t ((rR_I (rR_I rfl)).trans e_w17) dX9_comes_315 k) ?_
                  refine ym 319 (fun B k => z_iload_n B dX9_comes_318 rfl 2 rfl k) ?_
                  replace h := bq_e h
                  obtain ⟨a18, rfl, h⟩ := h
                  have hk_a18 := hq_w17 a18 rfl
                  replace h := ck_e h
                  obtain ⟨hi_19, h⟩ := h
                  refine ym 320 (fun B k => z_iald (j := (ti x1)) (x := (sx_I σ a18 (ti x1))) B hk_a18 rfl hi_19 (rI_k (by decide) hk_t hk_a18 (rI_k (by decide) hk_t hk_a18 rfl)) dX9_comes_319 k) ?_
                  by_cases c20 : ((sx_I σ t 27) + 1) ≤ (sx_I σ a18 (ti x1))
                  · replace h := ite_p c20 h
                    refine ym 356 (fun B k => z_icmp_le (tgt := 356) B dX9_comes_320 (by decide) (fun _ => k) (fun q => absurd c20 q)) ?_
                    refine y_sub [(0, .ref t)] [1] rfl ?_
                    exact tb_X9_comes_356 h hT hk_t
                  · replace h := ite_n c20 h
                    refine ym 323 (fun B k => z_icmp_le (tgt := 356) B dX9_comes_320 (by decide) (fun q => absurd q c20) (fun _ => k)) ?_
                    refine ym 324 (fun B k => z_aload_n B dX9_comes_323 rfl 1 rfl k) ?_
                    replace h := qv_e h
                    obtain ⟨w21, e_w21, h⟩ := h
                    have hq_w21 : rk (wx_I (wx_I σ t 27 ((sx_I σ t 27) + 1)) t 38 0) w21 13 := rk_T hT hk_t rfl (by decide) ((rR_I (rR_I rfl)).trans e_w21)
                    refine ym 327 (fun B k => gf_X9_38 (x := w21) B hk_t ((rR_I (rR_I rfl)).trans e_w21) dX9_comes_324 k) ?_
                    refine ym 328 (fun B k => z_iload_n B dX9_comes_327 rfl 2 rfl k) ?_
                    refine ym 329 (fun B k => z_aload_n B dX9_comes_328 rfl 1 rfl k) ?_
                    refine ym 332 (fun B k => gf_X9_107 (x := ((sx_I σ t 27) + 1)) B hk_t (rI_n (by decide) rI_s) dX9_comes_329 k) ?_
                    replace h := bq_e h
                    obtain ⟨a22, rfl, h⟩ := h
                    have hk_a22 := hq_w21 a22 rfl
                    replace h := ck_e h
                    obtain ⟨hi_23, h⟩ := h
                    refine ymw (σ' := (wx_I (wx_I (wx_I σ t 27 ((sx_I σ t 27) + 1)) t 38 0) a22 (ti x1) ((sx_I σ t 27) + 1))) 333 e_I (fun B _ k => z_iast (j := (ti x1)) B hk_a22 rfl hi_23 rfl dX9_comes_332 k) ?_
                    have hT := TS_I (k := (ti x1)) (x := ((sx_I σ t 27) + 1)) hT hk_a22 (Or.inl rfl)
                    have hk_t := kk_I (σ := (wx_I (wx_I σ t 27 ((sx_I σ t 27) + 1)) t 38 0)) (a := a22) (k := (ti x1)) (x := ((sx_I σ t 27) + 1)) hk_t
                    refine ym 334 (fun B k => z_aload_n B dX9_comes_333 rfl 1 rfl k) ?_
                    replace h := qv_e h
                    obtain ⟨w24, e_w24, h⟩ := h
                    have hq_w24 : rk (wx_I (wx_I (wx_I σ t 27 ((sx_I σ t 27) + 1)) t 38 0) a22 (ti x1) ((sx_I σ t 27) + 1)) w24 13 := rk_T hT hk_t rfl (by decide) ((rR_I (rR_I (rR_I rfl))).trans e_w24)
                    refine ym 337 (fun B k => gf_X9_87 (x := w24) B hk_t ((rR_I (rR_I (rR_I rfl))).trans e_w24) dX9_comes_334 k) ?_
                    refine ym 338 (fun B k => z_aload_n B dX9_comes_337 rfl 1 rfl k) ?_
                    refine ym 341 (fun B k => gf_X9_159 (x := (sx_I σ t 45)) B hk_t (rI_k (by decide) hk_a22 hk_t (rI_n (by decide) (rI_n (by decide) rfl))) dX9_comes_338 k) ?_
                    refine ym 342 (fun B k => z_aload_n B dX9_comes_341 rfl 1 rfl k) ?_
                    refine ym 345 (fun B k => gf_X9_119 (x := (sx_I σ t 31)) B hk_t (rI_k (by decide) hk_a22 hk_t (rI_n (by decide) (rI_n (by decide) rfl))) dX9_comes_342 k) ?_
                    replace h := bq_e h
                    obtain ⟨a25, rfl, h⟩ := h
                    have hk_a25 := hq_w24 a25 rfl
                    replace h := ck_e h
                    obtain ⟨hi_26, h⟩ := h
                    refine ymw (σ' := (wx_I (wx_I (wx_I (wx_I σ t 27 ((sx_I σ t 27) + 1)) t 38 0) a22 (ti x1) ((sx_I σ t 27) + 1)) a25 (ti (sx_I σ t 45)) (sx_I σ t 31))) 346 e_I (fun B _ k => z_iast (j := (ti (sx_I σ t 45))) B hk_a25 rfl hi_26 rfl dX9_comes_345 k) ?_
                    have hT := TS_I (k := (ti (sx_I σ t 45))) (x := (sx_I σ t 31)) hT hk_a25 (Or.inl rfl)
                    have hk_t := kk_I (σ := (wx_I (wx_I (wx_I σ t 27 ((sx_I σ t 27) + 1)) t 38 0) a22 (ti x1) ((sx_I σ t 27) + 1))) (a := a25) (k := (ti (sx_I σ t 45))) (x := (sx_I σ t 31)) hk_t
                    refine ym 347 (fun B k => z_aload_n B dX9_comes_346 rfl 1 rfl k) ?_
                    refine ym 348 (fun B k => z_dup B dX9_comes_347 rfl k) ?_
                    refine ym 351 (fun B k => gf_X9_159 (x := (sx_I σ t 45)) B hk_t (rI_k (by decide) hk_a25 hk_t (rI_k (by decide) hk_a22 hk_t (rI_n (by decide) (rI_n (by decide) rfl)))) dX9_comes_348 k) ?_
                    refine ym 352 (fun B k => z_iconst (v := 1) B dX9_comes_351 (by decide) k) ?_
                    refine ym 353 (fun B k => z_iadd B dX9_comes_352 k) ?_
                    refine ymw (σ' := (wx_I (wx_I (wx_I (wx_I (wx_I σ t 27 ((sx_I σ t 27) + 1)) t 38 0) a22 (ti x1) ((sx_I σ t 27) + 1)) a25 (ti (sx_I σ t 45)) (sx_I σ t 31)) t 45 ((sx_I σ t 45) + 1))) 356 e_I (fun B hin k => pf_X9_159 (x := ((sx_I σ t 45) + 1)) B hk_t rfl dX9_comes_353 k) ?_
                    have hT := TS_I (k := 45) (x := ((sx_I σ t 45) + 1)) hT hk_t (Or.inl rfl)
                    have hk_t := kk_I (σ := (wx_I (wx_I (wx_I (wx_I σ t 27 ((sx_I σ t 27) + 1)) t 38 0) a22 (ti x1) ((sx_I σ t 27) + 1)) a25 (ti (sx_I σ t 45)) (sx_I σ t 31))) (a := t) (k := 45) (x := ((sx_I σ t 45) + 1)) hk_t
                    refine y_sub [(0, .ref t)] [1] rfl ?_
                    exact tb_X9_comes_356 h hT hk_t
              · replace h := ite_n c15 h
                refine ym 356 (fun B k => z_icmp_ne (tgt := 356) B dX9_comes_300 (by decide) (fun _ => k) (fun q => absurd q c15)) ?_
                refine y_sub [(0, .ref t)] [1] rfl ?_
                exact tb_X9_comes_356 h hT hk_t
            · replace h := ite_n c14 h
              refine ym 523 (fun B k => z_if_ne (tgt := 523) B dX9_comes_292 (by decide) (fun _ => k) (fun q => absurd q c14)) ?_
              obtain rfl := Option.some.inj h
              exact yr_v hT trivial rfl dX9_comes_523
          · replace h := ite_n c13 h
            refine ym 280 (fun B k => z_if_eq (tgt := 288) B dX9_comes_277 (by decide) (fun q => absurd q c13) (fun _ => k)) ?_
            refine ym 281 (fun B k => z_aload_n B dX9_comes_280 rfl 1 rfl k) ?_
            refine ym 282 (fun B k => z_iconst (v := 1) B dX9_comes_281 (by decide) k) ?_
            refine ymw (σ' := (wx_I (wx_I (wx_I σ t 27 ((sx_I σ t 27) + 1)) t 38 0) t 35 1)) 285 e_I (fun B hin k => pf_X9_128 (x := 1) B (Or.inr rfl) hk_t rfl dX9_comes_282 k) ?_
            have hT := TS_I (k := 35) (x := 1) hT hk_t (Or.inr (Or.inr rfl))
            have hk_t := kk_I (σ := (wx_I (wx_I σ t 27 ((sx_I σ t 27) + 1)) t 38 0)) (a := t) (k := 35) (x := 1) hk_t
            refine ym 523 (fun B k => z_goto (tgt := 523) B dX9_comes_285 (by decide) k) ?_
            obtain rfl := Option.some.inj h
            exact yr_v hT trivial rfl dX9_comes_523
        · replace h := ite_n c12 h
          refine ym 369 (fun B k => z_icmp_ne (tgt := 369) B dX9_comes_270 (by decide) (fun _ => k) (fun q => absurd q c12)) ?_
          refine ym 370 (fun B k => z_aload_n B dX9_comes_369 rfl 1 rfl k) ?_
          refine ym 371 (fun B k => z_iload_n B dX9_comes_370 rfl 3 rfl k) ?_
          refine ym 372 (fun B k => z_iconst (v := 2) B dX9_comes_371 (by decide) k) ?_
          by_cases c27 : x2 = 2
          · replace h := ite_p c27 h
            refine ym 375 (fun B k => z_icmp_ne (tgt := 388) B dX9_comes_372 (by decide) (fun q => absurd c27 q) (fun _ => k)) ?_
            refine ym 376 (fun B k => z_aload_n B dX9_comes_375 rfl 1 rfl k) ?_
            refine ym 379 (fun B k => gf_X9_116 (x := (sx_I σ t 30)) B hk_t (rI_n (by decide) (rI_n (by decide) rfl)) dX9_comes_376 k) ?_
            refine ym 380 (fun B k => z_iconst (v := 1) B dX9_comes_379 (by decide) k) ?_
            by_cases c28 : (sx_I σ t 30) = 1
            · replace h := ite_p c28 h
              refine ym 383 (fun B k => z_icmp_ne (tgt := 388) B dX9_comes_380 (by decide) (fun q => absurd c28 q) (fun _ => k)) ?_
              refine ym 384 (fun B k => z_lload_n B dX9_comes_383 rfl 4 rfl k) ?_
              refine ym 385 (fun B k => z_l2i (v := x3.toInt32) B dX9_comes_384 rfl k) ?_
              refine ym 409 (fun B k => z_goto (tgt := 409) B dX9_comes_385 (by decide) k) ?_
              refine y_sub [(0, .ref t), (2, .int x2), (3, .long x3)] [1, 3, 4] rfl ?_
              exact tb_X9_comes_409 h hT hk_t
            · replace h := ite_n c28 h
              refine ym 388 (fun B k => z_icmp_ne (tgt := 388) B dX9_comes_380 (by decide) (fun _ => k) (fun q => absurd q c28)) ?_
              refine y_sub [(0, .ref t), (2, .int x2), (3, .long x3)] [1, 3, 4] rfl ?_
              exact tb_X9_comes_388 h hT hk_t
          · replace h := ite_n c27 h
            refine ym 388 (fun B k => z_icmp_ne (tgt := 388) B dX9_comes_372 (by decide) (fun _ => k) (fun q => absurd q c27)) ?_
            refine y_sub [(0, .ref t), (2, .int x2), (3, .long x3)] [1, 3, 4] rfl ?_
            exact tb_X9_comes_388 h hT hk_t
    · replace h := ite_n c2 h
      refine ym 122 (fun B k => z_icmp_ne (tgt := 122) B dX9_comes_115 (by decide) (fun _ => k) (fun q => absurd q c2)) ?_
      refine ym 123 (fun B k => z_iconst (v := 0) B dX9_comes_122 (by decide) k) ?_
      refine ym 125 (fun B k => z_istore (lv' := [(6, .int 0), (0, .ref t), (1, .int x1), (2, .int x2), (3, .long x3)]) B dX9_comes_123 (by decide) rfl k) ?_
      refine ym 127 (fun B k => z_iload B dX9_comes_125 0 rfl k) ?_
      refine ym 130 (fun B k => z_if_ne (tgt := 136) B dX9_comes_127 (by decide) (fun q => absurd (by decide) q) (fun _ => k)) ?_
      refine ym 131 (fun B k => z_aload_n B dX9_comes_130 rfl 1 rfl k) ?_
      refine ym 132 (fun B k => z_iconst (v := 0) B dX9_comes_131 (by decide) k) ?_
      refine ymw (σ' := (wx_I σ t 26 0)) 135 e_I (fun B hin k => pf_X9_103 (x := 0) B (Or.inl rfl) hk_t rfl dX9_comes_132 k) ?_
      have hT := TS_I (k := 26) (x := 0) hT hk_t (Or.inr (Or.inl rfl))
      have hk_t := kk_I (σ := σ) (a := t) (k := 26) (x := 0) hk_t
      obtain rfl := Option.some.inj h
      exact yr_v hT trivial rfl dX9_comes_135
  · replace h := ite_n c1 h
    refine ym 122 (fun B k => z_icmp_ne (tgt := 122) B dX9_comes_107 (by decide) (fun _ => k) (fun q => absurd q c1)) ?_
    refine ym 123 (fun B k => z_iconst (v := 0) B dX9_comes_122 (by decide) k) ?_
    refine ym 125 (fun B k => z_istore (lv' := [(6, .int 0), (0, .ref t), (1, .int x1), (2, .int x2), (3, .long x3)]) B dX9_comes_123 (by decide) rfl k) ?_
    refine ym 127 (fun B k => z_iload B dX9_comes_125 0 rfl k) ?_
    refine ym 130 (fun B k => z_if_ne (tgt := 136) B dX9_comes_127 (by decide) (fun q => absurd (by decide) q) (fun _ => k)) ?_
    refine ym 131 (fun B k => z_aload_n B dX9_comes_130 rfl 1 rfl k) ?_
    refine ym 132 (fun B k => z_iconst (v := 0) B dX9_comes_131 (by decide) k) ?_
    refine ymw (σ' := (wx_I σ t 26 0)) 135 e_I (fun B hin k => pf_X9_103 (x := 0) B (Or.inl rfl) hk_t rfl dX9_comes_132 k) ?_
    have hT := TS_I (k := 26) (x := 0) hT hk_t (Or.inr (Or.inl rfl))
    have hk_t := kk_I (σ := σ) (a := t) (k := 26) (x := 0) hk_t
    obtain rfl := Option.some.inj h
    exact yr_v hT trivial rfl dX9_comes_135
set_option maxRecDepth 100000 in
set_option maxHeartbeats 4000000 in
theorem tb_X9_comes_83 {l : Launch} {g : gx_T} {σ : sx_T} {u : sx_T} {As : Array Value} {n0 : Nat} {t : Nat} {x1 : Int32} {x2 : Int32} {x3 : Int64} (h : fb_X9_comes_83 n0 σ t x1 x2 x3 = some u) (hT : TS g σ) (hk_t : sx_K σ t = 11) : ZY l g cX9_comes RX9 "comes" none 9 1 23 0 0 false As (QM g As (Qxv g u)) (True) u σ 83 [(0, .ref t), (1, .int x1), (2, .int x2), (3, .long x3)] [] := by
  unfold fb_X9_comes_83 at h
  refine ym 84 (fun B k => z_iload_n B dX9_comes_83 rfl 2 rfl k) ?_
  refine ym 85 (fun B k => z_iconst (v := 5) B dX9_comes_84 (by decide) k) ?_
  by_cases c1 : x2 = 5
  · replace h := ite_p c1 h
    refine ym 88 (fun B k => z_icmp_ne (tgt := 104) B dX9_comes_85 (by decide) (fun q => absurd c1 q) (fun _ => k)) ?_
    refine ym 89 (fun B k => z_aload_n B dX9_comes_88 rfl 0 rfl k) ?_
    refine ym 92 (fun B k => gf_X9_116 (x := (sx_I σ t 30)) B hk_t rfl dX9_comes_89 k) ?_
    refine ym 93 (fun B k => z_iconst (v := 2) B dX9_comes_92 (by decide) k) ?_
    by_cases c2 : (sx_I σ t 30) = 2
    · replace h := ite_p c2 h
      refine ym 118 (fun B k => z_icmp_eq (tgt := 118) B dX9_comes_93 (by decide) (fun _ => k) (fun q => absurd c2 q)) ?_
      refine ym 119 (fun B k => z_iconst (v := 1) B dX9_comes_118 (by decide) k) ?_
      refine ym 123 (fun B k => z_goto (tgt := 123) B dX9_comes_119 (by decide) k) ?_
      refine ym 125 (fun B k => z_istore (lv' := [(6, .int 1), (0, .ref t), (1, .int x1), (2, .int x2), (3, .long x3)]) B dX9_comes_123 (by decide) rfl k) ?_
      refine ym 127 (fun B k => z_iload B dX9_comes_125 0 rfl k) ?_
      refine ym 136 (fun B k => z_if_ne (tgt := 136) B dX9_comes_127 (by decide) (fun _ => k) (fun q => absurd q (by decide))) ?_
      refine ym 137 (fun B k => z_aload_n B dX9_comes_136 rfl 1 rfl k) ?_
      refine ym 138 (fun B k => z_dup B dX9_comes_137 rfl k) ?_
      refine ym 141 (fun B k => gf_X9_107 (x := (sx_I σ t 27)) B hk_t rfl dX9_comes_138 k) ?_
      refine ym 142 (fun B k => z_iconst (v := 1) B dX9_comes_141 (by decide) k) ?_
      refine ym 143 (fun B k => z_iadd B dX9_comes_142 k) ?_
      refine ymw (σ' := (wx_I σ t 27 ((sx_I σ t 27) + 1))) 146 e_I (fun B hin k => pf_X9_107 (x := ((sx_I σ t 27) + 1)) B hk_t rfl dX9_comes_143 k) ?_
      have hT := TS_I (k := 27) (x := ((sx_I σ t 27) + 1)) hT hk_t (Or.inl rfl)
      have hk_t := kk_I (σ := σ) (a := t) (k := 27) (x := ((sx_I σ t 27) + 1)) hk_t
      refine ym 147 (fun B k => z_aload_n B dX9_comes_146 rfl 1 rfl k) ?_
      refine ym 148 (fun B k => z_iconst (v := 0) B dX9_comes_147 (by decide) k) ?_
      refine ymw (σ' := (wx_I (wx_I σ t 27 ((sx_I σ t 27) + 1)) t 38 0)) 151 e_I (fun B hin k => pf_X9_137 (x := 0) B hk_t rfl dX9_comes_148 k) ?_
      have hT := TS_I (k := 38) (x := 0) hT hk_t (Or.inl rfl)
      have hk_t := kk_I (σ := (wx_I σ t 27 ((sx_I σ t 27) + 1))) (a := t) (k := 38) (x := 0) hk_t
      refine ym 152 (fun B k => z_iload_n B dX9_comes_151 rfl 3 rfl k) ?_
      refine ym 154 (fun B k => z_bipush (v := 6) B dX9_comes_152 (by decide) k) ?_
      by_cases c3 : x2 = 6
      · replace h := ite_p c3 h
        refine ym 157 (fun B k => z_icmp_ne (tgt := 267) B dX9_comes_154 (by decide) (fun q => absurd c3 q) (fun _ => k)) ?_
        refine ym 158 (fun B k => z_aload_n B dX9_comes_157 rfl 1 rfl k) ?_
        replace h := qv_e h
        obtain ⟨w4, e_w4, h⟩ := h
        have hq_w4 : rk (wx_I (wx_I σ t 27 ((sx_I σ t 27) + 1)) t 38 0) w4 13 := rk_T hT hk_t rfl (by decide) ((rR_I (rR_I rfl)).trans e_w4)
        refine ym 161 (fun B k => gf_X9_75 (x := w4) B hk_t ((rR_I (rR_I rfl)).trans e_w4) dX9_comes_158 k) ?_
        refine ym 162 (fun B k => z_aload_n B dX9_comes_161 rfl 1 rfl k) ?_
        refine ym 165 (fun B k => gf_X9_140 (x := (sx_I σ t 39)) B hk_t (rI_n (by decide) (rI_n (by decide) rfl)) dX9_comes_162 k) ?_
        refine ym 166 (fun B k => z_lload_n B dX9_comes_165 rfl 4 rfl k) ?_
        refine ym 169 (fun B k => z_ldc2 (v := 100) B dX9_comes_166 wg_1234 k) ?_
        refine ym 170 (fun B k => z_ldiv B dX9_comes_169 (by decide) k) ?_
        refine ym 171 (fun B k => z_l2i (v := (x3 / 100).toInt32) B dX9_comes_170 rfl k) ?_
        replace h := bq_e h
        obtain ⟨a5, rfl, h⟩ := h
        have hk_a5 := hq_w4 a5 rfl
        replace h := ck_e h
        obtain ⟨hi_6, h⟩ := h
        refine ymw (σ' := (wx_I (wx_I (wx_I σ t 27 ((sx_I σ t 27) + 1)) t 38 0) a5 (ti (sx_I σ t 39)) ((x3 / 100).toInt32))) 172 e_I (fun B _ k => z_iast (j := (ti (sx_I σ t 39))) B hk_a5 rfl hi_6 rfl dX9_comes_171 k) ?_
        have hT := TS_I (k := (ti (sx_I σ t 39))) (x := ((x3 / 100).toInt32)) hT hk_a5 (Or.inl rfl)
        have hk_t := kk_I (σ := (wx_I (wx_I σ t 27 ((sx_I σ t 27) + 1)) t 38 0)) (a := a5) (k := (ti (sx_I σ t 39))) (x := ((x3 / 100).toInt32)) hk_t
        refine ym 173 (fun B k => z_aload_n B dX9_comes_172 rfl 1 rfl k) ?_
        replace h := qv_e h
        obtain ⟨w7, e_w7, h⟩ := h
        have hq_w7 : rk (wx_I (wx_I (wx_I σ t 27 ((sx_I σ t 27) + 1)) t 38 0) a5 (ti (sx_I σ t 39)) ((x3 / 100).toInt32)) w7 13 := rk_T hT hk_t rfl (by decide) ((rR_I (rR_I (rR_I rfl))).trans e_w7)
        refine ym 176 (fun B k => gf_X9_78 (x := w7) B hk_t ((rR_I (rR_I (rR_I rfl))).trans e_w7) dX9_comes_173 k) ?_
        refine ym 177 (fun B k => z_aload_n B dX9_comes_176 rfl 1 rfl k) ?_
        refine ym 180 (fun B k => gf_X9_140 (x := (sx_I σ t 39)) B hk_t (rI_k (by decide) hk_a5 hk_t (rI_n (by decide) (rI_n (by decide) rfl))) dX9_comes_177 k) ?_
        refine ym 181 (fun B k => z_lload_n B dX9_comes_180 rfl 4 rfl k) ?_
        refine ym 184 (fun B k => z_ldc2 (v := 100) B dX9_comes_181 wg_1234 k) ?_
        refine ym 185 (fun B k => z_lrem B dX9_comes_184 (by decide) k) ?_
        refine ym 186 (fun B k => z_l2i (v := (jreml x3 100).toInt32) B dX9_comes_185 rfl k) ?_
        replace h := bq_e h
        obtain ⟨a8, rfl, h⟩ := h
        have hk_a8 := hq_w7 a8 rfl
        replace h := ck_e h
        obtain ⟨hi_9, h⟩ := h
        refine ymw (σ' := (wx_I (wx_I (wx_I (wx_I σ t 27 ((sx_I σ t 27) + 1)) t 38 0) a5 (ti (sx_I σ t 39)) ((x3 / 100).toInt32)) a8 (ti (sx_I σ t 39)) ((jreml x3 100).toInt32))) 187 e_I (fun B _ k => z_iast (j := (ti (sx_I σ t 39))) B hk_a8 rfl hi_9 rfl dX9_comes_186 k) ?_
        have hT := TS_I (k := (ti (sx_I σ t 39))) (x := ((jreml x3 100).toInt32)) hT hk_a8 (Or.inl rfl)
        have hk_t := kk_I (σ := (wx_I (wx_I (wx_I σ t 27 ((sx_I σ t 27) + 1)) t 38 0) a5 (ti (sx_I σ t 39)) ((x3 / 100).toInt32))) (a := a8) (k := (ti (sx_I σ t 39))) (x := ((jreml x3 100).toInt32)) hk_t
        refine ym 188 (fun B k => z_aload_n B dX9_comes_187 rfl 1 rfl k) ?_
        refine ym 189 (fun B k => z_dup B dX9_comes_188 rfl k) ?_
        refine ym 192 (fun B k => gf_X9_140 (x := (sx_I σ t 39)) B hk_t (rI_k (by decide) hk_a8 hk_t (rI_k (by decide) hk_a5 hk_t (rI_n (by decide) (rI_n (by decide) rfl)))) dX9_comes_189 k) ?_
        refine ym 193 (fun B k => z_iconst (v := 1) B dX9_comes_192 (by decide) k) ?_
        refine ym 194 (fun B k => z_iadd B dX9_comes_193 k) ?_
        refine ymw (σ' := (wx_I (wx_I (wx_I (wx_I (wx_I σ t 27 ((sx_I σ t 27) + 1)) t 38 0) a5 (ti (sx_I σ t 39)) ((x3 / 100).toInt32)) a8 (ti (sx_I σ t 39)) ((jreml x3 100).toInt32)) t 39 ((sx_I σ t 39) + 1))) 197 e_I (fun B hin k => pf_X9_140 (x := ((sx_I σ t 39) + 1)) B hk_t rfl dX9_comes_194 k) ?_
        have hT := TS_I (k := 39) (x := ((sx_I σ t 39) + 1)) hT hk_t (Or.inl rfl)
        have hk_t := kk_I (σ := (wx_I (wx_I (wx_I (wx_I σ t 27 ((sx_I σ t 27) + 1)) t 38 0) a5 (ti (sx_I σ t 39)) ((x3 / 100).toInt32)) a8 (ti (sx_I σ t 39)) ((jreml x3 100).toInt32))) (a := t) (k := 39) (x := ((sx_I σ t 39) + 1)) hk_t
        refine ym 198 (fun B k => z_aload_n B dX9_comes_197 rfl 1 rfl k) ?_
        refine ym 201 (fun B k => gf_X9_116 (x := (sx_I σ t 30)) B hk_t (rI_n (by decide) (rI_k (by decide) hk_a8 hk_t (rI_k (by decide) hk_a5 hk_t (rI_n (by decide) (rI_n (by decide) rfl))))) dX9_comes_198 k) ?_
        refine ym 202 (fun B k => z_iconst (v := 3) B dX9_comes_201 (by decide) k) ?_
        by_cases c10 : (sx_I σ t 30) = 3
        · replace h := ite_p c10 h
          refine ym 213 (fun B k => z_icmp_eq (tgt := 213) B dX9_comes_202 (by decide) (fun _ => k) (fun q => absurd c10 q)) ?_
          refine y_sub [(0, .ref t), (3, .long x3)] [1, 4] rfl ?_
          exact tb_X9_comes_213 h hT hk_t
        · replace h := ite_n c10 h
          refine ym 205 (fun B k => z_icmp_eq (tgt := 213) B dX9_comes_202 (by decide) (fun q => absurd q c10) (fun _ => k)) ?_
          refine ym 206 (fun B k => z_aload_n B dX9_comes_205 rfl 1 rfl k) ?_
          refine ym 209 (fun B k => gf_X9_116 (x := (sx_I σ t 30)) B hk_t (rI_n (by decide) (rI_k (by decide) hk_a8 hk_t (rI_k (by decide) hk_a5 hk_t (rI_n (by decide) (rI_n (by decide) rfl))))) dX9_comes_206 k) ?_
          refine ym 210 (fun B k => z_iconst (v := 4) B dX9_comes_209 (by decide) k) ?_
          by_cases c11 : (sx_I σ t 30) = 4
          · replace h := ite_p c11 h
            refine ym 213 (fun B k => z_icmp_ne (tgt := 523) B dX9_comes_210 (by decide) (fun q => absurd c11 q) (fun _ => k)) ?_
            refine y_sub [(0, .ref t), (3, .long x3)] [1, 4] rfl ?_
            exact tb_X9_comes_213 h hT hk_t
          · replace h := ite_n c11 h
            refine ym 523 (fun B k => z_icmp_ne (tgt := 523) B dX9_comes_210 (by decide) (fun _ => k) (fun q => absurd q c11)) ?_
            obtain rfl := Option.some.inj h
            exact yr_v hT trivial rfl dX9_comes_523
      · replace h := ite_n c3 h
        refine ym 267 (fun B k => z_icmp_ne (tgt := 267) B dX9_comes_154 (by decide) (fun _ => k) (fun q => absurd q c3)) ?_
        refine ym 268 (fun B k => z_iload_n B dX9_comes_267 rfl 3 rfl k) ?_
        refine ym 270 (fun B k => z_bipush (v := 12) B dX9_comes_268 (by decide) k) ?_
        by_cases c12 : x2 = 12
        · replace h := ite_p c12 h
          refine ym 273 (fun B k => z_icmp_ne (tgt := 369) B dX9_comes_270 (by decide) (fun q => absurd c12 q) (fun _ => k)) ?_
          refine ym 274 (fun B k => z_aload_n B dX9_comes_273 rfl 1 rfl k) ?_
          refine ym 277 (fun B k => gf_X9_125 (x := (sx_I σ t 34)) B hk_t (rI_n (by decide) (rI_n (by decide) rfl)) dX9_comes_274 k) ?_
          by_cases c13 : (sx_I σ t 34) = 0
          · replace h := ite_p c13 h
            refine ym 288 (fun B k => z_if_eq (tgt := 288) B dX9_comes_277 (by decide) (fun _ => k) (fun q => absurd c13 q)) ?_
            refine ym 289 (fun B k => z_aload_n B dX9_comes_288 rfl 1 rfl k) ?_
            refine ym 292 (fun B k => gf_X9_131 (x := (sx_I σ t 36)) B hk_t (rI_n (by decide) (rI_n (by decide) rfl)) dX9_comes_289 k) ?_
            by_cases c14 : (sx_I σ t 36) = 0
            · replace h := ite_p c14 h
              refine ym 295 (fun B k => z_if_ne (tgt := 523) B dX9_comes_292 (by decide) (fun q => absurd c14 q) (fun _ => k)) ?_
              refine ym 296 (fun B k => z_aload_n B dX9_comes_295 rfl 1 rfl k) ?_
              refine ym 299 (fun B k => gf_X9_116 (x := (sx_I σ t 30)) B hk_t (rI_n (by decide) (rI_n (by decide) rfl)) dX9_comes_296 k) ?_
              refine ym 300 (fun B k => z_iconst (v := 5) B dX9_comes_299 (by decide) k) ?_
              by_cases c15 : (sx_I σ t 30) = 5
              · replace h := ite_p c15 h
                refine ym 303 (fun B k => z_icmp_ne (tgt := 356) B dX9_comes_300 (by decide) (fun q => absurd c15 q) (fun _ => k)) ?_
                refine ym 304 (fun B k => z_aload_n B dX9_comes_303 rfl 1 rfl k) ?_
                refine ym 307 (fun B k => gf_X9_156 (x := (sx_I σ t 47)) B hk_t (rI_n (by decide) (rI_n (by decide) rfl)) dX9_comes_304 k) ?_
                by_cases c16 : (sx_I σ t 47) = 0
                · replace h := ite_p c16 h
                  refine ym 356 (fun B k => z_if_eq (tgt := 356) B dX9_comes_307 (by decide) (fun _ => k) (fun q => absurd c16 q)) ?_
                  refine y_sub [(0, .ref t)] [1] rfl ?_
                  exact tb_X9_comes_356 h hT hk_t
                · replace h := ite_n c16 h
                  refine ym 310 (fun B k => z_if_eq (tgt := 356) B dX9_comes_307 (by decide) (fun q => absurd q c16) (fun _ => k)) ?_
                  refine ym 311 (fun B k => z_aload_n B dX9_comes_310 rfl 1 rfl k) ?_
                  refine ym 314 (fun B k => gf_X9_107 (x := ((sx_I σ t 27) + 1)) B hk_t (rI_n (by decide) rI_s) dX9_comes_311 k) ?_
                  refine ym 315 (fun B k => z_aload_n B dX9_comes_314 rfl 1 rfl k) ?_
                  replace h := qv_e h
                  obtain ⟨w17, e_w17, h⟩ := h
                  have hq_w17 : rk (wx_I (wx_I σ t 27 ((sx_I σ t 27) + 1)) t 38 0) w17 13 := rk_T hT hk_t rfl (by decide) ((rR_I (rR_I rfl)).trans e_w17)
                  refine ym 318 (fun B k => gf_X9_38 (x := w17) B hk_t ((rR_I (rR_I rfl)).trans e_w17) dX9_comes_315 k) ?_
                  refine ym 319 (fun B k => z_iload_n B dX9_comes_318 rfl 2 rfl k) ?_
                  replace h := bq_e h
                  obtain ⟨a18, rfl, h⟩ := h
                  have hk_a18 := hq_w17 a18 rfl
                  replace h := ck_e h
                  obtain ⟨hi_19, h⟩ := h
                  refine ym 320 (fun B k => z_iald (j := (ti x1)) (x := (sx_I σ a18 (ti x1))) B hk_a18 rfl hi_19 (rI_k (by decide) hk_t hk_a18 (rI_k (by decide) hk_t hk_a18 rfl)) dX9_comes_319 k) ?_
                  by_cases c20 : ((sx_I σ t 27) + 1) ≤ (sx_I σ a18 (ti x1))
                  · replace h := ite_p c20 h
                    refine ym 356 (fun B k => z_icmp_le (tgt := 356) B dX9_comes_320 (by decide) (fun _ => k) (fun q => absurd c20 q)) ?_
                    refine y_sub [(0, .ref t)] [1] rfl ?_
                    exact tb_X9_comes_356 h hT hk_t
                  · replace h := ite_n c20 h
                    refine ym 323 (fun B k => z_icmp_le (tgt := 356) B dX9_comes_320 (by decide) (fun q => absurd q c20) (fun _ => k)) ?_
                    refine ym 324 (fun B k => z_aload_n B dX9_comes_323 rfl 1 rfl k) ?_
                    replace h := qv_e h
                    obtain ⟨w21, e_w21, h⟩ := h
                    have hq_w21 : rk (wx_I (wx_I σ t 27 ((sx_I σ t 27) + 1)) t 38 0) w21 13 := rk_T hT hk_t rfl (by decide) ((rR_I (rR_I rfl)).trans e_w21)
                    refine ym 327 (fun B k => gf_X9_38 (x := w21) B hk_t ((rR_I (rR_I rfl)).trans e_w21) dX9_comes_324 k) ?_
                    refine ym 328 (fun B k => z_iload_n B dX9_comes_327 rfl 2 rfl k) ?_
                    refine ym 329 (fun B k => z_aload_n B dX9_comes_328 rfl 1 rfl k) ?_
                    refine ym 332 (fun B k => gf_X9_107 (x := ((sx_I σ t 27) + 1)) B hk_t (rI_n (by decide) rI_s) dX9_comes_329 k) ?_
                    replace h := bq_e h
                    obtain ⟨a22, rfl, h⟩ := h
                    have hk_a22 := hq_w21 a22 rfl
                    replace h := ck_e h
                    obtain ⟨hi_23, h⟩ := h
                    refine ymw (σ' := (wx_I (wx_I (wx_I σ t 27 ((sx_I σ t 27) + 1)) t 38 0) a22 (ti x1) ((sx_I σ t 27) + 1))) 333 e_I (fun B _ k => z_iast (j := (ti x1)) B hk_a22 rfl hi_23 rfl dX9_comes_332 k) ?_
                    have hT := TS_I (k := (ti x1)) (x := ((sx_I σ t 27) + 1)) hT hk_a22 (Or.inl rfl)
                    have hk_t := kk_I (σ := (wx_I (wx_I σ t 27 ((sx_I σ t 27) + 1)) t 38 0)) (a := a22) (k := (ti x1)) (x := ((sx_I σ t 27) + 1)) hk_t
                    refine ym 334 (fun B k => z_aload_n B dX9_comes_333 rfl 1 rfl k) ?_
                    replace h := qv_e h
                    obtain ⟨w24, e_w24, h⟩ := h
                    have hq_w24 : rk (wx_I (wx_I (wx_I σ t 27 ((sx_I σ t 27) + 1)) t 38 0) a22 (ti x1) ((sx_I σ t 27) + 1)) w24 13 := rk_T hT hk_t rfl (by decide) ((rR_I (rR_I (rR_I rfl))).trans e_w24)
                    refine ym 337 (fun B k => gf_X9_87 (x := w24) B hk_t ((rR_I (rR_I (rR_I rfl))).trans e_w24) dX9_comes_334 k) ?_
                    refine ym 338 (fun B k => z_aload_n B dX9_comes_337 rfl 1 rfl k) ?_
                    refine ym 341 (fun B k => gf_X9_159 (x := (sx_I σ t 45)) B hk_t (rI_k (by decide) hk_a22 hk_t (rI_n (by decide) (rI_n (by decide) rfl))) dX9_comes_338 k) ?_
                    refine ym 342 (fun B k => z_aload_n B dX9_comes_341 rfl 1 rfl k) ?_
                    refine ym 345 (fun B k => gf_X9_119 (x := (sx_I σ t 31)) B hk_t (rI_k (by decide) hk_a22 hk_t (rI_n (by decide) (rI_n (by decide) rfl))) dX9_comes_342 k) ?_
                    replace h := bq_e h
                    obtain ⟨a25, rfl, h⟩ := h
                    have hk_a25 := hq_w24 a25 rfl
                    replace h := ck_e h
                    obtain ⟨hi_26, h⟩ := h
                    refine ymw (σ' := (wx_I (wx_I (wx_I (wx_I σ t 27 ((sx_I σ t 27) + 1)) t 38 0) a22 (ti x1) ((sx_I σ t 27) + 1)) a25 (ti (sx_I σ t 45)) (sx_I σ t 31))) 346 e_I (fun B _ k => z_iast (j := (ti (sx_I σ t 45))) B hk_a25 rfl hi_26 rfl dX9_comes_345 k) ?_
                    have hT := TS_I (k := (ti (sx_I σ t 45))) (x := (sx_I σ t 31)) hT hk_a25 (Or.inl rfl)
                    have hk_t := kk_I (σ := (wx_I (wx_I (wx_I σ t 27 ((sx_I σ t 27) + 1)) t 38 0) a22 (ti x1) ((sx_I σ t 27) + 1))) (a := a25) (k := (ti (sx_I σ t 45))) (x := (sx_I σ t 31)) hk_t
                    refine ym 347 (fun B k => z_aload_n B dX9_comes_346 rfl 1 rfl k) ?_
                    refine ym 348 (fun B k => z_dup B dX9_comes_347 rfl k) ?_
                    refine ym 351 (fun B k => gf_X9_159 (x := (sx_I σ t 45)) B hk_t (rI_k (by decide) hk_a25 hk_t (rI_k (by decide) hk_a22 hk_t (rI_n (by decide) (rI_n (by decide) rfl)))) dX9_comes_348 k) ?_
                    refine ym 352 (fun B k => z_iconst (v := 1) B dX9_comes_351 (by decide) k) ?_
                    refine ym 353 (fun B k => z_iadd B dX9_comes_352 k) ?_
                    refine ymw (σ' := (wx_I (wx_I (wx_I (wx_I (wx_I σ t 27 ((sx_I σ t 27) + 1)) t 38 0) a22 (ti x1) ((sx_I σ t 27) + 1)) a25 (ti (sx_I σ t 45)) (sx_I σ t 31)) t 45 ((sx_I σ t 45) + 1))) 356 e_I (fun B hin k => pf_X9_159 (x := ((sx_I σ t 45) + 1)) B hk_t rfl dX9_comes_353 k) ?_
                    have hT := TS_I (k := 45) (x := ((sx_I σ t 45) + 1)) hT hk_t (Or.inl rfl)
                    have hk_t := kk_I (σ := (wx_I (wx_I (wx_I (wx_I σ t 27 ((sx_I σ t 27) + 1)) t 38 0) a22 (ti x1) ((sx_I σ t 27) + 1)) a25 (ti (sx_I σ t 45)) (sx_I σ t 31))) (a := t) (k := 45) (x := ((sx_I σ t 45) + 1)) hk_t
                    refine y_sub [(0, .ref t)] [1] rfl ?_
                    exact tb_X9_comes_356 h hT hk_t
              · replace h := ite_n c15 h
                refine ym 356 (fun B k => z_icmp_ne (tgt := 356) B dX9_comes_300 (by decide) (fun _ => k) (fun q => absurd q c15)) ?_
                refine y_sub [(0, .ref t)] [1] rfl ?_
                exact tb_X9_comes_356 h hT hk_t
            · replace h := ite_n c14 h
              refine ym 523 (fun B k => z_if_ne (tgt := 523) B dX9_comes_292 (by decide) (fun _ => k) (fun q => absurd q c14)) ?_
              obtain rfl := Option.some.inj h
              exact yr_v hT trivial rfl dX9_comes_523
          · replace h := ite_n c13 h
            refine ym 280 (fun B k => z_if_eq (tgt := 288) B dX9_comes_277 (by decide) (fun q => absurd q c13) (fun _ => k)) ?_
            refine ym 281 (fun B k => z_aload_n B dX9_comes_280 rfl 1 rfl k) ?_
            refine ym 282 (fun B k => z_iconst (v := 1) B dX9_comes_281 (by decide) k) ?_
            refine ymw (σ' := (wx_I (wx_I (wx_I σ t 27 ((sx_I σ t 27) + 1)) t 38 0) t 35 1)) 285 e_I (fun B hin k => pf_X9_128 (x := 1) B (Or.inr rfl) hk_t rfl dX9_comes_282 k) ?_
            have hT := TS_I (k := 35) (x := 1) hT hk_t (Or.inr (Or.inr rfl))
            have hk_t := kk_I (σ := (wx_I (wx_I σ t 27 ((sx_I σ t 27) + 1)) t 38 0)) (a := t) (k := 35) (x := 1) hk_t
            refine ym 523 (fun B k => z_goto (tgt := 523) B dX9_comes_285 (by decide) k) ?_
            obtain rfl := Option.some.inj h
            exact yr_v hT trivial rfl dX9_comes_523
        · replace h := ite_n c12 h
          refine ym 369 (fun B k => z_icmp_ne (tgt := 369) B dX9_comes_270 (by decide) (fun _ => k) (fun q => absurd q c12)) ?_
          refine ym 370 (fun B k => z_aload_n B dX9_comes_369 rfl 1 rfl k) ?_
          refine ym 371 (fun B k => z_iload_n B dX9_comes_370 rfl 3 rfl k) ?_
          refine ym 372 (fun B k => z_iconst (v := 2) B dX9_comes_371 (by decide) k) ?_
          by_cases c27 : x2 = 2
          · replace h := ite_p c27 h
            refine ym 375 (fun B k => z_icmp_ne (tgt := 388) B dX9_comes_372 (by decide) (fun q => absurd c27 q) (fun _ => k)) ?_
            refine ym 376 (fun B k => z_aload_n B dX9_comes_375 rfl 1 rfl k) ?_
            refine ym 379 (fun B k => gf_X9_116 (x := (sx_I σ t 30)) B hk_t (rI_n (by decide) (rI_n (by decide) rfl)) dX9_comes_376 k) ?_
            refine ym 380 (fun B k => z_iconst (v := 1) B dX9_comes_379 (by decide) k) ?_
            by_cases c28 : (sx_I σ t 30) = 1
            · replace h := ite_p c28 h
              refine ym 383 (fun B k => z_icmp_ne (tgt := 388) B dX9_comes_380 (by decide) (fun q => absurd c28 q) (fun _ => k)) ?_
              refine ym 384 (fun B k => z_lload_n B dX9_comes_383 rfl 4 rfl k) ?_
              refine ym 385 (fun B k => z_l2i (v := x3.toInt32) B dX9_comes_384 rfl k) ?_
              refine ym 409 (fun B k => z_goto (tgt := 409) B dX9_comes_385 (by decide) k) ?_
              refine y_sub [(0, .ref t), (2, .int x2), (3, .long x3)] [1, 3, 4] rfl ?_
              exact tb_X9_comes_409 h hT hk_t
            · replace h := ite_n c28 h
              refine ym 388 (fun B k => z_icmp_ne (tgt := 388) B dX9_comes_380 (by decide) (fun _ => k) (fun q => absurd q c28)) ?_
              refine y_sub [(0, .ref t), (2, .int x2), (3, .long x3)] [1, 3, 4] rfl ?_
              exact tb_X9_comes_388 h hT hk_t
          · replace h := ite_n c27 h
            refine ym 388 (fun B k => z_icmp_ne (tgt := 388) B dX9_comes_372 (by decide) (fun _ => k) (fun q => absurd q c27)) ?_
            refine y_sub [(0, .ref t), (2, .int x2), (3, .long x3)] [1, 3, 4] rfl ?_
            exact tb_X9_comes_388 h hT hk_t
    · replace h := ite_n c2 h
      refine ym 96 (fun B k => z_icmp_eq (tgt := 118) B dX9_comes_93 (by decide) (fun q => absurd q c2) (fun _ => k)) ?_
      refine ym 97 (fun B k => z_aload_n B dX9_comes_96 rfl 0 rfl k) ?_
      refine ym 100 (fun B k => gf_X9_116 (x := (sx_I σ t 30)) B hk_t rfl dX9_comes_97 k) ?_
      refine ym 101 (fun B k => z_iconst (v := 4) B dX9_comes_100 (by decide) k) ?_
      by_cases c29 : (sx_I σ t 30) = 4
      · replace h := ite_p c29 h
        refine ym 118 (fun B k => z_icmp_eq (tgt := 118) B dX9_comes_101 (by decide) (fun _ => k) (fun q => absurd c29 q)) ?_
        refine ym 119 (fun B k => z_iconst (v := 1) B dX9_comes_118 (by decide) k) ?_
        refine ym 123 (fun B k => z_goto (tgt := 123) B dX9_comes_119 (by decide) k) ?_
        refine ym 125 (fun B k => z_istore (lv' := [(6, .int 1), (0, .ref t), (1, .int x1), (2, .int x2), (3, .long x3)]) B dX9_comes_123 (by decide) rfl k) ?_
        refine ym 127 (fun B k => z_iload B dX9_comes_125 0 rfl k) ?_
        refine ym 136 (fun B k => z_if_ne (tgt := 136) B dX9_comes_127 (by decide) (fun _ => k) (fun q => absurd q (by decide))) ?_
        refine ym 137 (fun B k => z_aload_n B dX9_comes_136 rfl 1 rfl k) ?_
        refine ym 138 (fun B k => z_dup B dX9_comes_137 rfl k) ?_
        refine ym 141 (fun B k => gf_X9_107 (x := (sx_I σ t 27)) B hk_t rfl dX9_comes_138 k) ?_
        refine ym 142 (fun B k => z_iconst (v := 1) B dX9_comes_141 (by decide) k) ?_
        refine ym 143 (fun B k => z_iadd B dX9_comes_142 k) ?_
        refine ymw (σ' := (wx_I σ t 27 ((sx_I σ t 27) + 1))) 146 e_I (fun B hin k => pf_X9_107 (x := ((sx_I σ t 27) + 1)) B hk_t rfl dX9_comes_143 k) ?_
        have hT := TS_I (k := 27) (x := ((sx_I σ t 27) + 1)) hT hk_t (Or.inl rfl)
        have hk_t := kk_I (σ := σ) (a := t) (k := 27) (x := ((sx_I σ t 27) + 1)) hk_t
        refine ym 147 (fun B k => z_aload_n B dX9_comes_146 rfl 1 rfl k) ?_
        refine ym 148 (fun B k => z_iconst (v := 0) B dX9_comes_147 (by decide) k) ?_
        refine ymw (σ' := (wx_I (wx_I σ t 27 ((sx_I σ t 27) + 1)) t 38 0)) 151 e_I (fun B hin k => pf_X9_137 (x := 0) B hk_t rfl dX9_comes_148 k) ?_
        have hT := TS_I (k := 38) (x := 0) hT hk_t (Or.inl rfl)
        have hk_t := kk_I (σ := (wx_I σ t 27 ((sx_I σ t 27) + 1))) (a := t) (k := 38) (x := 0) hk_t
        refine ym 152 (fun B k => z_iload_n B dX9_comes_151 rfl 3 rfl k) ?_
        refine ym 154 (fun B k => z_bipush (v := 6) B dX9_comes_152 (by decide) k) ?_
        by_cases c30 : x2 = 6
        · replace h := ite_p c30 h
          refine ym 157 (fun B k => z_icmp_ne (tgt := 267) B dX9_comes_154 (by decide) (fun q => absurd c30 q) (fun _ => k)) ?_
          refine ym 158 (fun B k => z_aload_n B dX9_comes_157 rfl 1 rfl k) ?_
          replace h := qv_e h
          obtain ⟨w31, e_w31, h⟩ := h
          have hq_w31 : rk (wx_I (wx_I σ t 27 ((sx_I σ t 27) + 1)) t 38 0) w31 13 := rk_T hT hk_t rfl (by decide) ((rR_I (rR_I rfl)).trans e_w31)
          refine ym 161 (fun B k => gf_X9_75 (x := w31) B hk_t ((rR_I (rR_I rfl)).trans e_w31) dX9_comes_158 k) ?_
          refine ym 162 (fun B k => z_aload_n B dX9_comes_161 rfl 1 rfl k) ?_
          refine ym 165 (fun B k => gf_X9_140 (x := (sx_I σ t 39)) B hk_t (rI_n (by decide) (rI_n (by decide) rfl)) dX9_comes_162 k) ?_
          refine ym 166 (fun B k => z_lload_n B dX9_comes_165 rfl 4 rfl k) ?_
          refine ym 169 (fun B k => z_ldc2 (v := 100) B dX9_comes_166 wg_1234 k) ?_
          refine ym 170 (fun B k => z_ldiv B dX9_comes_169 (by decide) k) ?_
          refine ym 171 (fun B k => z_l2i (v := (x3 / 100).toInt32) B dX9_comes_170 rfl k) ?_
          replace h := bq_e h
          obtain ⟨a32, rfl, h⟩ := h
          have hk_a32 := hq_w31 a32 rfl
          replace h := ck_e h
          obtain ⟨hi_33, h⟩ := h
          refine ymw (σ' := (wx_I (wx_I (wx_I σ t 27 ((sx_I σ t 27) + 1)) t 38 0) a32 (ti (sx_I σ t 39)) ((x3 / 100).toInt32))) 172 e_I (fun B _ k => z_iast (j := (ti (sx_I σ t 39))) B hk_a32 rfl hi_33 rfl dX9_comes_171 k) ?_
          have hT := TS_I (k := (ti (sx_I σ t 39))) (x := ((x3 / 100).toInt32)) hT hk_a32 (Or.inl rfl)
          have hk_t := kk_I (σ := (wx_I (wx_I σ t 27 ((sx_I σ t 27) + 1)) t 38 0)) (a := a32) (k := (ti (sx_I σ t 39))) (x := ((x3 / 100).toInt32)) hk_t
          refine ym 173 (fun B k => z_aload_n B dX9_comes_172 rfl 1 rfl k) ?_
          replace h := qv_e h
          obtain ⟨w34, e_w34, h⟩ := h
          have hq_w34 : rk (wx_I (wx_I (wx_I σ t 27 ((sx_I σ t 27) + 1)) t 38 0) a32 (ti (sx_I σ t 39)) ((x3 / 100).toInt32)) w34 13 := rk_T hT hk_t rfl (by decide) ((rR_I (rR_I (rR_I rfl))).trans e_w34)
          refine ym 176 (fun B k => gf_X9_78 (x := w34) B hk_t ((rR_I (rR_I (rR_I rfl))).trans e_w34) dX9_comes_173 k) ?_
          refine ym 177 (fun B k => z_aload_n B dX9_comes_176 rfl 1 rfl k) ?_
          refine ym 180 (fun B k => gf_X9_140 (x := (sx_I σ t 39)) B hk_t (rI_k (by decide) hk_a32 hk_t (rI_n (by decide) (rI_n (by decide) rfl))) dX9_comes_177 k) ?_
          refine ym 181 (fun B k => z_lload_n B dX9_comes_180 rfl 4 rfl k) ?_
          refine ym 184 (fun B k => z_ldc2 (v := 100) B dX9_comes_181 wg_1234 k) ?_
          refine ym 185 (fun B k => z_lrem B dX9_comes_184 (by decide) k) ?_
          refine ym 186 (fun B k => z_l2i (v := (jreml x3 100).toInt32) B dX9_comes_185 rfl k) ?_
          replace h := bq_e h
          obtain ⟨a35, rfl, h⟩ := h
          have hk_a35 := hq_w34 a35 rfl
          replace h := ck_e h
          obtain ⟨hi_36, h⟩ := h
          refine ymw (σ' := (wx_I (wx_I (wx_I (wx_I σ t 27 ((sx_I σ t 27) + 1)) t 38 0) a32 (ti (sx_I σ t 39)) ((x3 / 100).toInt32)) a35 (ti (sx_I σ t 39)) ((jreml x3 100).toInt32))) 187 e_I (fun B _ k => z_iast (j := (ti (sx_I σ t 39))) B hk_a35 rfl hi_36 rfl dX9_comes_186 k) ?_
          have hT := TS_I (k := (ti (sx_I σ t 39))) (x := ((jreml x3 100).toInt32)) hT hk_a35 (Or.inl rfl)
          have hk_t := kk_I (σ := (wx_I (wx_I (wx_I σ t 27 ((sx_I σ t 27) + 1)) t 38 0) a32 (ti (sx_I σ t 39)) ((x3 / 100).toInt32))) (a := a35) (k := (ti (sx_I σ t 39))) (x := ((jreml x3 100).toInt32)) hk_t
          refine ym 188 (fun B k => z_aload_n B dX9_comes_187 rfl 1 rfl k) ?_
          refine ym 189 (fun B k => z_dup B dX9_comes_188 rfl k) ?_
          refine ym 192 (fun B k => gf_X9_140 (x := (sx_I σ t 39)) B hk_t (rI_k (by decide) hk_a35 hk_t (rI_k (by decide) hk_a32 hk_t (rI_n (by decide) (rI_n (by decide) rfl)))) dX9_comes_189 k) ?_
          refine ym 193 (fun B k => z_iconst (v := 1) B dX9_comes_192 (by decide) k) ?_
          refine ym 194 (fun B k => z_iadd B dX9_comes_193 k) ?_
          refine ymw (σ' := (wx_I (wx_I (wx_I (wx_I (wx_I σ t 27 ((sx_I σ t 27) + 1)) t 38 0) a32 (ti (sx_I σ t 39)) ((x3 / 100).toInt32)) a35 (ti (sx_I σ t 39)) ((jreml x3 100).toInt32)) t 39 ((sx_I σ t 39) + 1))) 197 e_I (fun B hin k => pf_X9_140 (x := ((sx_I σ t 39) + 1)) B hk_t rfl dX9_comes_194 k) ?_
          have hT := TS_I (k := 39) (x := ((sx_I σ t 39) + 1)) hT hk_t (Or.inl rfl)
          have hk_t := kk_I (σ := (wx_I (wx_I (wx_I (wx_I σ t 27 ((sx_I σ t 27) + 1)) t 38 0) a32 (ti (sx_I σ t 39)) ((x3 / 100).toInt32)) a35 (ti (sx_I σ t 39)) ((jreml x3 100).toInt32))) (a := t) (k := 39) (x := ((sx_I σ t 39) + 1)) hk_t
          refine ym 198 (fun B k => z_aload_n B dX9_comes_197 rfl 1 rfl k) ?_
          refine ym 201 (fun B k => gf_X9_116 (x := (sx_I σ t 30)) B hk_t (rI_n (by decide) (rI_k (by decide) hk_a35 hk_t (rI_k (by decide) hk_a32 hk_t (rI_n (by decide) (rI_n (by decide) rfl))))) dX9_comes_198 k) ?_
          refine ym 202 (fun B k => z_iconst (v := 3) B dX9_comes_201 (by decide) k) ?_
          by_cases c37 : (sx_I σ t 30) = 3
          · replace h := ite_p c37 h
            refine ym 213 (fun B k => z_icmp_eq (tgt := 213) B dX9_comes_202 (by decide) (fun _ => k) (fun q => absurd c37 q)) ?_
            refine y_sub [(0, .ref t), (3, .long x3)] [1, 4] rfl ?_
            exact tb_X9_comes_213 h hT hk_t
          · replace h := ite_n c37 h
            refine ym 205 (fun B k => z_icmp_eq (tgt := 213) B dX9_comes_202 (by decide) (fun q => absurd q c37) (fun _ => k)) ?_
            refine ym 206 (fun B k => z_aload_n B dX9_comes_205 rfl 1 rfl k) ?_
            refine ym 209 (fun B k => gf_X9_116 (x := (sx_I σ t 30)) B hk_t (rI_n (by decide) (rI_k (by decide) hk_a35 hk_t (rI_k (by decide) hk_a32 hk_t (rI_n (by decide) (rI_n (by decide) rfl))))) dX9_comes_206 k) ?_
            refine ym 210 (fun B k => z_iconst (v := 4) B dX9_comes_209 (by decide) k) ?_
            by_cases c38 : (sx_I σ t 30) = 4
            · replace h := ite_p c38 h
              refine ym 213 (fun B k => z_icmp_ne (tgt := 523) B dX9_comes_210 (by decide) (fun q => absurd c38 q) (fun _ => k)) ?_
              refine y_sub [(0, .ref t), (3, .long x3)] [1, 4] rfl ?_
              exact tb_X9_comes_213 h hT hk_t
            · replace h := ite_n c38 h
              refine ym 523 (fun B k => z_icmp_ne (tgt := 523) B dX9_comes_210 (by decide) (fun _ => k) (fun q => absurd q c38)) ?_
              obtain rfl := Option.some.inj h
              exact yr_v hT trivial rfl dX9_comes_523
        · replace h := ite_n c30 h
          refine ym 267 (fun B k => z_icmp_ne (tgt := 267) B dX9_comes_154 (by decide) (fun _ => k) (fun q => absurd q c30)) ?_
          refine ym 268 (fun B k => z_iload_n B dX9_comes_267 rfl 3 rfl k) ?_
          refine ym 270 (fun B k => z_bipush (v := 12) B dX9_comes_268 (by decide) k) ?_
          by_cases c39 : x2 = 12
          · replace h := ite_p c39 h
            refine ym 273 (fun B k => z_icmp_ne (tgt := 369) B dX9_comes_270 (by decide) (fun q => absurd c39 q) (fun _ => k)) ?_
            refine ym 274 (fun B k => z_aload_n B dX9_comes_273 rfl 1 rfl k) ?_
            refine ym 277 (fun B k => gf_X9_125 (x := (sx_I σ t 34)) B hk_t (rI_n (by decide) (rI_n (by decide) rfl)) dX9_comes_274 k) ?_
            by_cases c40 : (sx_I σ t 34) = 0
            · replace h := ite_p c40 h
              refine ym 288 (fun B k => z_if_eq (tgt := 288) B dX9_comes_277 (by decide) (fun _ => k) (fun q => absurd c40 q)) ?_
              refine ym 289 (fun B k => z_aload_n B dX9_comes_288 rfl 1 rfl k) ?_
              refine ym 292 (fun B k => gf_X9_131 (x := (sx_I σ t 36)) B hk_t (rI_n (by decide) (rI_n (by decide) rfl)) dX9_comes_289 k) ?_
              by_cases c41 : (sx_I σ t 36) = 0
              · replace h := ite_p c41 h
                refine ym 295 (fun B k => z_if_ne (tgt := 523) B dX9_comes_292 (by decide) (fun q => absurd c41 q) (fun _ => k)) ?_
                refine ym 296 (fun B k => z_aload_n B dX9_comes_295 rfl 1 rfl k) ?_
                refine ym 299 (fun B k => gf_X9_116 (x := (sx_I σ t 30)) B hk_t (rI_n (by decide) (rI_n (by decide) rfl)) dX9_comes_296 k) ?_
                refine ym 300 (fun B k => z_iconst (v := 5) B dX9_comes_299 (by decide) k) ?_
                by_cases c42 : (sx_I σ t 30) = 5
                · replace h := ite_p c42 h
                  refine ym 303 (fun B k => z_icmp_ne (tgt := 356) B dX9_comes_300 (by decide) (fun q => absurd c42 q) (fun _ => k)) ?_
                  refine ym 304 (fun B k => z_aload_n B dX9_comes_303 rfl 1 rfl k) ?_
                  refine ym 307 (fun B k => gf_X9_156 (x := (sx_I σ t 47)) B hk_t (rI_n (by decide) (rI_n (by decide) rfl)) dX9_comes_304 k) ?_
                  by_cases c43 : (sx_I σ t 47) = 0
                  · replace h := ite_p c43 h
                    refine ym 356 (fun B k => z_if_eq (tgt := 356) B dX9_comes_307 (by decide) (fun _ => k) (fun q => absurd c43 q)) ?_
                    refine y_sub [(0, .ref t)] [1] rfl ?_
                    exact tb_X9_comes_356 h hT hk_t
                  · replace h := ite_n c43 h
                    refine ym 310 (fun B k => z_if_eq (tgt := 356) B dX9_comes_307 (by decide) (fun q => absurd q c43) (fun _ => k)) ?_
                    refine ym 311 (fun B k => z_aload_n B dX9_comes_310 rfl 1 rfl k) ?_
                    refine ym 314 (fun B k => gf_X9_107 (x := ((sx_I σ t 27) + 1)) B hk_t (rI_n (by decide) rI_s) dX9_comes_311 k) ?_
                    refine ym 315 (fun B k => z_aload_n B dX9_comes_314 rfl 1 rfl k) ?_
                    replace h := qv_e h
                    obtain ⟨w44, e_w44, h⟩ := h
                    have hq_w44 : rk (wx_I (wx_I σ t 27 ((sx_I σ t 27) + 1)) t 38 0) w44 13 := rk_T hT hk_t rfl (by decide) ((rR_I (rR_I rfl)).trans e_w44)
                    refine ym 318 (fun B k => gf_X9_38 (x := w44) B hk_t ((rR_I (rR_I rfl)).trans e_w44) dX9_comes_315 k) ?_
                    refine ym 319 (fun B k => z_iload_n B dX9_comes_318 rfl 2 rfl k) ?_
                    replace h := bq_e h
                    obtain ⟨a45, rfl, h⟩ := h
                    have hk_a45 := hq_w44 a45 rfl
                    replace h := ck_e h
                    obtain ⟨hi_46, h⟩ := h
                    refine ym 320 (fun B k => z_iald (j := (ti x1)) (x := (sx_I σ a45 (ti x1))) B hk_a45 rfl hi_46 (rI_k (by decide) hk_t hk_a45 (rI_k (by decide) hk_t hk_a45 rfl)) dX9_comes_319 k) ?_
                    by_cases c47 : ((sx_I σ t 27) + 1) ≤ (sx_I σ a45 (ti x1))
                    · replace h := ite_p c47 h
                      refine ym 356 (fun B k => z_icmp_le (tgt := 356) B dX9_comes_320 (by decide) (fun _ => k) (fun q => absurd c47 q)) ?_
                      refine y_sub [(0, .ref t)] [1] rfl ?_
                      exact tb_X9_comes_356 h hT hk_t
                    · replace h := ite_n c47 h
                      refine ym 323 (fun B k => z_icmp_le (tgt := 356) B dX9_comes_320 (by decide) (fun q => absurd q c47) (fun _ => k)) ?_
                      refine ym 324 (fun B k => z_aload_n B dX9_comes_323 rfl 1 rfl k) ?_
                      replace h := qv_e h
                      obtain ⟨w48, e_w48, h⟩ := h
                      have hq_w48 : rk (wx_I (wx_I σ t 27 ((sx_I σ t 27) + 1)) t 38 0) w48 13 := rk_T hT hk_t rfl (by decide) ((rR_I (rR_I rfl)).trans e_w48)
                      refine ym 327 (fun B k => gf_X9_38 (x := w48) B hk_t ((rR_I (rR_I rfl)).trans e_w48) dX9_comes_324 k) ?_
                      refine ym 328 (fun B k => z_iload_n B dX9_comes_327 rfl 2 rfl k) ?_
                      refine ym 329 (fun B k => z_aload_n B dX9_comes_328 rfl 1 rfl k) ?_
                      refine ym 332 (fun B k => gf_X9_107 (x := ((sx_I σ t 27) + 1)) B hk_t (rI_n (by decide) rI_s) dX9_comes_329 k) ?_
                      replace h := bq_e h
                      obtain ⟨a49, rfl, h⟩ := h
                      have hk_a49 := hq_w48 a49 rfl
                      replace h := ck_e h
                      obtain ⟨hi_50, h⟩ := h
                      refine ymw (σ' := (wx_I (wx_I (wx_I σ t 27 ((sx_I σ t 27) + 1)) t 38 0) a49 (ti x1) ((sx_I σ t 27) + 1))) 333 e_I (fun B _ k => z_iast (j := (ti x1)) B hk_a49 rfl hi_50 rfl dX9_comes_332 k) ?_
                      have hT := TS_I (k := (ti x1)) (x := ((sx_I σ t 27) + 1)) hT hk_a49 (Or.inl rfl)
                      have hk_t := kk_I (σ := (wx_I (wx_I σ t 27 ((sx_I σ t 27) + 1)) t 38 0)) (a := a49) (k := (ti x1)) (x := ((sx_I σ t 27) + 1)) hk_t
                      refine ym 334 (fun B k => z_aload_n B dX9_comes_333 rfl 1 rfl k) ?_
                      replace h := qv_e h
                      obtain ⟨w51, e_w51, h⟩ := h
                      have hq_w51 : rk (wx_I (wx_I (wx_I σ t 27 ((sx_I σ t 27) + 1)) t 38 0) a49 (ti x1) ((sx_I σ t 27) + 1)) w51 13 := rk_T hT hk_t rfl (by decide) ((rR_I (rR_I (rR_I rfl))).trans e_w51)
                      refine ym 337 (fun B k => gf_X9_87 (x := w51) B hk_t ((rR_I (rR_I (rR_I rfl))).trans e_w51) dX9_comes_334 k) ?_
                      refine ym 338 (fun B k => z_aload_n B dX9_comes_337 rfl 1 rfl k) ?_
                      refine ym 341 (fun B k => gf_X9_159 (x := (sx_I σ t 45)) B hk_t (rI_k (by decide) hk_a49 hk_t (rI_n (by decide) (rI_n (by decide) rfl))) dX9_comes_338 k) ?_
                      refine ym 342 (fun B k => z_aload_n B dX9_comes_341 rfl 1 rfl k) ?_
                      refine ym 345 (fun B k => gf_X9_119 (x := (sx_I σ t 31)) B hk_t (rI_k (by decide) hk_a49 hk_t (rI_n (by decide) (rI_n (by decide) rfl))) dX9_comes_342 k) ?_
                      replace h := bq_e h
                      obtain ⟨a52, rfl, h⟩ := h
                      have hk_a52 := hq_w51 a52 rfl
                      replace h := ck_e h
                      obtain ⟨hi_53, h⟩ := h
                      refine ymw (σ' := (wx_I (wx_I (wx_I (wx_I σ t 27 ((sx_I σ t 27) + 1)) t 38 0) a49 (ti x1) ((sx_I σ t 27) + 1)) a52 (ti (sx_I σ t 45)) (sx_I σ t 31))) 346 e_I (fun B _ k => z_iast (j := (ti (sx_I σ t 45))) B hk_a52 rfl hi_53 rfl dX9_comes_345 k) ?_
                      have hT := TS_I (k := (ti (sx_I σ t 45))) (x := (sx_I σ t 31)) hT hk_a52 (Or.inl rfl)
                      have hk_t := kk_I (σ := (wx_I (wx_I (wx_I σ t 27 ((sx_I σ t 27) + 1)) t 38 0) a49 (ti x1) ((sx_I σ t 27) + 1))) (a := a52) (k := (ti (sx_I σ t 45))) (x := (sx_I σ t 31)) hk_t
                      refine ym 347 (fun B k => z_aload_n B dX9_comes_346 rfl 1 rfl k) ?_
                      refine ym 348 (fun B k => z_dup B dX9_comes_347 rfl k) ?_
                      refine ym 351 (fun B k => gf_X9_159 (x := (sx_I σ t 45)) B hk_t (rI_k (by decide) hk_a52 hk_t (rI_k (by decide) hk_a49 hk_t (rI_n (by decide) (rI_n (by decide) rfl)))) dX9_comes_348 k) ?_
                      refine ym 352 (fun B k => z_iconst (v := 1) B dX9_comes_351 (by decide) k) ?_
                      refine ym 353 (fun B k => z_iadd B dX9_comes_352 k) ?_
                      refine ymw (σ' := (wx_I (wx_I (wx_I (wx_I (wx_I σ t 27 ((sx_I σ t 27) + 1)) t 38 0) a49 (ti x1) ((sx_I σ t 27) + 1)) a52 (ti (sx_I σ t 45)) (sx_I σ t 31)) t 45 ((sx_I σ t 45) + 1))) 356 e_I (fun B hin k => pf_X9_159 (x := ((sx_I σ t 45) + 1)) B hk_t rfl dX9_comes_353 k) ?_
                      have hT := TS_I (k := 45) (x := ((sx_I σ t 45) + 1)) hT hk_t (Or.inl rfl)
                      have hk_t := kk_I (σ := (wx_I (wx_I (wx_I (wx_I σ t 27 ((sx_I σ t 27) + 1)) t 38 0) a49 (ti x1) ((sx_I σ t 27) + 1)) a52 (ti (sx_I σ t 45)) (sx_I σ t 31))) (a := t) (k := 45) (x := ((sx_I σ t 45) + 1)) hk_t
                      refine y_sub [(0, .ref t)] [1] rfl ?_
                      exact tb_X9_comes_356 h hT hk_t
                · replace h := ite_n c42 h
                  refine ym 356 (fun B k => z_icmp_ne (tgt := 356) B dX9_comes_300 (by decide) (fun _ => k) (fun q => absurd q c42)) ?_
                  refine y_sub [(0, .ref t)] [1] rfl ?_
                  exact tb_X9_comes_356 h hT hk_t
              · replace h := ite_n c41 h
                refine ym 523 (fun B k => z_if_ne (tgt := 523) B dX9_comes_292 (by decide) (fun _ => k) (fun q => absurd q c41)) ?_
                obtain rfl := Option.some.inj h
                exact yr_v hT trivial rfl dX9_comes_523
            · replace h := ite_n c40 h
              refine ym 280 (fun B k => z_if_eq (tgt := 288) B dX9_comes_277 (by decide) (fun q => absurd q c40) (fun _ => k)) ?_
              refine ym 281 (fun B k => z_aload_n B dX9_comes_280 rfl 1 rfl k) ?_
              refine ym 282 (fun B k => z_iconst (v := 1) B dX9_comes_281 (by decide) k) ?_
              refine ymw (σ' := (wx_I (wx_I (wx_I σ t 27 ((sx_I σ t 27) + 1)) t 38 0) t 35 1)) 285 e_I (fun B hin k => pf_X9_128 (x := 1) B (Or.inr rfl) hk_t rfl dX9_comes_282 k) ?_
              have hT := TS_I (k := 35) (x := 1) hT hk_t (Or.inr (Or.inr rfl))
              have hk_t := kk_I (σ := (wx_I (wx_I σ t 27 ((sx_I σ t 27) + 1)) t 38 0)) (a := t) (k := 35) (x := 1) hk_t
              refine ym 523 (fun B k => z_goto (tgt := 523) B dX9_comes_285 (by decide) k) ?_
              obtain rfl := Option.some.inj h
              exact yr_v hT trivial rfl dX9_comes_523
          · replace h := ite_n c39 h
            refine ym 369 (fun B k => z_icmp_ne (tgt := 369) B dX9_comes_270 (by decide) (fun _ => k) (fun q => absurd q c39)) ?_
            refine ym 370 (fun B k => z_aload_n B dX9_comes_369 rfl 1 rfl k) ?_
            refine ym 371 (fun B k => z_iload_n B dX9_comes_370 rfl 3 rfl k) ?_
            refine ym 372 (fun B k => z_iconst (v := 2) B dX9_comes_371 (by decide) k) ?_
            by_cases c54 : x2 = 2
            · replace h := ite_p c54 h
              refine ym 375 (fun B k => z_icmp_ne (tgt := 388) B dX9_comes_372 (by decide) (fun q => absurd c54 q) (fun _ => k)) ?_
              refine ym 376 (fun B k => z_aload_n B dX9_comes_375 rfl 1 rfl k) ?_
              refine ym 379 (fun B k => gf_X9_116 (x := (sx_I σ t 30)) B hk_t (rI_n (by decide) (rI_n (by decide) rfl)) dX9_comes_376 k) ?_
              refine ym 380 (fun B k => z_iconst (v := 1) B dX9_comes_379 (by decide) k) ?_
              by_cases c55 : (sx_I σ t 30) = 1
              · replace h := ite_p c55 h
                refine ym 383 (fun B k => z_icmp_ne (tgt := 388) B dX9_comes_380 (by decide) (fun q => absurd c55 q) (fun _ => k)) ?_
                refine ym 384 (fun B k => z_lload_n B dX9_comes_383 rfl 4 rfl k) ?_
                refine ym 385 (fun B k => z_l2i (v := x3.toInt32) B dX9_comes_384 rfl k) ?_
                refine ym 409 (fun B k => z_goto (tgt := 409) B dX9_comes_385 (by decide) k) ?_
                refine y_sub [(0, .ref t), (2, .int x2), (3, .long x3)] [1, 3, 4] rfl ?_
                exact tb_X9_comes_409 h hT hk_t
              · replace h := ite_n c55 h
                refine ym 388 (fun B k => z_icmp_ne (tgt := 388) B dX9_comes_380 (by decide) (fun _ => k) (fun q => absurd q c55)) ?_
                refine y_sub [(0, .ref t), (2, .int x2), (3, .long x3)] [1, 3, 4] rfl ?_
                exact tb_X9_comes_388 h hT hk_t
            · replace h := ite_n c54 h
              refine ym 388 (fun B k => z_icmp_ne (tgt := 388) B dX9_comes_372 (by decide) (fun _ => k) (fun q => absurd q c54)) ?_
              refine y_sub [(0, .ref t), (2, .int x2), (3, .long x3)] [1, 3, 4] rfl ?_
              exact tb_X9_comes_388 h hT hk_t
      · replace h := ite_n c29 h
        refine ym 104 (fun B k => z_icmp_eq (tgt := 118) B dX9_comes_101 (by decide) (fun q => absurd q c29) (fun _ => k)) ?_
        refine y_sub [(0, .ref t), (1, .int x1), (2, .int x2), (3, .long x3)] [0, 1, 2, 3] rfl ?_
        exact tb_X9_comes_104 h hT hk_t
  · replace h := ite_n c1 h
    refine ym 104 (fun B k => z_icmp_ne (tgt := 104) B dX9_comes_85 (by decide) (fun _ => k) (fun q => absurd q c1)) ?_
    refine y_sub [(0, .ref t), (1, .int x1), (2, .int x2), (3, .long x3)] [0, 1, 2, 3] rfl ?_
    exact tb_X9_comes_104 h hT hk_t
set_option maxRecDepth 100000 in
set_option maxHeartbeats 4000000 in
theorem tb_X9_comes_54 {l : Launch} {g : gx_T} {σ : sx_T} {u : sx_T} {As : Array Value} {n0 : Nat} {t : Nat} {x1 : Int32} {x2 : Int32} {x3 : Int64} {y0 : Int32} (h : fb_X9_comes_54 n0 σ t x1 x2 x3 y0 = some u) (hT : TS g σ) (hk_t : sx_K σ t = 11) (hz_y0 : y0 = 0 ∨ y0 = 1) : ZY l g cX9_comes RX9 "comes" none 9 1 23 0 0 false As (QM g As (Qxv g u)) (True) u σ 54 [(0, .ref t), (1, .int x1), (2, .int x2), (3, .long x3)] [.int y0] := by
  unfold fb_X9_comes_54 at h
  refine ym 56 (fun B k => z_istore (lv' := [(5, .int y0), (0, .ref t), (1, .int x1), (2, .int x2), (3, .long x3)]) B dX9_comes_54 (by decide) rfl k) ?_
  refine ym 57 (fun B k => z_iload_n B dX9_comes_56 rfl 3 rfl k) ?_
  refine ym 59 (fun B k => z_bipush (v := 6) B dX9_comes_57 (by decide) k) ?_
  by_cases c1 : x2 = 6
  · replace h := ite_p c1 h
    refine ym 118 (fun B k => z_icmp_eq (tgt := 118) B dX9_comes_59 (by decide) (fun _ => k) (fun q => absurd c1 q)) ?_
    refine ym 119 (fun B k => z_iconst (v := 1) B dX9_comes_118 (by decide) k) ?_
    refine ym 123 (fun B k => z_goto (tgt := 123) B dX9_comes_119 (by decide) k) ?_
    refine ym 125 (fun B k => z_istore (lv' := [(6, .int 1), (5, .int y0), (0, .ref t), (1, .int x1), (2, .int x2), (3, .long x3)]) B dX9_comes_123 (by decide) rfl k) ?_
    refine ym 127 (fun B k => z_iload B dX9_comes_125 0 rfl k) ?_
    refine ym 136 (fun B k => z_if_ne (tgt := 136) B dX9_comes_127 (by decide) (fun _ => k) (fun q => absurd q (by decide))) ?_
    refine ym 137 (fun B k => z_aload_n B dX9_comes_136 rfl 2 rfl k) ?_
    refine ym 138 (fun B k => z_dup B dX9_comes_137 rfl k) ?_
    refine ym 141 (fun B k => gf_X9_107 (x := (sx_I σ t 27)) B hk_t rfl dX9_comes_138 k) ?_
    refine ym 142 (fun B k => z_iconst (v := 1) B dX9_comes_141 (by decide) k) ?_
    refine ym 143 (fun B k => z_iadd B dX9_comes_142 k) ?_
    refine ymw (σ' := (wx_I σ t 27 ((sx_I σ t 27) + 1))) 146 e_I (fun B hin k => pf_X9_107 (x := ((sx_I σ t 27) + 1)) B hk_t rfl dX9_comes_143 k) ?_
    have hT := TS_I (k := 27) (x := ((sx_I σ t 27) + 1)) hT hk_t (Or.inl rfl)
    have hk_t := kk_I (σ := σ) (a := t) (k := 27) (x := ((sx_I σ t 27) + 1)) hk_t
    refine ym 147 (fun B k => z_aload_n B dX9_comes_146 rfl 2 rfl k) ?_
    refine ym 148 (fun B k => z_iconst (v := 0) B dX9_comes_147 (by decide) k) ?_
    refine ymw (σ' := (wx_I (wx_I σ t 27 ((sx_I σ t 27) + 1)) t 38 0)) 151 e_I (fun B hin k => pf_X9_137 (x := 0) B hk_t rfl dX9_comes_148 k) ?_
    have hT := TS_I (k := 38) (x := 0) hT hk_t (Or.inl rfl)
    have hk_t := kk_I (σ := (wx_I σ t 27 ((sx_I σ t 27) + 1))) (a := t) (k := 38) (x := 0) hk_t
    refine ym 152 (fun B k => z_iload_n B dX9_comes_151 rfl 4 rfl k) ?_
    refine ym 154 (fun B k => z_bipush (v := 6) B dX9_comes_152 (by decide) k) ?_
    by_cases c2 : x2 = 6
    · replace h := ite_p c2 h
      refine ym 157 (fun B k => z_icmp_ne (tgt := 267) B dX9_comes_154 (by decide) (fun q => absurd c2 q) (fun _ => k)) ?_
      refine ym 158 (fun B k => z_aload_n B dX9_comes_157 rfl 2 rfl k) ?_
      replace h := qv_e h
      obtain ⟨w3, e_w3, h⟩ := h
      have hq_w3 : rk (wx_I (wx_I σ t 27 ((sx_I σ t 27) + 1)) t 38 0) w3 13 := rk_T hT hk_t rfl (by decide) ((rR_I (rR_I rfl)).trans e_w3)
      refine ym 161 (fun B k => gf_X9_75 (x := w3) B hk_t ((rR_I (rR_I rfl)).trans e_w3) dX9_comes_158 k) ?_
      refine ym 162 (fun B k => z_aload_n B dX9_comes_161 rfl 2 rfl k) ?_
      refine ym 165 (fun B k => gf_X9_140 (x := (sx_I σ t 39)) B hk_t (rI_n (by decide) (rI_n (by decide) rfl)) dX9_comes_162 k) ?_
      refine ym 166 (fun B k => z_lload_n B dX9_comes_165 rfl 5 rfl k) ?_
      refine ym 169 (fun B k => z_ldc2 (v := 100) B dX9_comes_166 wg_1234 k) ?_
      refine ym 170 (fun B k => z_ldiv B dX9_comes_169 (by decide) k) ?_
      refine ym 171 (fun B k => z_l2i (v := (x3 / 100).toInt32) B dX9_comes_170 rfl k) ?_
      replace h := bq_e h
      obtain ⟨a4, rfl, h⟩ := h
      have hk_a4 := hq_w3 a4 rfl
      replace h := ck_e h
      obtain ⟨hi_5, h⟩ := h
      refine ymw (σ' := (wx_I (wx_I (wx_I σ t 27 ((sx_I σ t 27) + 1)) t 38 0) a4 (ti (sx_I σ t 39)) ((x3 / 100).toInt32))) 172 e_I (fun B _ k => z_iast (j := (ti (sx_I σ t 39))) B hk_a4 rfl hi_5 rfl dX9_comes_171 k) ?_
      have hT := TS_I (k := (ti (sx_I σ t 39))) (x := ((x3 / 100).toInt32)) hT hk_a4 (Or.inl rfl)
      have hk_t := kk_I (σ := (wx_I (wx_I σ t 27 ((sx_I σ t 27) + 1)) t 38 0)) (a := a4) (k := (ti (sx_I σ t 39))) (x := ((x3 / 100).toInt32)) hk_t
      refine ym 173 (fun B k => z_aload_n B dX9_comes_172 rfl 2 rfl k) ?_
      replace h := qv_e h
      obtain ⟨w6, e_w6, h⟩ := h
      have hq_w6 : rk (wx_I (wx_I (wx_I σ t 27 ((sx_I σ t 27) + 1)) t 38 0) a4 (ti (sx_I σ t 39)) ((x3 / 100).toInt32)) w6 13 := rk_T hT hk_t rfl (by decide) ((rR_I (rR_I (rR_I rfl))).trans e_w6)
      refine ym 176 (fun B k => gf_X9_78 (x := w6) B hk_t ((rR_I (rR_I (rR_I rfl))).trans e_w6) dX9_comes_173 k) ?_
      refine ym 177 (fun B k => z_aload_n B dX9_comes_176 rfl 2 rfl k) ?_
      refine ym 180 (fun B k => gf_X9_140 (x := (sx_I σ t 39)) B hk_t (rI_k (by decide) hk_a4 hk_t (rI_n (by decide) (rI_n (by decide) rfl))) dX9_comes_177 k) ?_
      refine ym 181 (fun B k => z_lload_n B dX9_comes_180 rfl 5 rfl k) ?_
      refine ym 184 (fun B k => z_ldc2 (v := 100) B dX9_comes_181 wg_1234 k) ?_
      refine ym 185 (fun B k => z_lrem B dX9_comes_184 (by decide) k) ?_
      refine ym 186 (fun B k => z_l2i (v := (jreml x3 100).toInt32) B dX9_comes_185 rfl k) ?_
      replace h := bq_e h
      obtain ⟨a7, rfl, h⟩ := h
      have hk_a7 := hq_w6 a7 rfl
      replace h := ck_e h
      obtain ⟨hi_8, h⟩ := h
      refine ymw (σ' := (wx_I (wx_I (wx_I (wx_I σ t 27 ((sx_I σ t 27) + 1)) t 38 0) a4 (ti (sx_I σ t 39)) ((x3 / 100).toInt32)) a7 (ti (sx_I σ t 39)) ((jreml x3 100).toInt32))) 187 e_I (fun B _ k => z_iast (j := (ti (sx_I σ t 39))) B hk_a7 rfl hi_8 rfl dX9_comes_186 k) ?_
      have hT := TS_I (k := (ti (sx_I σ t 39))) (x := ((jreml x3 100).toInt32)) hT hk_a7 (Or.inl rfl)
      have hk_t := kk_I (σ := (wx_I (wx_I (wx_I σ t 27 ((sx_I σ t 27) + 1)) t 38 0) a4 (ti (sx_I σ t 39)) ((x3 / 100).toInt32))) (a := a7) (k := (ti (sx_I σ t 39))) (x := ((jreml x3 100).toInt32)) hk_t
      refine ym 188 (fun B k => z_aload_n B dX9_comes_187 rfl 2 rfl k) ?_
      refine ym 189 (fun B k => z_dup B dX9_comes_188 rfl k) ?_
      refine ym 192 (fun B k => gf_X9_140 (x := (sx_I σ t 39)) B hk_t (rI_k (by decide) hk_a7 hk_t (rI_k (by decide) hk_a4 hk_t (rI_n (by decide) (rI_n (by decide) rfl)))) dX9_comes_189 k) ?_
      refine ym 193 (fun B k => z_iconst (v := 1) B dX9_comes_192 (by decide) k) ?_
      refine ym 194 (fun B k => z_iadd B dX9_comes_193 k) ?_
      refine ymw (σ' := (wx_I (wx_I (wx_I (wx_I (wx_I σ t 27 ((sx_I σ t 27) + 1)) t 38 0) a4 (ti (sx_I σ t 39)) ((x3 / 100).toInt32)) a7 (ti (sx_I σ t 39)) ((jreml x3 100).toInt32)) t 39 ((sx_I σ t 39) + 1))) 197 e_I (fun B hin k => pf_X9_140 (x := ((sx_I σ t 39) + 1)) B hk_t rfl dX9_comes_194 k) ?_
      have hT := TS_I (k := 39) (x := ((sx_I σ t 39) + 1)) hT hk_t (Or.inl rfl)
      have hk_t := kk_I (σ := (wx_I (wx_I (wx_I (wx_I σ t 27 ((sx_I σ t 27) + 1)) t 38 0) a4 (ti (sx_I σ t 39)) ((x3 / 100).toInt32)) a7 (ti (sx_I σ t 39)) ((jreml x3 100).toInt32))) (a := t) (k := 39) (x := ((sx_I σ t 39) + 1)) hk_t
      refine ym 198 (fun B k => z_aload_n B dX9_comes_197 rfl 2 rfl k) ?_
      refine ym 201 (fun B k => gf_X9_116 (x := (sx_I σ t 30)) B hk_t (rI_n (by decide) (rI_k (by decide) hk_a7 hk_t (rI_k (by decide) hk_a4 hk_t (rI_n (by decide) (rI_n (by decide) rfl))))) dX9_comes_198 k) ?_
      refine ym 202 (fun B k => z_iconst (v := 3) B dX9_comes_201 (by decide) k) ?_
      by_cases c9 : (sx_I σ t 30) = 3
      · replace h := ite_p c9 h
        refine ym 213 (fun B k => z_icmp_eq (tgt := 213) B dX9_comes_202 (by decide) (fun _ => k) (fun q => absurd c9 q)) ?_
        refine y_sub [(0, .ref t), (3, .long x3)] [2, 5] rfl ?_
        exact tb_X9_comes_213 h hT hk_t
      · replace h := ite_n c9 h
        refine ym 205 (fun B k => z_icmp_eq (tgt := 213) B dX9_comes_202 (by decide) (fun q => absurd q c9) (fun _ => k)) ?_
        refine ym 206 (fun B k => z_aload_n B dX9_comes_205 rfl 2 rfl k) ?_
        refine ym 209 (fun B k => gf_X9_116 (x := (sx_I σ t 30)) B hk_t (rI_n (by decide) (rI_k (by decide) hk_a7 hk_t (rI_k (by decide) hk_a4 hk_t (rI_n (by decide) (rI_n (by decide) rfl))))) dX9_comes_206 k) ?_
        refine ym 210 (fun B k => z_iconst (v := 4) B dX9_comes_209 (by decide) k) ?_
        by_cases c10 : (sx_I σ t 30) = 4
        · replace h := ite_p c10 h
          refine ym 213 (fun B k => z_icmp_ne (tgt := 523) B dX9_comes_210 (by decide) (fun q => absurd c10 q) (fun _ => k)) ?_
          refine y_sub [(0, .ref t), (3, .long x3)] [2, 5] rfl ?_
          exact tb_X9_comes_213 h hT hk_t
        · replace h := ite_n c10 h
          refine ym 523 (fun B k => z_icmp_ne (tgt := 523) B dX9_comes_210 (by decide) (fun _ => k) (fun q => absurd q c10)) ?_
          obtain rfl := Option.some.inj h
          exact yr_v hT trivial rfl dX9_comes_523
    · replace h := ite_n c2 h
      refine ym 267 (fun B k => z_icmp_ne (tgt := 267) B dX9_comes_154 (by decide) (fun _ => k) (fun q => absurd q c2)) ?_
      refine ym 268 (fun B k => z_iload_n B dX9_comes_267 rfl 4 rfl k) ?_
      refine ym 270 (fun B k => z_bipush (v := 12) B dX9_comes_268 (by decide) k) ?_
      by_cases c11 : x2 = 12
      · replace h := ite_p c11 h
        refine ym 273 (fun B k => z_icmp_ne (tgt := 369) B dX9_comes_270 (by decide) (fun q => absurd c11 q) (fun _ => k)) ?_
        refine ym 274 (fun B k => z_aload_n B dX9_comes_273 rfl 2 rfl k) ?_
        refine ym 277 (fun B k => gf_X9_125 (x := (sx_I σ t 34)) B hk_t (rI_n (by decide) (rI_n (by decide) rfl)) dX9_comes_274 k) ?_
        by_cases c12 : (sx_I σ t 34) = 0
        · replace h := ite_p c12 h
          refine ym 288 (fun B k => z_if_eq (tgt := 288) B dX9_comes_277 (by decide) (fun _ => k) (fun q => absurd c12 q)) ?_
          refine ym 289 (fun B k => z_aload_n B dX9_comes_288 rfl 2 rfl k) ?_
          refine ym 292 (fun B k => gf_X9_131 (x := (sx_I σ t 36)) B hk_t (rI_n (by decide) (rI_n (by decide) rfl)) dX9_comes_289 k) ?_
          by_cases c13 : (sx_I σ t 36) = 0
          · replace h := ite_p c13 h
            refine ym 295 (fun B k => z_if_ne (tgt := 523) B dX9_comes_292 (by decide) (fun q => absurd c13 q) (fun _ => k)) ?_
            refine ym 296 (fun B k => z_aload_n B dX9_comes_295 rfl 2 rfl k) ?_
            refine ym 299 (fun B k => gf_X9_116 (x := (sx_I σ t 30)) B hk_t (rI_n (by decide) (rI_n (by decide) rfl)) dX9_comes_296 k) ?_
            refine ym 300 (fun B k => z_iconst (v := 5) B dX9_comes_299 (by decide) k) ?_
            by_cases c14 : (sx_I σ t 30) = 5
            · replace h := ite_p c14 h
              refine ym 303 (fun B k => z_icmp_ne (tgt := 356) B dX9_comes_300 (by decide) (fun q => absurd c14 q) (fun _ => k)) ?_
              refine ym 304 (fun B k => z_aload_n B dX9_comes_303 rfl 2 rfl k) ?_
              refine ym 307 (fun B k => gf_X9_156 (x := (sx_I σ t 47)) B hk_t (rI_n (by decide) (rI_n (by decide) rfl)) dX9_comes_304 k) ?_
              by_cases c15 : (sx_I σ t 47) = 0
              · replace h := ite_p c15 h
                refine ym 356 (fun B k => z_if_eq (tgt := 356) B dX9_comes_307 (by decide) (fun _ => k) (fun q => absurd c15 q)) ?_
                refine y_sub [(0, .ref t)] [2] rfl ?_
                exact tb_X9_comes_356 h hT hk_t
              · replace h := ite_n c15 h
                refine ym 310 (fun B k => z_if_eq (tgt := 356) B dX9_comes_307 (by decide) (fun q => absurd q c15) (fun _ => k)) ?_
                refine ym 311 (fun B k => z_aload_n B dX9_comes_310 rfl 2 rfl k) ?_
                refine ym 314 (fun B k => gf_X9_107 (x := ((sx_I σ t 27) + 1)) B hk_t (rI_n (by decide) rI_s) dX9_comes_311 k) ?_
                refine ym 315 (fun B k => z_aload_n B dX9_comes_314 rfl 2 rfl k) ?_
                replace h := qv_e h
                obtain ⟨w16, e_w16, h⟩ := h
                have hq_w16 : rk (wx_I (wx_I σ t 27 ((sx_I σ t 27) + 1)) t 38 0) w16 13 := rk_T hT hk_t rfl (by decide) ((rR_I (rR_I rfl)).trans e_w16)
                refine ym 318 (fun B k => gf_X9_38 (x := w16) B hk_t ((rR_I (rR_I rfl)).trans e_w16) dX9_comes_315 k) ?_
                refine ym 319 (fun B k => z_iload_n B dX9_comes_318 rfl 3 rfl k) ?_
                replace h := bq_e h
                obtain ⟨a17, rfl, h⟩ := h
                have hk_a17 := hq_w16 a17 rfl
                replace h := ck_e h
                obtain ⟨hi_18, h⟩ := h
                refine ym 320 (fun B k => z_iald (j := (ti x1)) (x := (sx_I σ a17 (ti x1))) B hk_a17 rfl hi_18 (rI_k (by decide) hk_t hk_a17 (rI_k (by decide) hk_t hk_a17 rfl)) dX9_comes_319 k) ?_
                by_cases c19 : ((sx_I σ t 27) + 1) ≤ (sx_I σ a17 (ti x1))
                · replace h := ite_p c19 h
                  refine ym 356 (fun B k => z_icmp_le (tgt := 356) B dX9_comes_320 (by decide) (fun _ => k) (fun q => absurd c19 q)) ?_
                  refine y_sub [(0, .ref t)] [2] rfl ?_
                  exact tb_X9_comes_356 h hT hk_t
                · replace h := ite_n c19 h
                  refine ym 323 (fun B k => z_icmp_le (tgt := 356) B dX9_comes_320 (by decide) (fun q => absurd q c19) (fun _ => k)) ?_
                  refine ym 324 (fun B k => z_aload_n B dX9_comes_323 rfl 2 rfl k) ?_
                  replace h := qv_e h
                  obtain ⟨w20, e_w20, h⟩ := h
                  have hq_w20 : rk (wx_I (wx_I σ t 27 ((sx_I σ t 27) + 1)) t 38 0) w20 13 := rk_T hT hk_t rfl (by decide) ((rR_I (rR_I rfl)).trans e_w20)
                  refine ym 327 (fun B k => gf_X9_38 (x := w20) B hk_t ((rR_I (rR_I rfl)).trans e_w20) dX9_comes_324 k) ?_
                  refine ym 328 (fun B k => z_iload_n B dX9_comes_327 rfl 3 rfl k) ?_
                  refine ym 329 (fun B k => z_aload_n B dX9_comes_328 rfl 2 rfl k) ?_
                  refine ym 332 (fun B k => gf_X9_107 (x := ((sx_I σ t 27) + 1)) B hk_t (rI_n (by decide) rI_s) dX9_comes_329 k) ?_
                  replace h := bq_e h
                  obtain ⟨a21, rfl, h⟩ := h
                  have hk_a21 := hq_w20 a21 rfl
                  replace h := ck_e h
                  obtain ⟨hi_22, h⟩ := h
                  refine ymw (σ' := (wx_I (wx_I (wx_I σ t 27 ((sx_I σ t 27) + 1)) t 38 0) a21 (ti x1) ((sx_I σ t 27) + 1))) 333 e_I (fun B _ k => z_iast (j := (ti x1)) B hk_a21 rfl hi_22 rfl dX9_comes_332 k) ?_
                  have hT := TS_I (k := (ti x1)) (x := ((sx_I σ t 27) + 1)) hT hk_a21 (Or.inl rfl)
                  have hk_t := kk_I (σ := (wx_I (wx_I σ t 27 ((sx_I σ t 27) + 1)) t 38 0)) (a := a21) (k := (ti x1)) (x := ((sx_I σ t 27) + 1)) hk_t
                  refine ym 334 (fun B k => z_aload_n B dX9_comes_333 rfl 2 rfl k) ?_
                  replace h := qv_e h
                  obtain ⟨w23, e_w23, h⟩ := h
                  have hq_w23 : rk (wx_I (wx_I (wx_I σ t 27 ((sx_I σ t 27) + 1)) t 38 0) a21 (ti x1) ((sx_I σ t 27) + 1)) w23 13 := rk_T hT hk_t rfl (by decide) ((rR_I (rR_I (rR_I rfl))).trans e_w23)
                  refine ym 337 (fun B k => gf_X9_87 (x := w23) B hk_t ((rR_I (rR_I (rR_I rfl))).trans e_w23) dX9_comes_334 k) ?_
                  refine ym 338 (fun B k => z_aload_n B dX9_comes_337 rfl 2 rfl k) ?_
                  refine ym 341 (fun B k => gf_X9_159 (x := (sx_I σ t 45)) B hk_t (rI_k (by decide) hk_a21 hk_t (rI_n (by decide) (rI_n (by decide) rfl))) dX9_comes_338 k) ?_
                  refine ym 342 (fun B k => z_aload_n B dX9_comes_341 rfl 2 rfl k) ?_
                  refine ym 345 (fun B k => gf_X9_119 (x := (sx_I σ t 31)) B hk_t (rI_k (by decide) hk_a21 hk_t (rI_n (by decide) (rI_n (by decide) rfl))) dX9_comes_342 k) ?_
                  replace h := bq_e h
                  obtain ⟨a24, rfl, h⟩ := h
                  have hk_a24 := hq_w23 a24 rfl
                  replace h := ck_e h
                  obtain ⟨hi_25, h⟩ := h
                  refine ymw (σ' := (wx_I (wx_I (wx_I (wx_I σ t 27 ((sx_I σ t 27) + 1)) t 38 0) a21 (ti x1) ((sx_I σ t 27) + 1)) a24 (ti (sx_I σ t 45)) (sx_I σ t 31))) 346 e_I (fun B _ k => z_iast (j := (ti (sx_I σ t 45))) B hk_a24 rfl hi_25 rfl dX9_comes_345 k) ?_
                  have hT := TS_I (k := (ti (sx_I σ t 45))) (x := (sx_I σ t 31)) hT hk_a24 (Or.inl rfl)
                  have hk_t := kk_I (σ := (wx_I (wx_I (wx_I σ t 27 ((sx_I σ t 27) + 1)) t 38 0) a21 (ti x1) ((sx_I σ t 27) + 1))) (a := a24) (k := (ti (sx_I σ t 45))) (x := (sx_I σ t 31)) hk_t
                  refine ym 347 (fun B k => z_aload_n B dX9_comes_346 rfl 2 rfl k) ?_
                  refine ym 348 (fun B k => z_dup B dX9_comes_347 rfl k) ?_
                  refine ym 351 (fun B k => gf_X9_159 (x := (sx_I σ t 45)) B hk_t (rI_k (by decide) hk_a24 hk_t (rI_k (by decide) hk_a21 hk_t (rI_n (by decide) (rI_n (by decide) rfl)))) dX9_comes_348 k) ?_
                  refine ym 352 (fun B k => z_iconst (v := 1) B dX9_comes_351 (by decide) k) ?_
                  refine ym 353 (fun B k => z_iadd B dX9_comes_352 k) ?_
                  refine ymw (σ' := (wx_I (wx_I (wx_I (wx_I (wx_I σ t 27 ((sx_I σ t 27) + 1)) t 38 0) a21 (ti x1) ((sx_I σ t 27) + 1)) a24 (ti (sx_I σ t 45)) (sx_I σ t 31)) t 45 ((sx_I σ t 45) + 1))) 356 e_I (fun B hin k => pf_X9_159 (x := ((sx_I σ t 45) + 1)) B hk_t rfl dX9_comes_353 k) ?_
                  have hT := TS_I (k := 45) (x := ((sx_I σ t 45) + 1)) hT hk_t (Or.inl rfl)
                  have hk_t := kk_I (σ := (wx_I (wx_I (wx_I (wx_I σ t 27 ((sx_I σ t 27) + 1)) t 38 0) a21 (ti x1) ((sx_I σ t 27) + 1)) a24 (ti (sx_I σ t 45)) (sx_I σ t 31))) (a := t) (k := 45) (x := ((sx_I σ t 45) + 1)) hk_t
                  refine y_sub [(0, .ref t)] [2] rfl ?_
                  exact tb_X9_comes_356 h hT hk_t
            · replace h := ite_n c14 h
              refine ym 356 (fun B k => z_icmp_ne (tgt := 356) B dX9_comes_300 (by decide) (fun _ => k) (fun q => absurd q c14)) ?_
              refine y_sub [(0, .ref t)] [2] rfl ?_
              exact tb_X9_comes_356 h hT hk_t
          · replace h := ite_n c13 h
            refine ym 523 (fun B k => z_if_ne (tgt := 523) B dX9_comes_292 (by decide) (fun _ => k) (fun q => absurd q c13)) ?_
            obtain rfl := Option.some.inj h
            exact yr_v hT trivial rfl dX9_comes_523
        · replace h := ite_n c12 h
          refine ym 280 (fun B k => z_if_eq (tgt := 288) B dX9_comes_277 (by decide) (fun q => absurd q c12) (fun _ => k)) ?_
          refine ym 281 (fun B k => z_aload_n B dX9_comes_280 rfl 2 rfl k) ?_
          refine ym 282 (fun B k => z_iconst (v := 1) B dX9_comes_281 (by decide) k) ?_
          refine ymw (σ' := (wx_I (wx_I (wx_I σ t 27 ((sx_I σ t 27) + 1)) t 38 0) t 35 1)) 285 e_I (fun B hin k => pf_X9_128 (x := 1) B (Or.inr rfl) hk_t rfl dX9_comes_282 k) ?_
          have hT := TS_I (k := 35) (x := 1) hT hk_t (Or.inr (Or.inr rfl))
          have hk_t := kk_I (σ := (wx_I (wx_I σ t 27 ((sx_I σ t 27) + 1)) t 38 0)) (a := t) (k := 35) (x := 1) hk_t
          refine ym 523 (fun B k => z_goto (tgt := 523) B dX9_comes_285 (by decide) k) ?_
          obtain rfl := Option.some.inj h
          exact yr_v hT trivial rfl dX9_comes_523
      · replace h := ite_n c11 h
        refine ym 369 (fun B k => z_icmp_ne (tgt := 369) B dX9_comes_270 (by decide) (fun _ => k) (fun q => absurd q c11)) ?_
        refine ym 370 (fun B k => z_aload_n B dX9_comes_369 rfl 2 rfl k) ?_
        refine ym 371 (fun B k => z_iload_n B dX9_comes_370 rfl 4 rfl k) ?_
        refine ym 372 (fun B k => z_iconst (v := 2) B dX9_comes_371 (by decide) k) ?_
        by_cases c26 : x2 = 2
        · replace h := ite_p c26 h
          refine ym 375 (fun B k => z_icmp_ne (tgt := 388) B dX9_comes_372 (by decide) (fun q => absurd c26 q) (fun _ => k)) ?_
          refine ym 376 (fun B k => z_aload_n B dX9_comes_375 rfl 2 rfl k) ?_
          refine ym 379 (fun B k => gf_X9_116 (x := (sx_I σ t 30)) B hk_t (rI_n (by decide) (rI_n (by decide) rfl)) dX9_comes_376 k) ?_
          refine ym 380 (fun B k => z_iconst (v := 1) B dX9_comes_379 (by decide) k) ?_
          by_cases c27 : (sx_I σ t 30) = 1
          · replace h := ite_p c27 h
            refine ym 383 (fun B k => z_icmp_ne (tgt := 388) B dX9_comes_380 (by decide) (fun q => absurd c27 q) (fun _ => k)) ?_
            refine ym 384 (fun B k => z_lload_n B dX9_comes_383 rfl 5 rfl k) ?_
            refine ym 385 (fun B k => z_l2i (v := x3.toInt32) B dX9_comes_384 rfl k) ?_
            refine ym 409 (fun B k => z_goto (tgt := 409) B dX9_comes_385 (by decide) k) ?_
            refine y_sub [(0, .ref t), (2, .int x2), (3, .long x3)] [2, 4, 5] rfl ?_
            exact tb_X9_comes_409 h hT hk_t
          · replace h := ite_n c27 h
            refine ym 388 (fun B k => z_icmp_ne (tgt := 388) B dX9_comes_380 (by decide) (fun _ => k) (fun q => absurd q c27)) ?_
            refine y_sub [(0, .ref t), (2, .int x2), (3, .long x3)] [2, 4, 5] rfl ?_
            exact tb_X9_comes_388 h hT hk_t
        · replace h := ite_n c26 h
          refine ym 388 (fun B k => z_icmp_ne (tgt := 388) B dX9_comes_372 (by decide) (fun _ => k) (fun q => absurd q c26)) ?_
          refine y_sub [(0, .ref t), (2, .int x2), (3, .long x3)] [2, 4, 5] rfl ?_
          exact tb_X9_comes_388 h hT hk_t
  · replace h := ite_n c1 h
    refine ym 62 (fun B k => z_icmp_eq (tgt := 118) B dX9_comes_59 (by decide) (fun q => absurd q c1) (fun _ => k)) ?_
    refine ym 63 (fun B k => z_iload_n B dX9_comes_62 rfl 3 rfl k) ?_
    refine ym 65 (fun B k => z_bipush (v := 12) B dX9_comes_63 (by decide) k) ?_
    by_cases c28 : x2 = 12
    · replace h := ite_p c28 h
      refine ym 118 (fun B k => z_icmp_eq (tgt := 118) B dX9_comes_65 (by decide) (fun _ => k) (fun q => absurd c28 q)) ?_
      refine ym 119 (fun B k => z_iconst (v := 1) B dX9_comes_118 (by decide) k) ?_
      refine ym 123 (fun B k => z_goto (tgt := 123) B dX9_comes_119 (by decide) k) ?_
      refine ym 125 (fun B k => z_istore (lv' := [(6, .int 1), (5, .int y0), (0, .ref t), (1, .int x1), (2, .int x2), (3, .long x3)]) B dX9_comes_123 (by decide) rfl k) ?_
      refine ym 127 (fun B k => z_iload B dX9_comes_125 0 rfl k) ?_
      refine ym 136 (fun B k => z_if_ne (tgt := 136) B dX9_comes_127 (by decide) (fun _ => k) (fun q => absurd q (by decide))) ?_
      refine ym 137 (fun B k => z_aload_n B dX9_comes_136 rfl 2 rfl k) ?_
      refine ym 138 (fun B k => z_dup B dX9_comes_137 rfl k) ?_
      refine ym 141 (fun B k => gf_X9_107 (x := (sx_I σ t 27)) B hk_t rfl dX9_comes_138 k) ?_
      refine ym 142 (fun B k => z_iconst (v := 1) B dX9_comes_141 (by decide) k) ?_
      refine ym 143 (fun B k => z_iadd B dX9_comes_142 k) ?_
      refine ymw (σ' := (wx_I σ t 27 ((sx_I σ t 27) + 1))) 146 e_I (fun B hin k => pf_X9_107 (x := ((sx_I σ t 27) + 1)) B hk_t rfl dX9_comes_143 k) ?_
      have hT := TS_I (k := 27) (x := ((sx_I σ t 27) + 1)) hT hk_t (Or.inl rfl)
      have hk_t := kk_I (σ := σ) (a := t) (k := 27) (x := ((sx_I σ t 27) + 1)) hk_t
      refine ym 147 (fun B k => z_aload_n B dX9_comes_146 rfl 2 rfl k) ?_
      refine ym 148 (fun B k => z_iconst (v := 0) B dX9_comes_147 (by decide) k) ?_
      refine ymw (σ' := (wx_I (wx_I σ t 27 ((sx_I σ t 27) + 1)) t 38 0)) 151 e_I (fun B hin k => pf_X9_137 (x := 0) B hk_t rfl dX9_comes_148 k) ?_
      have hT := TS_I (k := 38) (x := 0) hT hk_t (Or.inl rfl)
      have hk_t := kk_I (σ := (wx_I σ t 27 ((sx_I σ t 27) + 1))) (a := t) (k := 38) (x := 0) hk_t
      refine ym 152 (fun B k => z_iload_n B dX9_comes_151 rfl 4 rfl k) ?_
      refine ym 154 (fun B k => z_bipush (v := 6) B dX9_comes_152 (by decide) k) ?_
      by_cases c29 : x2 = 6
      · replace h := ite_p c29 h
        refine ym 157 (fun B k => z_icmp_ne (tgt := 267) B dX9_comes_154 (by decide) (fun q => absurd c29 q) (fun _ => k)) ?_
        refine ym 158 (fun B k => z_aload_n B dX9_comes_157 rfl 2 rfl k) ?_
        replace h := qv_e h
        obtain ⟨w30, e_w30, h⟩ := h
        have hq_w30 : rk (wx_I (wx_I σ t 27 ((sx_I σ t 27) + 1)) t 38 0) w30 13 := rk_T hT hk_t rfl (by decide) ((rR_I (rR_I rfl)).trans e_w30)
        refine ym 161 (fun B k => gf_X9_75 (x := w30) B hk_t ((rR_I (rR_I rfl)).trans e_w30) dX9_comes_158 k) ?_
        refine ym 162 (fun B k => z_aload_n B dX9_comes_161 rfl 2 rfl k) ?_
        refine ym 165 (fun B k => gf_X9_140 (x := (sx_I σ t 39)) B hk_t (rI_n (by decide) (rI_n (by decide) rfl)) dX9_comes_162 k) ?_
        refine ym 166 (fun B k => z_lload_n B dX9_comes_165 rfl 5 rfl k) ?_
        refine ym 169 (fun B k => z_ldc2 (v := 100) B dX9_comes_166 wg_1234 k) ?_
        refine ym 170 (fun B k => z_ldiv B dX9_comes_169 (by decide) k) ?_
        refine ym 171 (fun B k => z_l2i (v := (x3 / 100).toInt32) B dX9_comes_170 rfl k) ?_
        replace h := bq_e h
        obtain ⟨a31, rfl, h⟩ := h
        have hk_a31 := hq_w30 a31 rfl
        replace h := ck_e h
        obtain ⟨hi_32, h⟩ := h
        refine ymw (σ' := (wx_I (wx_I (wx_I σ t 27 ((sx_I σ t 27) + 1)) t 38 0) a31 (ti (sx_I σ t 39)) ((x3 / 100).toInt32))) 172 e_I (fun B _ k => z_iast (j := (ti (sx_I σ t 39))) B hk_a31 rfl hi_32 rfl dX9_comes_171 k) ?_
        have hT := TS_I (k := (ti (sx_I σ t 39))) (x := ((x3 / 100).toInt32)) hT hk_a31 (Or.inl rfl)
        have hk_t := kk_I (σ := (wx_I (wx_I σ t 27 ((sx_I σ t 27) + 1)) t 38 0)) (a := a31) (k := (ti (sx_I σ t 39))) (x := ((x3 / 100).toInt32)) hk_t
        refine ym 173 (fun B k => z_aload_n B dX9_comes_172 rfl 2 rfl k) ?_
        replace h := qv_e h
        obtain ⟨w33, e_w33, h⟩ := h
        have hq_w33 : rk (wx_I (wx_I (wx_I σ t 27 ((sx_I σ t 27) + 1)) t 38 0) a31 (ti (sx_I σ t 39)) ((x3 / 100).toInt32)) w33 13 := rk_T hT hk_t rfl (by decide) ((rR_I (rR_I (rR_I rfl))).trans e_w33)
        refine ym 176 (fun B k => gf_X9_78 (x := w33) B hk_t ((rR_I (rR_I (rR_I rfl))).trans e_w33) dX9_comes_173 k) ?_
        refine ym 177 (fun B k => z_aload_n B dX9_comes_176 rfl 2 rfl k) ?_
        refine ym 180 (fun B k => gf_X9_140 (x := (sx_I σ t 39)) B hk_t (rI_k (by decide) hk_a31 hk_t (rI_n (by decide) (rI_n (by decide) rfl))) dX9_comes_177 k) ?_
        refine ym 181 (fun B k => z_lload_n B dX9_comes_180 rfl 5 rfl k) ?_
        refine ym 184 (fun B k => z_ldc2 (v := 100) B dX9_comes_181 wg_1234 k) ?_
        refine ym 185 (fun B k => z_lrem B dX9_comes_184 (by decide) k) ?_
        refine ym 186 (fun B k => z_l2i (v := (jreml x3 100).toInt32) B dX9_comes_185 rfl k) ?_
        replace h := bq_e h
        obtain ⟨a34, rfl, h⟩ := h
        have hk_a34 := hq_w33 a34 rfl
        replace h := ck_e h
        obtain ⟨hi_35, h⟩ := h
        refine ymw (σ' := (wx_I (wx_I (wx_I (wx_I σ t 27 ((sx_I σ t 27) + 1)) t 38 0) a31 (ti (sx_I σ t 39)) ((x3 / 100).toInt32)) a34 (ti (sx_I σ t 39)) ((jreml x3 100).toInt32))) 187 e_I (fun B _ k => z_iast (j := (ti (sx_I σ t 39))) B hk_a34 rfl hi_35 rfl dX9_comes_186 k) ?_
        have hT := TS_I (k := (ti (sx_I σ t 39))) (x := ((jreml x3 100).toInt32)) hT hk_a34 (Or.inl rfl)
        have hk_t := kk_I (σ := (wx_I (wx_I (wx_I σ t 27 ((sx_I σ t 27) + 1)) t 38 0) a31 (ti (sx_I σ t 39)) ((x3 / 100).toInt32))) (a := a34) (k := (ti (sx_I σ t 39))) (x := ((jreml x3 100).toInt32)) hk_t
        refine ym 188 (fun B k => z_aload_n B dX9_comes_187 rfl 2 rfl k) ?_
        refine ym 189 (fun B k => z_dup B dX9_comes_188 rfl k) ?_
        refine ym 192 (fun B k => gf_X9_140 (x := (sx_I σ t 39)) B hk_t (rI_k (by decide) hk_a34 hk_t (rI_k (by decide) hk_a31 hk_t (rI_n (by decide) (rI_n (by decide) rfl)))) dX9_comes_189 k) ?_
        refine ym 193 (fun B k => z_iconst (v := 1) B dX9_comes_192 (by decide) k) ?_
        refine ym 194 (fun B k => z_iadd B dX9_comes_193 k) ?_
        refine ymw (σ' := (wx_I (wx_I (wx_I (wx_I (wx_I σ t 27 ((sx_I σ t 27) + 1)) t 38 0) a31 (ti (sx_I σ t 39)) ((x3 / 100).toInt32)) a34 (ti (sx_I σ t 39)) ((jreml x3 100).toInt32)) t 39 ((sx_I σ t 39) + 1))) 197 e_I (fun B hin k => pf_X9_140 (x := ((sx_I σ t 39) + 1)) B hk_t rfl dX9_comes_194 k) ?_
        have hT := TS_I (k := 39) (x := ((sx_I σ t 39) + 1)) hT hk_t (Or.inl rfl)
        have hk_t := kk_I (σ := (wx_I (wx_I (wx_I (wx_I σ t 27 ((sx_I σ t 27) + 1)) t 38 0) a31 (ti (sx_I σ t 39)) ((x3 / 100).toInt32)) a34 (ti (sx_I σ t 39)) ((jreml x3 100).toInt32))) (a := t) (k := 39) (x := ((sx_I σ t 39) + 1)) hk_t
        refine ym 198 (fun B k => z_aload_n B dX9_comes_197 rfl 2 rfl k) ?_
        refine ym 201 (fun B k => gf_X9_116 (x := (sx_I σ t 30)) B hk_t (rI_n (by decide) (rI_k (by decide) hk_a34 hk_t (rI_k (by decide) hk_a31 hk_t (rI_n (by decide) (rI_n (by decide) rfl))))) dX9_comes_198 k) ?_
        refine ym 202 (fun B k => z_iconst (v := 3) B dX9_comes_201 (by decide) k) ?_
        by_cases c36 : (sx_I σ t 30) = 3
        · replace h := ite_p c36 h
          refine ym 213 (fun B k => z_icmp_eq (tgt := 213) B dX9_comes_202 (by decide) (fun _ => k) (fun q => absurd c36 q)) ?_
          refine y_sub [(0, .ref t), (3, .long x3)] [2, 5] rfl ?_
          exact tb_X9_comes_213 h hT hk_t
        · replace h := ite_n c36 h
          refine ym 205 (fun B k => z_icmp_eq (tgt := 213) B dX9_comes_202 (by decide) (fun q => absurd q c36) (fun _ => k)) ?_
          refine ym 206 (fun B k => z_aload_n B dX9_comes_205 rfl 2 rfl k) ?_
          refine ym 209 (fun B k => gf_X9_116 (x := (sx_I σ t 30)) B hk_t (rI_n (by decide) (rI_k (by decide) hk_a34 hk_t (rI_k (by decide) hk_a31 hk_t (rI_n (by decide) (rI_n (by decide) rfl))))) dX9_comes_206 k) ?_
          refine ym 210 (fun B k => z_iconst (v := 4) B dX9_comes_209 (by decide) k) ?_
          by_cases c37 : (sx_I σ t 30) = 4
          · replace h := ite_p c37 h
            refine ym 213 (fun B k => z_icmp_ne (tgt := 523) B dX9_comes_210 (by decide) (fun q => absurd c37 q) (fun _ => k)) ?_
            refine y_sub [(0, .ref t), (3, .long x3)] [2, 5] rfl ?_
            exact tb_X9_comes_213 h hT hk_t
          · replace h := ite_n c37 h
            refine ym 523 (fun B k => z_icmp_ne (tgt := 523) B dX9_comes_210 (by decide) (fun _ => k) (fun q => absurd q c37)) ?_
            obtain rfl := Option.some.inj h
            exact yr_v hT trivial rfl dX9_comes_523
      · replace h := ite_n c29 h
        refine ym 267 (fun B k => z_icmp_ne (tgt := 267) B dX9_comes_154 (by decide) (fun _ => k) (fun q => absurd q c29)) ?_
        refine ym 268 (fun B k => z_iload_n B dX9_comes_267 rfl 4 rfl k) ?_
        refine ym 270 (fun B k => z_bipush (v := 12) B dX9_comes_268 (by decide) k) ?_
        by_cases c38 : x2 = 12
        · replace h := ite_p c38 h
          refine ym 273 (fun B k => z_icmp_ne (tgt := 369) B dX9_comes_270 (by decide) (fun q => absurd c38 q) (fun _ => k)) ?_
          refine ym 274 (fun B k => z_aload_n B dX9_comes_273 rfl 2 rfl k) ?_
          refine ym 277 (fun B k => gf_X9_125 (x := (sx_I σ t 34)) B hk_t (rI_n (by decide) (rI_n (by decide) rfl)) dX9_comes_274 k) ?_
          by_cases c39 : (sx_I σ t 34) = 0
          · replace h := ite_p c39 h
            refine ym 288 (fun B k => z_if_eq (tgt := 288) B dX9_comes_277 (by decide) (fun _ => k) (fun q => absurd c39 q)) ?_
            refine ym 289 (fun B k => z_aload_n B dX9_comes_288 rfl 2 rfl k) ?_
            refine ym 292 (fun B k => gf_X9_131 (x := (sx_I σ t 36)) B hk_t (rI_n (by decide) (rI_n (by decide) rfl)) dX9_comes_289 k) ?_
            by_cases c40 : (sx_I σ t 36) = 0
            · replace h := ite_p c40 h
              refine ym 295 (fun B k => z_if_ne (tgt := 523) B dX9_comes_292 (by decide) (fun q => absurd c40 q) (fun _ => k)) ?_
              refine ym 296 (fun B k => z_aload_n B dX9_comes_295 rfl 2 rfl k) ?_
              refine ym 299 (fun B k => gf_X9_116 (x := (sx_I σ t 30)) B hk_t (rI_n (by decide) (rI_n (by decide) rfl)) dX9_comes_296 k) ?_
              refine ym 300 (fun B k => z_iconst (v := 5) B dX9_comes_299 (by decide) k) ?_
              by_cases c41 : (sx_I σ t 30) = 5
              · replace h := ite_p c41 h
                refine ym 303 (fun B k => z_icmp_ne (tgt := 356) B dX9_comes_300 (by decide) (fun q => absurd c41 q) (fun _ => k)) ?_
                refine ym 304 (fun B k => z_aload_n B dX9_comes_303 rfl 2 rfl k) ?_
                refine ym 307 (fun B k => gf_X9_156 (x := (sx_I σ t 47)) B hk_t (rI_n (by decide) (rI_n (by decide) rfl)) dX9_comes_304 k) ?_
                by_cases c42 : (sx_I σ t 47) = 0
                · replace h := ite_p c42 h
                  refine ym 356 (fun B k => z_if_eq (tgt := 356) B dX9_comes_307 (by decide) (fun _ => k) (fun q => absurd c42 q)) ?_
                  refine y_sub [(0, .ref t)] [2] rfl ?_
                  exact tb_X9_comes_356 h hT hk_t
                · replace h := ite_n c42 h
                  refine ym 310 (fun B k => z_if_eq (tgt := 356) B dX9_comes_307 (by decide) (fun q => absurd q c42) (fun _ => k)) ?_
                  refine ym 311 (fun B k => z_aload_n B dX9_comes_310 rfl 2 rfl k) ?_
                  refine ym 314 (fun B k => gf_X9_107 (x := ((sx_I σ t 27) + 1)) B hk_t (rI_n (by decide) rI_s) dX9_comes_311 k) ?_
                  refine ym 315 (fun B k => z_aload_n B dX9_comes_314 rfl 2 rfl k) ?_
                  replace h := qv_e h
                  obtain ⟨w43, e_w43, h⟩ := h
                  have hq_w43 : rk (wx_I (wx_I σ t 27 ((sx_I σ t 27) + 1)) t 38 0) w43 13 := rk_T hT hk_t rfl (by decide) ((rR_I (rR_I rfl)).trans e_w43)
                  refine ym 318 (fun B k => gf_X9_38 (x := w43) B hk_t ((rR_I (rR_I rfl)).trans e_w43) dX9_comes_315 k) ?_
                  refine ym 319 (fun B k => z_iload_n B dX9_comes_318 rfl 3 rfl k) ?_
                  replace h := bq_e h
                  obtain ⟨a44, rfl, h⟩ := h
                  have hk_a44 := hq_w43 a44 rfl
                  replace h := ck_e h
                  obtain ⟨hi_45, h⟩ := h
                  refine ym 320 (fun B k => z_iald (j := (ti x1)) (x := (sx_I σ a44 (ti x1))) B hk_a44 rfl hi_45 (rI_k (by decide) hk_t hk_a44 (rI_k (by decide) hk_t hk_a44 rfl)) dX9_comes_319 k) ?_
                  by_cases c46 : ((sx_I σ t 27) + 1) ≤ (sx_I σ a44 (ti x1))
                  · replace h := ite_p c46 h
                    refine ym 356 (fun B k => z_icmp_le (tgt := 356) B dX9_comes_320 (by decide) (fun _ => k) (fun q => absurd c46 q)) ?_
                    refine y_sub [(0, .ref t)] [2] rfl ?_
                    exact tb_X9_comes_356 h hT hk_t
                  · replace h := ite_n c46 h
                    refine ym 323 (fun B k => z_icmp_le (tgt := 356) B dX9_comes_320 (by decide) (fun q => absurd q c46) (fun _ => k)) ?_
                    refine ym 324 (fun B k => z_aload_n B dX9_comes_323 rfl 2 rfl k) ?_
                    replace h := qv_e h
                    obtain ⟨w47, e_w47, h⟩ := h
                    have hq_w47 : rk (wx_I (wx_I σ t 27 ((sx_I σ t 27) + 1)) t 38 0) w47 13 := rk_T hT hk_t rfl (by decide) ((rR_I (rR_I rfl)).trans e_w47)
                    refine ym 327 (fun B k => gf_X9_38 (x := w47) B hk_t ((rR_I (rR_I rfl)).trans e_w47) dX9_comes_324 k) ?_
                    refine ym 328 (fun B k => z_iload_n B dX9_comes_327 rfl 3 rfl k) ?_
                    refine ym 329 (fun B k => z_aload_n B dX9_comes_328 rfl 2 rfl k) ?_
                    refine ym 332 (fun B k => gf_X9_107 (x := ((sx_I σ t 27) + 1)) B hk_t (rI_n (by decide) rI_s) dX9_comes_329 k) ?_
                    replace h := bq_e h
                    obtain ⟨a48, rfl, h⟩ := h
                    have hk_a48 := hq_w47 a48 rfl
                    replace h := ck_e h
                    obtain ⟨hi_49, h⟩ := h
                    refine ymw (σ' := (wx_I (wx_I (wx_I σ t 27 ((sx_I σ t 27) + 1)) t 38 0) a48 (ti x1) ((sx_I σ t 27) + 1))) 333 e_I (fun B _ k => z_iast (j := (ti x1)) B hk_a48 rfl hi_49 rfl dX9_comes_332 k) ?_
                    have hT := TS_I (k := (ti x1)) (x := ((sx_I σ t 27) + 1)) hT hk_a48 (Or.inl rfl)
                    have hk_t := kk_I (σ := (wx_I (wx_I σ t 27 ((sx_I σ t 27) + 1)) t 38 0)) (a := a48) (k := (ti x1)) (x := ((sx_I σ t 27) + 1)) hk_t
                    refine ym 334 (fun B k => z_aload_n B dX9_comes_333 rfl 2 rfl k) ?_
                    replace h := qv_e h
                    obtain ⟨w50, e_w50, h⟩ := h
                    have hq_w50 : rk (wx_I (wx_I (wx_I σ t 27 ((sx_I σ t 27) + 1)) t 38 0) a48 (ti x1) ((sx_I σ t 27) + 1)) w50 13 := rk_T hT hk_t rfl (by decide) ((rR_I (rR_I (rR_I rfl))).trans e_w50)
                    refine ym 337 (fun B k => gf_X9_87 (x := w50) B hk_t ((rR_I (rR_I (rR_I rfl))).trans e_w50) dX9_comes_334 k) ?_
                    refine ym 338 (fun B k => z_aload_n B dX9_comes_337 rfl 2 rfl k) ?_
                    refine ym 341 (fun B k => gf_X9_159 (x := (sx_I σ t 45)) B hk_t (rI_k (by decide) hk_a48 hk_t (rI_n (by decide) (rI_n (by decide) rfl))) dX9_comes_338 k) ?_
                    refine ym 342 (fun B k => z_aload_n B dX9_comes_341 rfl 2 rfl k) ?_
                    refine ym 345 (fun B k => gf_X9_119 (x := (sx_I σ t 31)) B hk_t (rI_k (by decide) hk_a48 hk_t (rI_n (by decide) (rI_n (by decide) rfl))) dX9_comes_342 k) ?_
                    replace h := bq_e h
                    obtain ⟨a51, rfl, h⟩ := h
                    have hk_a51 := hq_w50 a51 rfl
                    replace h := ck_e h
                    obtain ⟨hi_52, h⟩ := h
                    refine ymw (σ' := (wx_I (wx_I (wx_I (wx_I σ t 27 ((sx_I σ t 27) + 1)) t 38 0) a48 (ti x1) ((sx_I σ t 27) + 1)) a51 (ti (sx_I σ t 45)) (sx_I σ t 31))) 346 e_I (fun B _ k => z_iast (j := (ti (sx_I σ t 45))) B hk_a51 rfl hi_52 rfl dX9_comes_345 k) ?_
                    have hT := TS_I (k := (ti (sx_I σ t 45))) (x := (sx_I σ t 31)) hT hk_a51 (Or.inl rfl)
                    have hk_t := kk_I (σ := (wx_I (wx_I (wx_I σ t 27 ((sx_I σ t 27) + 1)) t 38 0) a48 (ti x1) ((sx_I σ t 27) + 1))) (a := a51) (k := (ti (sx_I σ t 45))) (x := (sx_I σ t 31)) hk_t
                    refine ym 347 (fun B k => z_aload_n B dX9_comes_346 rfl 2 rfl k) ?_
                    refine ym 348 (fun B k => z_dup B dX9_comes_347 rfl k) ?_
                    refine ym 351 (fun B k => gf_X9_159 (x := (sx_I σ t 45)) B hk_t (rI_k (by decide) hk_a51 hk_t (rI_k (by decide) hk_a48 hk_t (rI_n (by decide) (rI_n (by decide) rfl)))) dX9_comes_348 k) ?_
                    refine ym 352 (fun B k => z_iconst (v := 1) B dX9_comes_351 (by decide) k) ?_
                    refine ym 353 (fun B k => z_iadd B dX9_comes_352 k) ?_
                    refine ymw (σ' := (wx_I (wx_I (wx_I (wx_I (wx_I σ t 27 ((sx_I σ t 27) + 1)) t 38 0) a48 (ti x1) ((sx_I σ t 27) + 1)) a51 (ti (sx_I σ t 45)) (sx_I σ t 31)) t 45 ((sx_I σ t 45) + 1))) 356 e_I (fun B hin k => pf_X9_159 (x := ((sx_I σ t 45) + 1)) B hk_t rfl dX9_comes_353 k) ?_
                    have hT := TS_I (k := 45) (x := ((sx_I σ t 45) + 1)) hT hk_t (Or.inl rfl)
                    have hk_t := kk_I (σ := (wx_I (wx_I (wx_I (wx_I σ t 27 ((sx_I σ t 27) + 1)) t 38 0) a48 (ti x1) ((sx_I σ t 27) + 1)) a51 (ti (sx_I σ t 45)) (sx_I σ t 31))) (a := t) (k := 45) (x := ((sx_I σ t 45) + 1)) hk_t
                    refine y_sub [(0, .ref t)] [2] rfl ?_
                    exact tb_X9_comes_356 h hT hk_t
              · replace h := ite_n c41 h
                refine ym 356 (fun B k => z_icmp_ne (tgt := 356) B dX9_comes_300 (by decide) (fun _ => k) (fun q => absurd q c41)) ?_
                refine y_sub [(0, .ref t)] [2] rfl ?_
                exact tb_X9_comes_356 h hT hk_t
            · replace h := ite_n c40 h
              refine ym 523 (fun B k => z_if_ne (tgt := 523) B dX9_comes_292 (by decide) (fun _ => k) (fun q => absurd q c40)) ?_
              obtain rfl := Option.some.inj h
              exact yr_v hT trivial rfl dX9_comes_523
          · replace h := ite_n c39 h
            refine ym 280 (fun B k => z_if_eq (tgt := 288) B dX9_comes_277 (by decide) (fun q => absurd q c39) (fun _ => k)) ?_
            refine ym 281 (fun B k => z_aload_n B dX9_comes_280 rfl 2 rfl k) ?_
            refine ym 282 (fun B k => z_iconst (v := 1) B dX9_comes_281 (by decide) k) ?_
            refine ymw (σ' := (wx_I (wx_I (wx_I σ t 27 ((sx_I σ t 27) + 1)) t 38 0) t 35 1)) 285 e_I (fun B hin k => pf_X9_128 (x := 1) B (Or.inr rfl) hk_t rfl dX9_comes_282 k) ?_
            have hT := TS_I (k := 35) (x := 1) hT hk_t (Or.inr (Or.inr rfl))
            have hk_t := kk_I (σ := (wx_I (wx_I σ t 27 ((sx_I σ t 27) + 1)) t 38 0)) (a := t) (k := 35) (x := 1) hk_t
            refine ym 523 (fun B k => z_goto (tgt := 523) B dX9_comes_285 (by decide) k) ?_
            obtain rfl := Option.some.inj h
            exact yr_v hT trivial rfl dX9_comes_523
        · replace h := ite_n c38 h
          refine ym 369 (fun B k => z_icmp_ne (tgt := 369) B dX9_comes_270 (by decide) (fun _ => k) (fun q => absurd q c38)) ?_
          refine ym 370 (fun B k => z_aload_n B dX9_comes_369 rfl 2 rfl k) ?_
          refine ym 371 (fun B k => z_iload_n B dX9_comes_370 rfl 4 rfl k) ?_
          refine ym 372 (fun B k => z_iconst (v := 2) B dX9_comes_371 (by decide) k) ?_
          by_cases c53 : x2 = 2
          · replace h := ite_p c53 h
            refine ym 375 (fun B k => z_icmp_ne (tgt := 388) B dX9_comes_372 (by decide) (fun q => absurd c53 q) (fun _ => k)) ?_
            refine ym 376 (fun B k => z_aload_n B dX9_comes_375 rfl 2 rfl k) ?_
            refine ym 379 (fun B k => gf_X9_116 (x := (sx_I σ t 30)) B hk_t (rI_n (by decide) (rI_n (by decide) rfl)) dX9_comes_376 k) ?_
            refine ym 380 (fun B k => z_iconst (v := 1) B dX9_comes_379 (by decide) k) ?_
            by_cases c54 : (sx_I σ t 30) = 1
            · replace h := ite_p c54 h
              refine ym 383 (fun B k => z_icmp_ne (tgt := 388) B dX9_comes_380 (by decide) (fun q => absurd c54 q) (fun _ => k)) ?_
              refine ym 384 (fun B k => z_lload_n B dX9_comes_383 rfl 5 rfl k) ?_
              refine ym 385 (fun B k => z_l2i (v := x3.toInt32) B dX9_comes_384 rfl k) ?_
              refine ym 409 (fun B k => z_goto (tgt := 409) B dX9_comes_385 (by decide) k) ?_
              refine y_sub [(0, .ref t), (2, .int x2), (3, .long x3)] [2, 4, 5] rfl ?_
              exact tb_X9_comes_409 h hT hk_t
            · replace h := ite_n c54 h
              refine ym 388 (fun B k => z_icmp_ne (tgt := 388) B dX9_comes_380 (by decide) (fun _ => k) (fun q => absurd q c54)) ?_
              refine y_sub [(0, .ref t), (2, .int x2), (3, .long x3)] [2, 4, 5] rfl ?_
              exact tb_X9_comes_388 h hT hk_t
          · replace h := ite_n c53 h
            refine ym 388 (fun B k => z_icmp_ne (tgt := 388) B dX9_comes_372 (by decide) (fun _ => k) (fun q => absurd q c53)) ?_
            refine y_sub [(0, .ref t), (2, .int x2), (3, .long x3)] [2, 4, 5] rfl ?_
            exact tb_X9_comes_388 h hT hk_t
    · replace h := ite_n c28 h
      refine ym 68 (fun B k => z_icmp_eq (tgt := 118) B dX9_comes_65 (by decide) (fun q => absurd q c28) (fun _ => k)) ?_
      refine ym 70 (fun B k => z_iload B dX9_comes_68 0 rfl k) ?_
      by_cases c55 : y0 = 0
      · replace h := ite_p c55 h
        refine ym 83 (fun B k => z_if_eq (tgt := 83) B dX9_comes_70 (by decide) (fun _ => k) (fun q => absurd c55 q)) ?_
        refine y_sub [(0, .ref t), (1, .int x1), (2, .int x2), (3, .long x3)] [1, 2, 3, 4] rfl ?_
        exact tb_X9_comes_83 h hT hk_t
      · replace h := ite_n c55 h
        refine ym 73 (fun B k => z_if_eq (tgt := 83) B dX9_comes_70 (by decide) (fun q => absurd q c55) (fun _ => k)) ?_
        refine ym 74 (fun B k => z_iload_n B dX9_comes_73 rfl 3 rfl k) ?_
        refine ym 75 (fun B k => z_iconst (v := 2) B dX9_comes_74 (by decide) k) ?_
        by_cases c56 : x2 = 2
        · replace h := ite_p c56 h
          refine ym 118 (fun B k => z_icmp_eq (tgt := 118) B dX9_comes_75 (by decide) (fun _ => k) (fun q => absurd c56 q)) ?_
          refine ym 119 (fun B k => z_iconst (v := 1) B dX9_comes_118 (by decide) k) ?_
          refine ym 123 (fun B k => z_goto (tgt := 123) B dX9_comes_119 (by decide) k) ?_
          refine ym 125 (fun B k => z_istore (lv' := [(6, .int 1), (5, .int y0), (0, .ref t), (1, .int x1), (2, .int x2), (3, .long x3)]) B dX9_comes_123 (by decide) rfl k) ?_
          refine ym 127 (fun B k => z_iload B dX9_comes_125 0 rfl k) ?_
          refine ym 136 (fun B k => z_if_ne (tgt := 136) B dX9_comes_127 (by decide) (fun _ => k) (fun q => absurd q (by decide))) ?_
          refine ym 137 (fun B k => z_aload_n B dX9_comes_136 rfl 2 rfl k) ?_
          refine ym 138 (fun B k => z_dup B dX9_comes_137 rfl k) ?_
          refine ym 141 (fun B k => gf_X9_107 (x := (sx_I σ t 27)) B hk_t rfl dX9_comes_138 k) ?_
          refine ym 142 (fun B k => z_iconst (v := 1) B dX9_comes_141 (by decide) k) ?_
          refine ym 143 (fun B k => z_iadd B dX9_comes_142 k) ?_
          refine ymw (σ' := (wx_I σ t 27 ((sx_I σ t 27) + 1))) 146 e_I (fun B hin k => pf_X9_107 (x := ((sx_I σ t 27) + 1)) B hk_t rfl dX9_comes_143 k) ?_
          have hT := TS_I (k := 27) (x := ((sx_I σ t 27) + 1)) hT hk_t (Or.inl rfl)
          have hk_t := kk_I (σ := σ) (a := t) (k := 27) (x := ((sx_I σ t 27) + 1)) hk_t
          refine ym 147 (fun B k => z_aload_n B dX9_comes_146 rfl 2 rfl k) ?_
          refine ym 148 (fun B k => z_iconst (v := 0) B dX9_comes_147 (by decide) k) ?_
          refine ymw (σ' := (wx_I (wx_I σ t 27 ((sx_I σ t 27) + 1)) t 38 0)) 151 e_I (fun B hin k => pf_X9_137 (x := 0) B hk_t rfl dX9_comes_148 k) ?_
          have hT := TS_I (k := 38) (x := 0) hT hk_t (Or.inl rfl)
          have hk_t := kk_I (σ := (wx_I σ t 27 ((sx_I σ t 27) + 1))) (a := t) (k := 38) (x := 0) hk_t
          refine ym 152 (fun B k => z_iload_n B dX9_comes_151 rfl 4 rfl k) ?_
          refine ym 154 (fun B k => z_bipush (v := 6) B dX9_comes_152 (by decide) k) ?_
          by_cases c57 : x2 = 6
          · replace h := ite_p c57 h
            refine ym 157 (fun B k => z_icmp_ne (tgt := 267) B dX9_comes_154 (by decide) (fun q => absurd c57 q) (fun _ => k)) ?_
            refine ym 158 (fun B k => z_aload_n B dX9_comes_157 rfl 2 rfl k) ?_
            replace h := qv_e h
            obtain ⟨w58, e_w58, h⟩ := h
            have hq_w58 : rk (wx_I (wx_I σ t 27 ((sx_I σ t 27) + 1)) t 38 0) w58 13 := rk_T hT hk_t rfl (by decide) ((rR_I (rR_I rfl)).trans e_w58)
            refine ym 161 (fun B k => gf_X9_75 (x := w58) B hk_t ((rR_I (rR_I rfl)).trans e_w58) dX9_comes_158 k) ?_
            refine ym 162 (fun B k => z_aload_n B dX9_comes_161 rfl 2 rfl k) ?_
            refine ym 165 (fun B k => gf_X9_140 (x := (sx_I σ t 39)) B hk_t (rI_n (by decide) (rI_n (by decide) rfl)) dX9_comes_162 k) ?_
            refine ym 166 (fun B k => z_lload_n B dX9_comes_165 rfl 5 rfl k) ?_
            refine ym 169 (fun B k => z_ldc2 (v := 100) B dX9_comes_166 wg_1234 k) ?_
            refine ym 170 (fun B k => z_ldiv B dX9_comes_169 (by decide) k) ?_
            refine ym 171 (fun B k => z_l2i (v := (x3 / 100).toInt32) B dX9_comes_170 rfl k) ?_
            replace h := bq_e h
            obtain ⟨a59, rfl, h⟩ := h
            have hk_a59 := hq_w58 a59 rfl
            replace h := ck_e h
            obtain ⟨hi_60, h⟩ := h
            refine ymw (σ' := (wx_I (wx_I (wx_I σ t 27 ((sx_I σ t 27) + 1)) t 38 0) a59 (ti (sx_I σ t 39)) ((x3 / 100).toInt32))) 172 e_I (fun B _ k => z_iast (j := (ti (sx_I σ t 39))) B hk_a59 rfl hi_60 rfl dX9_comes_171 k) ?_
            have hT := TS_I (k := (ti (sx_I σ t 39))) (x := ((x3 / 100).toInt32)) hT hk_a59 (Or.inl rfl)
            have hk_t := kk_I (σ := (wx_I (wx_I σ t 27 ((sx_I σ t 27) + 1)) t 38 0)) (a := a59) (k := (ti (sx_I σ t 39))) (x := ((x3 / 100).toInt32)) hk_t
            refine ym 173 (fun B k => z_aload_n B dX9_comes_172 rfl 2 rfl k) ?_
            replace h := qv_e h
            obtain ⟨w61, e_w61, h⟩ := h
            have hq_w61 : rk (wx_I (wx_I (wx_I σ t 27 ((sx_I σ t 27) + 1)) t 38 0) a59 (ti (sx_I σ t 39)) ((x3 / 100).toInt32)) w61 13 := rk_T hT hk_t rfl (by decide) ((rR_I (rR_I (rR_I rfl))).trans e_w61)
            refine ym 176 (fun B k => gf_X9_78 (x := w61) B hk_t ((rR_I (rR_I (rR_I rfl))).trans e_w61) dX9_comes_173 k) ?_
            refine ym 177 (fun B k => z_aload_n B dX9_comes_176 rfl 2 rfl k) ?_
            refine ym 180 (fun B k => gf_X9_140 (x := (sx_I σ t 39)) B hk_t (rI_k (by decide) hk_a59 hk_t (rI_n (by decide) (rI_n (by decide) rfl))) dX9_comes_177 k) ?_
            refine ym 181 (fun B k => z_lload_n B dX9_comes_180 rfl 5 rfl k) ?_
            refine ym 184 (fun B k => z_ldc2 (v := 100) B dX9_comes_181 wg_1234 k) ?_
            refine ym 185 (fun B k => z_lrem B dX9_comes_184 (by decide) k) ?_
            refine ym 186 (fun B k => z_l2i (v := (jreml x3 100).toInt32) B dX9_comes_185 rfl k) ?_
            replace h := bq_e h
            obtain ⟨a62, rfl, h⟩ := h
            have hk_a62 := hq_w61 a62 rfl
            replace h := ck_e h
            obtain ⟨hi_63, h⟩ := h
            refine ymw (σ' := (wx_I (wx_I (wx_I (wx_I σ t 27 ((sx_I σ t 27) + 1)) t 38 0) a59 (ti (sx_I σ t 39)) ((x3 / 100).toInt32)) a62 (ti (sx_I σ t 39)) ((jreml x3 100).toInt32))) 187 e_I (fun B _ k => z_iast (j := (ti (sx_I σ t 39))) B hk_a62 rfl hi_63 rfl dX9_comes_186 k) ?_
            have hT := TS_I (k := (ti (sx_I σ t 39))) (x := ((jreml x3 100).toInt32)) hT hk_a62 (Or.inl rfl)
            have hk_t := kk_I (σ := (wx_I (wx_I (wx_I σ t 27 ((sx_I σ t 27) + 1)) t 38 0) a59 (ti (sx_I σ t 39)) ((x3 / 100).toInt32))) (a := a62) (k := (ti (sx_I σ t 39))) (x := ((jreml x3 100).toInt32)) hk_t
            refine ym 188 (fun B k => z_aload_n B dX9_comes_187 rfl 2 rfl k) ?_
            refine ym 189 (fun B k => z_dup B dX9_comes_188 rfl k) ?_
            refine ym 192 (fun B k => gf_X9_140 (x := (sx_I σ t 39)) B hk_t (rI_k (by decide) hk_a62 hk_t (rI_k (by decide) hk_a59 hk_t (rI_n (by decide) (rI_n (by decide) rfl)))) dX9_comes_189 k) ?_
            refine ym 193 (fun B k => z_iconst (v := 1) B dX9_comes_192 (by decide) k) ?_
            refine ym 194 (fun B k => z_iadd B dX9_comes_193 k) ?_
            refine ymw (σ' := (wx_I (wx_I (wx_I (wx_I (wx_I σ t 27 ((sx_I σ t 27) + 1)) t 38 0) a59 (ti (sx_I σ t 39)) ((x3 / 100).toInt32)) a62 (ti (sx_I σ t 39)) ((jreml x3 100).toInt32)) t 39 ((sx_I σ t 39) + 1))) 197 e_I (fun B hin k => pf_X9_140 (x := ((sx_I σ t 39) + 1)) B hk_t rfl dX9_comes_194 k) ?_
            have hT := TS_I (k := 39) (x := ((sx_I σ t 39) + 1)) hT hk_t (Or.inl rfl)
            have hk_t := kk_I (σ := (wx_I (wx_I (wx_I (wx_I σ t 27 ((sx_I σ t 27) + 1)) t 38 0) a59 (ti (sx_I σ t 39)) ((x3 / 100).toInt32)) a62 (ti (sx_I σ t 39)) ((jreml x3 100).toInt32))) (a := t) (k := 39) (x := ((sx_I σ t 39) + 1)) hk_t
            refine ym 198 (fun B k => z_aload_n B dX9_comes_197 rfl 2 rfl k) ?_
            refine ym 201 (fun B k => gf_X9_116 (x := (sx_I σ t 30)) B hk_t (rI_n (by decide) (rI_k (by decide) hk_a62 hk_t (rI_k (by decide) hk_a59 hk_t (rI_n (by decide) (rI_n (by decide) rfl))))) dX9_comes_198 k) ?_
            refine ym 202 (fun B k => z_iconst (v := 3) B dX9_comes_201 (by decide) k) ?_
            by_cases c64 : (sx_I σ t 30) = 3
            · replace h := ite_p c64 h
              refine ym 213 (fun B k => z_icmp_eq (tgt := 213) B dX9_comes_202 (by decide) (fun _ => k) (fun q => absurd c64 q)) ?_
              refine y_sub [(0, .ref t), (3, .long x3)] [2, 5] rfl ?_
              exact tb_X9_comes_213 h hT hk_t
            · replace h := ite_n c64 h
              refine ym 205 (fun B k => z_icmp_eq (tgt := 213) B dX9_comes_202 (by decide) (fun q => absurd q c64) (fun _ => k)) ?_
              refine ym 206 (fun B k => z_aload_n B dX9_comes_205 rfl 2 rfl k) ?_
              refine ym 209 (fun B k => gf_X9_116 (x := (sx_I σ t 30)) B hk_t (rI_n (by decide) (rI_k (by decide) hk_a62 hk_t (rI_k (by decide) hk_a59 hk_t (rI_n (by decide) (rI_n (by decide) rfl))))) dX9_comes_206 k) ?_
              refine ym 210 (fun B k => z_iconst (v := 4) B dX9_comes_209 (by decide) k) ?_
              by_cases c65 : (sx_I σ t 30) = 4
              · replace h := ite_p c65 h
                refine ym 213 (fun B k => z_icmp_ne (tgt := 523) B dX9_comes_210 (by decide) (fun q => absurd c65 q) (fun _ => k)) ?_
                refine y_sub [(0, .ref t), (3, .long x3)] [2, 5] rfl ?_
                exact tb_X9_comes_213 h hT hk_t
              · replace h := ite_n c65 h
                refine ym 523 (fun B k => z_icmp_ne (tgt := 523) B dX9_comes_210 (by decide) (fun _ => k) (fun q => absurd q c65)) ?_
                obtain rfl := Option.some.inj h
                exact yr_v hT trivial rfl dX9_comes_523
          · replace h := ite_n c57 h
            refine ym 267 (fun B k => z_icmp_ne (tgt := 267) B dX9_comes_154 (by decide) (fun _ => k) (fun q => absurd q c57)) ?_
            refine ym 268 (fun B k => z_iload_n B dX9_comes_267 rfl 4 rfl k) ?_
            refine ym 270 (fun B k => z_bipush (v := 12) B dX9_comes_268 (by decide) k) ?_
            by_cases c66 : x2 = 12
            · replace h := ite_p c66 h
              refine ym 273 (fun B k => z_icmp_ne (tgt := 369) B dX9_comes_270 (by decide) (fun q => absurd c66 q) (fun _ => k)) ?_
              refine ym 274 (fun B k => z_aload_n B dX9_comes_273 rfl 2 rfl k) ?_
              refine ym 277 (fun B k => gf_X9_125 (x := (sx_I σ t 34)) B hk_t (rI_n (by decide) (rI_n (by decide) rfl)) dX9_comes_274 k) ?_
              by_cases c67 : (sx_I σ t 34) = 0
              · replace h := ite_p c67 h
                refine ym 288 (fun B k => z_if_eq (tgt := 288) B dX9_comes_277 (by decide) (fun _ => k) (fun q => absurd c67 q)) ?_
                refine ym 289 (fun B k => z_aload_n B dX9_comes_288 rfl 2 rfl k) ?_
                refine ym 292 (fun B k => gf_X9_131 (x := (sx_I σ t 36)) B hk_t (rI_n (by decide) (rI_n (by decide) rfl)) dX9_comes_289 k) ?_
                by_cases c68 : (sx_I σ t 36) = 0
                · replace h := ite_p c68 h
                  refine ym 295 (fun B k => z_if_ne (tgt := 523) B dX9_comes_292 (by decide) (fun q => absurd c68 q) (fun _ => k)) ?_
                  refine ym 296 (fun B k => z_aload_n B dX9_comes_295 rfl 2 rfl k) ?_
                  refine ym 299 (fun B k => gf_X9_116 (x := (sx_I σ t 30)) B hk_t (rI_n (by decide) (rI_n (by decide) rfl)) dX9_comes_296 k) ?_
                  refine ym 300 (fun B k => z_iconst (v := 5) B dX9_comes_299 (by decide) k) ?_
                  by_cases c69 : (sx_I σ t 30) = 5
                  · replace h := ite_p c69 h
                    refine ym 303 (fun B k => z_icmp_ne (tgt := 356) B dX9_comes_300 (by decide) (fun q => absurd c69 q) (fun _ => k)) ?_
                    refine ym 304 (fun B k => z_aload_n B dX9_comes_303 rfl 2 rfl k) ?_
                    refine ym 307 (fun B k => gf_X9_156 (x := (sx_I σ t 47)) B hk_t (rI_n (by decide) (rI_n (by decide) rfl)) dX9_comes_304 k) ?_
                    by_cases c70 : (sx_I σ t 47) = 0
                    · replace h := ite_p c70 h
                      refine ym 356 (fun B k => z_if_eq (tgt := 356) B dX9_comes_307 (by decide) (fun _ => k) (fun q => absurd c70 q)) ?_
                      refine y_sub [(0, .ref t)] [2] rfl ?_
                      exact tb_X9_comes_356 h hT hk_t
                    · replace h := ite_n c70 h
                      refine ym 310 (fun B k => z_if_eq (tgt := 356) B dX9_comes_307 (by decide) (fun q => absurd q c70) (fun _ => k)) ?_
                      refine ym 311 (fun B k => z_aload_n B dX9_comes_310 rfl 2 rfl k) ?_
                      refine ym 314 (fun B k => gf_X9_107 (x := ((sx_I σ t 27) + 1)) B hk_t (rI_n (by decide) rI_s) dX9_comes_311 k) ?_
                      refine ym 315 (fun B k => z_aload_n B dX9_comes_314 rfl 2 rfl k) ?_
                      replace h := qv_e h
                      obtain ⟨w71, e_w71, h⟩ := h
                      have hq_w71 : rk (wx_I (wx_I σ t 27 ((sx_I σ t 27) + 1)) t 38 0) w71 13 := rk_T hT hk_t rfl (by decide) ((rR_I (rR_I rfl)).trans e_w71)
                      refine ym 318 (fun B k => gf_X9_38 (x := w71) B hk_t ((rR_I (rR_I rfl)).trans e_w71) dX9_comes_315 k) ?_
                      refine ym 319 (fun B k => z_iload_n B dX9_comes_318 rfl 3 rfl k) ?_
                      replace h := bq_e h
                      obtain ⟨a72, rfl, h⟩ := h
                      have hk_a72 := hq_w71 a72 rfl
                      replace h := ck_e h
                      obtain ⟨hi_73, h⟩ := h
                      refine ym 320 (fun B k => z_iald (j := (ti x1)) (x := (sx_I σ a72 (ti x1))) B hk_a72 rfl hi_73 (rI_k (by decide) hk_t hk_a72 (rI_k (by decide) hk_t hk_a72 rfl)) dX9_comes_319 k) ?_
                      by_cases c74 : ((sx_I σ t 27) + 1) ≤ (sx_I σ a72 (ti x1))
                      · replace h := ite_p c74 h
                        refine ym 356 (fun B k => z_icmp_le (tgt := 356) B dX9_comes_320 (by decide) (fun _ => k) (fun q => absurd c74 q)) ?_
                        refine y_sub [(0, .ref t)] [2] rfl ?_
                        exact tb_X9_comes_356 h hT hk_t
                      · replace h := ite_n c74 h
                        refine ym 323 (fun B k => z_icmp_le (tgt := 356) B dX9_comes_320 (by decide) (fun q => absurd q c74) (fun _ => k)) ?_
                        refine ym 324 (fun B k => z_aload_n B dX9_comes_323 rfl 2 rfl k) ?_
                        replace h := qv_e h
                        obtain ⟨w75, e_w75, h⟩ := h
                        have hq_w75 : rk (wx_I (wx_I σ t 27 ((sx_I σ t 27) + 1)) t 38 0) w75 13 := rk_T hT hk_t rfl (by decide) ((rR_I (rR_I rfl)).trans e_w75)
                        refine ym 327 (fun B k => gf_X9_38 (x := w75) B hk_t ((rR_I (rR_I rfl)).trans e_w75) dX9_comes_324 k) ?_
                        refine ym 328 (fun B k => z_iload_n B dX9_comes_327 rfl 3 rfl k) ?_
                        refine ym 329 (fun B k => z_aload_n B dX9_comes_328 rfl 2 rfl k) ?_
                        refine ym 332 (fun B k => gf_X9_107 (x := ((sx_I σ t 27) + 1)) B hk_t (rI_n (by decide) rI_s) dX9_comes_329 k) ?_
                        replace h := bq_e h
                        obtain ⟨a76, rfl, h⟩ := h
                        have hk_a76 := hq_w75 a76 rfl
                        replace h := ck_e h
                        obtain ⟨hi_77, h⟩ := h
                        refine ymw (σ' := (wx_I (wx_I (wx_I σ t 27 ((sx_I σ t 27) + 1)) t 38 0) a76 (ti x1) ((sx_I σ t 27) + 1))) 333 e_I (fun B _ k => z_iast (j := (ti x1)) B hk_a76 rfl hi_77 rfl dX9_comes_332 k) ?_
                        have hT := TS_I (k := (ti x1)) (x := ((sx_I σ t 27) + 1)) hT hk_a76 (Or.inl rfl)
                        have hk_t := kk_I (σ := (wx_I (wx_I σ t 27 ((sx_I σ t 27) + 1)) t 38 0)) (a := a76) (k := (ti x1)) (x := ((sx_I σ t 27) + 1)) hk_t
                        refine ym 334 (fun B k => z_aload_n B dX9_comes_333 rfl 2 rfl k) ?_
                        replace h := qv_e h
                        obtain ⟨w78, e_w78, h⟩ := h
                        have hq_w78 : rk (wx_I (wx_I (wx_I σ t 27 ((sx_I σ t 27) + 1)) t 38 0) a76 (ti x1) ((sx_I σ t 27) + 1)) w78 13 := rk_T hT hk_t rfl (by decide) ((rR_I (rR_I (rR_I rfl))).trans e_w78)
                        refine ym 337 (fun B k => gf_X9_87 (x := w78) B hk_t ((rR_I (rR_I (rR_I rfl))).trans e_w78) dX9_comes_334 k) ?_
                        refine ym 338 (fun B k => z_aload_n B dX9_comes_337 rfl 2 rfl k) ?_
                        refine ym 341 (fun B k => gf_X9_159 (x := (sx_I σ t 45)) B hk_t (rI_k (by decide) hk_a76 hk_t (rI_n (by decide) (rI_n (by decide) rfl))) dX9_comes_338 k) ?_
                        refine ym 342 (fun B k => z_aload_n B dX9_comes_341 rfl 2 rfl k) ?_
                        refine ym 345 (fun B k => gf_X9_119 (x := (sx_I σ t 31)) B hk_t (rI_k (by decide) hk_a76 hk_t (rI_n (by decide) (rI_n (by decide) rfl))) dX9_comes_342 k) ?_
                        replace h := bq_e h
                        obtain ⟨a79, rfl, h⟩ := h
                        have hk_a79 := hq_w78 a79 rfl
                        replace h := ck_e h
                        obtain ⟨hi_80, h⟩ := h
                        refine ymw (σ' := (wx_I (wx_I (wx_I (wx_I σ t 27 ((sx_I σ t 27) + 1)) t 38 0) a76 (ti x1) ((sx_I σ t 27) + 1)) a79 (ti (sx_I σ t 45)) (sx_I σ t 31))) 346 e_I (fun B _ k => z_iast (j := (ti (sx_I σ t 45))) B hk_a79 rfl hi_80 rfl dX9_comes_345 k) ?_
                        have hT := TS_I (k := (ti (sx_I σ t 45))) (x := (sx_I σ t 31)) hT hk_a79 (Or.inl rfl)
                        have hk_t := kk_I (σ := (wx_I (wx_I (wx_I σ t 27 ((sx_I σ t 27) + 1)) t 38 0) a76 (ti x1) ((sx_I σ t 27) + 1))) (a := a79) (k := (ti (sx_I σ t 45))) (x := (sx_I σ t 31)) hk_t
                        refine ym 347 (fun B k => z_aload_n B dX9_comes_346 rfl 2 rfl k) ?_
                        refine ym 348 (fun B k => z_dup B dX9_comes_347 rfl k) ?_
                        refine ym 351 (fun B k => gf_X9_159 (x := (sx_I σ t 45)) B hk_t (rI_k (by decide) hk_a79 hk_t (rI_k (by decide) hk_a76 hk_t (rI_n (by decide) (rI_n (by decide) rfl)))) dX9_comes_348 k) ?_
                        refine ym 352 (fun B k => z_iconst (v := 1) B dX9_comes_351 (by decide) k) ?_
                        refine ym 353 (fun B k => z_iadd B dX9_comes_352 k) ?_
                        refine ymw (σ' := (wx_I (wx_I (wx_I (wx_I (wx_I σ t 27 ((sx_I σ t 27) + 1)) t 38 0) a76 (ti x1) ((sx_I σ t 27) + 1)) a79 (ti (sx_I σ t 45)) (sx_I σ t 31)) t 45 ((sx_I σ t 45) + 1))) 356 e_I (fun B hin k => pf_X9_159 (x := ((sx_I σ t 45) + 1)) B hk_t rfl dX9_comes_353 k) ?_
                        have hT := TS_I (k := 45) (x := ((sx_I σ t 45) + 1)) hT hk_t (Or.inl rfl)
                        have hk_t := kk_I (σ := (wx_I (wx_I (wx_I (wx_I σ t 27 ((sx_I σ t 27) + 1)) t 38 0) a76 (ti x1) ((sx_I σ t 27) + 1)) a79 (ti (sx_I σ t 45)) (sx_I σ t 31))) (a := t) (k := 45) (x := ((sx_I σ t 45) + 1)) hk_t
                        refine y_sub [(0, .ref t)] [2] rfl ?_
                        exact tb_X9_comes_356 h hT hk_t
                  · replace h := ite_n c69 h
                    refine ym 356 (fun B k => z_icmp_ne (tgt := 356) B dX9_comes_300 (by decide) (fun _ => k) (fun q => absurd q c69)) ?_
                    refine y_sub [(0, .ref t)] [2] rfl ?_
                    exact tb_X9_comes_356 h hT hk_t
                · replace h := ite_n c68 h
                  refine ym 523 (fun B k => z_if_ne (tgt := 523) B dX9_comes_292 (by decide) (fun _ => k) (fun q => absurd q c68)) ?_
                  obtain rfl := Option.some.inj h
                  exact yr_v hT trivial rfl dX9_comes_523
              · replace h := ite_n c67 h
                refine ym 280 (fun B k => z_if_eq (tgt := 288) B dX9_comes_277 (by decide) (fun q => absurd q c67) (fun _ => k)) ?_
                refine ym 281 (fun B k => z_aload_n B dX9_comes_280 rfl 2 rfl k) ?_
                refine ym 282 (fun B k => z_iconst (v := 1) B dX9_comes_281 (by decide) k) ?_
                refine ymw (σ' := (wx_I (wx_I (wx_I σ t 27 ((sx_I σ t 27) + 1)) t 38 0) t 35 1)) 285 e_I (fun B hin k => pf_X9_128 (x := 1) B (Or.inr rfl) hk_t rfl dX9_comes_282 k) ?_
                have hT := TS_I (k := 35) (x := 1) hT hk_t (Or.inr (Or.inr rfl))
                have hk_t := kk_I (σ := (wx_I (wx_I σ t 27 ((sx_I σ t 27) + 1)) t 38 0)) (a := t) (k := 35) (x := 1) hk_t
                refine ym 523 (fun B k => z_goto (tgt := 523) B dX9_comes_285 (by decide) k) ?_
                obtain rfl := Option.some.inj h
                exact yr_v hT trivial rfl dX9_comes_523
            · replace h := ite_n c66 h
              refine ym 369 (fun B k => z_icmp_ne (tgt := 369) B dX9_comes_270 (by decide) (fun _ => k) (fun q => absurd q c66)) ?_
              refine ym 370 (fun B k => z_aload_n B dX9_comes_369 rfl 2 rfl k) ?_
              refine ym 371 (fun B k => z_iload_n B dX9_comes_370 rfl 4 rfl k) ?_
              refine ym 372 (fun B k => z_iconst (v := 2) B dX9_comes_371 (by decide) k) ?_
              by_cases c81 : x2 = 2
              · replace h := ite_p c81 h
                refine ym 375 (fun B k => z_icmp_ne (tgt := 388) B dX9_comes_372 (by decide) (fun q => absurd c81 q) (fun _ => k)) ?_
                refine ym 376 (fun B k => z_aload_n B dX9_comes_375 rfl 2 rfl k) ?_
                refine ym 379 (fun B k => gf_X9_116 (x := (sx_I σ t 30)) B hk_t (rI_n (by decide) (rI_n (by decide) rfl)) dX9_comes_376 k) ?_
                refine ym 380 (fun B k => z_iconst (v := 1) B dX9_comes_379 (by decide) k) ?_
                by_cases c82 : (sx_I σ t 30) = 1
                · replace h := ite_p c82 h
                  refine ym 383 (fun B k => z_icmp_ne (tgt := 388) B dX9_comes_380 (by decide) (fun q => absurd c82 q) (fun _ => k)) ?_
                  refine ym 384 (fun B k => z_lload_n B dX9_comes_383 rfl 5 rfl k) ?_
                  refine ym 385 (fun B k => z_l2i (v := x3.toInt32) B dX9_comes_384 rfl k) ?_
                  refine ym 409 (fun B k => z_goto (tgt := 409) B dX9_comes_385 (by decide) k) ?_
                  refine y_sub [(0, .ref t), (2, .int x2), (3, .long x3)] [2, 4, 5] rfl ?_
                  exact tb_X9_comes_409 h hT hk_t
                · replace h := ite_n c82 h
                  refine ym 388 (fun B k => z_icmp_ne (tgt := 388) B dX9_comes_380 (by decide) (fun _ => k) (fun q => absurd q c82)) ?_
                  refine y_sub [(0, .ref t), (2, .int x2), (3, .long x3)] [2, 4, 5] rfl ?_
                  exact tb_X9_comes_388 h hT hk_t
              · replace h := ite_n c81 h
                refine ym 388 (fun B k => z_icmp_ne (tgt := 388) B dX9_comes_372 (by decide) (fun _ => k) (fun q => absurd q c81)) ?_
                refine y_sub [(0, .ref t), (2, .int x2), (3, .long x3)] [2, 4, 5] rfl ?_
                exact tb_X9_comes_388 h hT hk_t
        · replace h := ite_n c56 h
          refine ym 78 (fun B k => z_icmp_eq (tgt := 118) B dX9_comes_75 (by decide) (fun q => absurd q c56) (fun _ => k)) ?_
          refine ym 79 (fun B k => z_iload_n B dX9_comes_78 rfl 3 rfl k) ?_
          refine ym 80 (fun B k => z_iconst (v := 3) B dX9_comes_79 (by decide) k) ?_
          by_cases c83 : x2 = 3
          · replace h := ite_p c83 h
            refine ym 118 (fun B k => z_icmp_eq (tgt := 118) B dX9_comes_80 (by decide) (fun _ => k) (fun q => absurd c83 q)) ?_
            refine ym 119 (fun B k => z_iconst (v := 1) B dX9_comes_118 (by decide) k) ?_
            refine ym 123 (fun B k => z_goto (tgt := 123) B dX9_comes_119 (by decide) k) ?_
            refine ym 125 (fun B k => z_istore (lv' := [(6, .int 1), (5, .int y0), (0, .ref t), (1, .int x1), (2, .int x2), (3, .long x3)]) B dX9_comes_123 (by decide) rfl k) ?_
            refine ym 127 (fun B k => z_iload B dX9_comes_125 0 rfl k) ?_
            refine ym 136 (fun B k => z_if_ne (tgt := 136) B dX9_comes_127 (by decide) (fun _ => k) (fun q => absurd q (by decide))) ?_
            refine ym 137 (fun B k => z_aload_n B dX9_comes_136 rfl 2 rfl k) ?_
            refine ym 138 (fun B k => z_dup B dX9_comes_137 rfl k) ?_
            refine ym 141 (fun B k => gf_X9_107 (x := (sx_I σ t 27)) B hk_t rfl dX9_comes_138 k) ?_
            refine ym 142 (fun B k => z_iconst (v := 1) B dX9_comes_141 (by decide) k) ?_
            refine ym 143 (fun B k => z_iadd B dX9_comes_142 k) ?_
            refine ymw (σ' := (wx_I σ t 27 ((sx_I σ t 27) + 1))) 146 e_I (fun B hin k => pf_X9_107 (x := ((sx_I σ t 27) + 1)) B hk_t rfl dX9_comes_143 k) ?_
            have hT := TS_I (k := 27) (x := ((sx_I σ t 27) + 1)) hT hk_t (Or.inl rfl)
            have hk_t := kk_I (σ := σ) (a := t) (k := 27) (x := ((sx_I σ t 27) + 1)) hk_t
            refine ym 147 (fun B k => z_aload_n B dX9_comes_146 rfl 2 rfl k) ?_
            refine ym 148 (fun B k => z_iconst (v := 0) B dX9_comes_147 (by decide) k) ?_
            refine ymw (σ' := (wx_I (wx_I σ t 27 ((sx_I σ t 27) + 1)) t 38 0)) 151 e_I (fun B hin k => pf_X9_137 (x := 0) B hk_t rfl dX9_comes_148 k) ?_
            have hT := TS_I (k := 38) (x := 0) hT hk_t (Or.inl rfl)
            have hk_t := kk_I (σ := (wx_I σ t 27 ((sx_I σ t 27) + 1))) (a := t) (k := 38) (x := 0) hk_t
            refine ym 152 (fun B k => z_iload_n B dX9_comes_151 rfl 4 rfl k) ?_
            refine ym 154 (fun B k => z_bipush (v := 6) B dX9_comes_152 (by decide) k) ?_
            by_cases c84 : x2 = 6
            · replace h := ite_p c84 h
              refine ym 157 (fun B k => z_icmp_ne (tgt := 267) B dX9_comes_154 (by decide) (fun q => absurd c84 q) (fun _ => k)) ?_
              refine ym 158 (fun B k => z_aload_n B dX9_comes_157 rfl 2 rfl k) ?_
              replace h := qv_e h
              obtain ⟨w85, e_w85, h⟩ := h
              have hq_w85 : rk (wx_I (wx_I σ t 27 ((sx_I σ t 27) + 1)) t 38 0) w85 13 := rk_T hT hk_t rfl (by decide) ((rR_I (rR_I rfl)).trans e_w85)
              refine ym 161 (fun B k => gf_X9_75 (x := w85) B hk_t ((rR_I (rR_I rfl)).trans e_w85) dX9_comes_158 k) ?_
              refine ym 162 (fun B k => z_aload_n B dX9_comes_161 rfl 2 rfl k) ?_
              refine ym 165 (fun B k => gf_X9_140 (x := (sx_I σ t 39)) B hk_t (rI_n (by decide) (rI_n (by decide) rfl)) dX9_comes_162 k) ?_
              refine ym 166 (fun B k => z_lload_n B dX9_comes_165 rfl 5 rfl k) ?_
              refine ym 169 (fun B k => z_ldc2 (v := 100) B dX9_comes_166 wg_1234 k) ?_
              refine ym 170 (fun B k => z_ldiv B dX9_comes_169 (by decide) k) ?_
              refine ym 171 (fun B k => z_l2i (v := (x3 / 100).toInt32) B dX9_comes_170 rfl k) ?_
              replace h := bq_e h
              obtain ⟨a86, rfl, h⟩ := h
              have hk_a86 := hq_w85 a86 rfl
              replace h := ck_e h
              obtain ⟨hi_87, h⟩ := h
              refine ymw (σ' := (wx_I (wx_I (wx_I σ t 27 ((sx_I σ t 27) + 1)) t 38 0) a86 (ti (sx_I σ t 39)) ((x3 / 100).toInt32))) 172 e_I (fun B _ k => z_iast (j := (ti (sx_I σ t 39))) B hk_a86 rfl hi_87 rfl dX9_comes_171 k) ?_
              have hT := TS_I (k := (ti (sx_I σ t 39))) (x := ((x3 / 100).toInt32)) hT hk_a86 (Or.inl rfl)
              have hk_t := kk_I (σ := (wx_I (wx_I σ t 27 ((sx_I σ t 27) + 1)) t 38 0)) (a := a86) (k := (ti (sx_I σ t 39))) (x := ((x3 / 100).toInt32)) hk_t
              refine ym 173 (fun B k => z_aload_n B dX9_comes_172 rfl 2 rfl k) ?_
              replace h := qv_e h
              obtain ⟨w88, e_w88, h⟩ := h
              have hq_w88 : rk (wx_I (wx_I (wx_I σ t 27 ((sx_I σ t 27) + 1)) t 38 0) a86 (ti (sx_I σ t 39)) ((x3 / 100).toInt32)) w88 13 := rk_T hT hk_t rfl (by decide) ((rR_I (rR_I (rR_I rfl))).trans e_w88)
              refine ym 176 (fun B k => gf_X9_78 (x := w88) B hk_t ((rR_I (rR_I (rR_I rfl))).trans e_w88) dX9_comes_173 k) ?_
              refine ym 177 (fun B k => z_aload_n B dX9_comes_176 rfl 2 rfl k) ?_
              refine ym 180 (fun B k => gf_X9_140 (x := (sx_I σ t 39)) B hk_t (rI_k (by decide) hk_a86 hk_t (rI_n (by decide) (rI_n (by decide) rfl))) dX9_comes_177 k) ?_
              refine ym 181 (fun B k => z_lload_n B dX9_comes_180 rfl 5 rfl k) ?_
              refine ym 184 (fun B k => z_ldc2 (v := 100) B dX9_comes_181 wg_1234 k) ?_
              refine ym 185 (fun B k => z_lrem B dX9_comes_184 (by decide) k) ?_
              refine ym 186 (fun B k => z_l2i (v := (jreml x3 100).toInt32) B dX9_comes_185 rfl k) ?_
              replace h := bq_e h
              obtain ⟨a89, rfl, h⟩ := h
              have hk_a89 := hq_w88 a89 rfl
              replace h := ck_e h
              obtain ⟨hi_90, h⟩ := h
              refine ymw (σ' := (wx_I (wx_I (wx_I (wx_I σ t 27 ((sx_I σ t 27) + 1)) t 38 0) a86 (ti (sx_I σ t 39)) ((x3 / 100).toInt32)) a89 (ti (sx_I σ t 39)) ((jreml x3 100).toInt32))) 187 e_I (fun B _ k => z_iast (j := (ti (sx_I σ t 39))) B hk_a89 rfl hi_90 rfl dX9_comes_186 k) ?_
              have hT := TS_I (k := (ti (sx_I σ t 39))) (x := ((jreml x3 100).toInt32)) hT hk_a89 (Or.inl rfl)
              have hk_t := kk_I (σ := (wx_I (wx_I (wx_I σ t 27 ((sx_I σ t 27) + 1)) t 38 0) a86 (ti (sx_I σ t 39)) ((x3 / 100).toInt32))) (a := a89) (k := (ti (sx_I σ t 39))) (x := ((jreml x3 100).toInt32)) hk_t
              refine ym 188 (fun B k => z_aload_n B dX9_comes_187 rfl 2 rfl k) ?_
              refine ym 189 (fun B k => z_dup B dX9_comes_188 rfl k) ?_
              refine ym 192 (fun B k => gf_X9_140 (x := (sx_I σ t 39)) B hk_t (rI_k (by decide) hk_a89 hk_t (rI_k (by decide) hk_a86 hk_t (rI_n (by decide) (rI_n (by decide) rfl)))) dX9_comes_189 k) ?_
              refine ym 193 (fun B k => z_iconst (v := 1) B dX9_comes_192 (by decide) k) ?_
              refine ym 194 (fun B k => z_iadd B dX9_comes_193 k) ?_
              refine ymw (σ' := (wx_I (wx_I (wx_I (wx_I (wx_I σ t 27 ((sx_I σ t 27) + 1)) t 38 0) a86 (ti (sx_I σ t 39)) ((x3 / 100).toInt32)) a89 (ti (sx_I σ t 39)) ((jreml x3 100).toInt32)) t 39 ((sx_I σ t 39) + 1))) 197 e_I (fun B hin k => pf_X9_140 (x := ((sx_I σ t 39) + 1)) B hk_t rfl dX9_comes_194 k) ?_
              have hT := TS_I (k := 39) (x := ((sx_I σ t 39) + 1)) hT hk_t (Or.inl rfl)
              have hk_t := kk_I (σ := (wx_I (wx_I (wx_I (wx_I σ t 27 ((sx_I σ t 27) + 1)) t 38 0) a86 (ti (sx_I σ t 39)) ((x3 / 100).toInt32)) a89 (ti (sx_I σ t 39)) ((jreml x3 100).toInt32))) (a := t) (k := 39) (x := ((sx_I σ t 39) + 1)) hk_t
              refine ym 198 (fun B k => z_aload_n B dX9_comes_197 rfl 2 rfl k) ?_
              refine ym 201 (fun B k => gf_X9_116 (x := (sx_I σ t 30)) B hk_t (rI_n (by decide) (rI_k (by decide) hk_a89 hk_t (rI_k (by decide) hk_a86 hk_t (rI_n (by decide) (rI_n (by decide) rfl))))) dX9_comes_198 k) ?_
              refine ym 202 (fun B k => z_iconst (v := 3) B dX9_comes_201 (by decide) k) ?_
              by_cases c91 : (sx_I σ t 30) = 3
              · replace h := ite_p c91 h
                refine ym 213 (fun B k => z_icmp_eq (tgt := 213) B dX9_comes_202 (by decide) (fun _ => k) (fun q => absurd c91 q)) ?_
                refine y_sub [(0, .ref t), (3, .long x3)] [2, 5] rfl ?_
                exact tb_X9_comes_213 h hT hk_t
              · replace h := ite_n c91 h
                refine ym 205 (fun B k => z_icmp_eq (tgt := 213) B dX9_comes_202 (by decide) (fun q => absurd q c91) (fun _ => k)) ?_
                refine ym 206 (fun B k => z_aload_n B dX9_comes_205 rfl 2 rfl k) ?_
                refine ym 209 (fun B k => gf_X9_116 (x := (sx_I σ t 30)) B hk_t (rI_n (by decide) (rI_k (by decide) hk_a89 hk_t (rI_k (by decide) hk_a86 hk_t (rI_n (by decide) (rI_n (by decide) rfl))))) dX9_comes_206 k) ?_
                refine ym 210 (fun B k => z_iconst (v := 4) B dX9_comes_209 (by decide) k) ?_
                by_cases c92 : (sx_I σ t 30) = 4
                · replace h := ite_p c92 h
                  refine ym 213 (fun B k => z_icmp_ne (tgt := 523) B dX9_comes_210 (by decide) (fun q => absurd c92 q) (fun _ => k)) ?_
                  refine y_sub [(0, .ref t), (3, .long x3)] [2, 5] rfl ?_
                  exact tb_X9_comes_213 h hT hk_t
                · replace h := ite_n c92 h
                  refine ym 523 (fun B k => z_icmp_ne (tgt := 523) B dX9_comes_210 (by decide) (fun _ => k) (fun q => absurd q c92)) ?_
                  obtain rfl := Option.some.inj h
                  exact yr_v hT trivial rfl dX9_comes_523
            · replace h := ite_n c84 h
              refine ym 267 (fun B k => z_icmp_ne (tgt := 267) B dX9_comes_154 (by decide) (fun _ => k) (fun q => absurd q c84)) ?_
              refine ym 268 (fun B k => z_iload_n B dX9_comes_267 rfl 4 rfl k) ?_
              refine ym 270 (fun B k => z_bipush (v := 12) B dX9_comes_268 (by decide) k) ?_
              by_cases c93 : x2 = 12
              · replace h := ite_p c93 h
                refine ym 273 (fun B k => z_icmp_ne (tgt := 369) B dX9_comes_270 (by decide) (fun q => absurd c93 q) (fun _ => k)) ?_
                refine ym 274 (fun B k => z_aload_n B dX9_comes_273 rfl 2 rfl k) ?_
                refine ym 277 (fun B k => gf_X9_125 (x := (sx_I σ t 34)) B hk_t (rI_n (by decide) (rI_n (by decide) rfl)) dX9_comes_274 k) ?_
                by_cases c94 : (sx_I σ t 34) = 0
                · replace h := ite_p c94 h
                  refine ym 288 (fun B k => z_if_eq (tgt := 288) B dX9_comes_277 (by decide) (fun _ => k) (fun q => absurd c94 q)) ?_
                  refine ym 289 (fun B k => z_aload_n B dX9_comes_288 rfl 2 rfl k) ?_
                  refine ym 292 (fun B k => gf_X9_131 (x := (sx_I σ t 36)) B hk_t (rI_n (by decide) (rI_n (by decide) rfl)) dX9_comes_289 k) ?_
                  by_cases c95 : (sx_I σ t 36) = 0
                  · replace h := ite_p c95 h
                    refine ym 295 (fun B k => z_if_ne (tgt := 523) B dX9_comes_292 (by decide) (fun q => absurd c95 q) (fun _ => k)) ?_
                    refine ym 296 (fun B k => z_aload_n B dX9_comes_295 rfl 2 rfl k) ?_
                    refine ym 299 (fun B k => gf_X9_116 (x := (sx_I σ t 30)) B hk_t (rI_n (by decide) (rI_n (by decide) rfl)) dX9_comes_296 k) ?_
                    refine ym 300 (fun B k => z_iconst (v := 5) B dX9_comes_299 (by decide) k) ?_
                    by_cases c96 : (sx_I σ t 30) = 5
                    · replace h := ite_p c96 h
                      refine ym 303 (fun B k => z_icmp_ne (tgt := 356) B dX9_comes_300 (by decide) (fun q => absurd c96 q) (fun _ => k)) ?_
                      refine ym 304 (fun B k => z_aload_n B dX9_comes_303 rfl 2 rfl k) ?_
                      refine ym 307 (fun B k => gf_X9_156 (x := (sx_I σ t 47)) B hk_t (rI_n (by decide) (rI_n (by decide) rfl)) dX9_comes_304 k) ?_
                      by_cases c97 : (sx_I σ t 47) = 0
                      · replace h := ite_p c97 h
                        refine ym 356 (fun B k => z_if_eq (tgt := 356) B dX9_comes_307 (by decide) (fun _ => k) (fun q => absurd c97 q)) ?_
                        refine y_sub [(0, .ref t)] [2] rfl ?_
                        exact tb_X9_comes_356 h hT hk_t
                      · replace h := ite_n c97 h
                        refine ym 310 (fun B k => z_if_eq (tgt := 356) B dX9_comes_307 (by decide) (fun q => absurd q c97) (fun _ => k)) ?_
                        refine ym 311 (fun B k => z_aload_n B dX9_comes_310 rfl 2 rfl k) ?_
                        refine ym 314 (fun B k => gf_X9_107 (x := ((sx_I σ t 27) + 1)) B hk_t (rI_n (by decide) rI_s) dX9_comes_311 k) ?_
                        refine ym 315 (fun B k => z_aload_n B dX9_comes_314 rfl 2 rfl k) ?_
                        replace h := qv_e h
                        obtain ⟨w98, e_w98, h⟩ := h
                        have hq_w98 : rk (wx_I (wx_I σ t 27 ((sx_I σ t 27) + 1)) t 38 0) w98 13 := rk_T hT hk_t rfl (by decide) ((rR_I (rR_I rfl)).trans e_w98)
                        refine ym 318 (fun B k => gf_X9_38 (x := w98) B hk_t ((rR_I (rR_I rfl)).trans e_w98) dX9_comes_315 k) ?_
                        refine ym 319 (fun B k => z_iload_n B dX9_comes_318 rfl 3 rfl k) ?_
                        replace h := bq_e h
                        obtain ⟨a99, rfl, h⟩ := h
                        have hk_a99 := hq_w98 a99 rfl
                        replace h := ck_e h
                        obtain ⟨hi_100, h⟩ := h
                        refine ym 320 (fun B k => z_iald (j := (ti x1)) (x := (sx_I σ a99 (ti x1))) B hk_a99 rfl hi_100 (rI_k (by decide) hk_t hk_a99 (rI_k (by decide) hk_t hk_a99 rfl)) dX9_comes_319 k) ?_
                        by_cases c101 : ((sx_I σ t 27) + 1) ≤ (sx_I σ a99 (ti x1))
                        · replace h := ite_p c101 h
                          refine ym 356 (fun B k => z_icmp_le (tgt := 356) B dX9_comes_320 (by decide) (fun _ => k) (fun q => absurd c101 q)) ?_
                          refine y_sub [(0, .ref t)] [2] rfl ?_
                          exact tb_X9_comes_356 h hT hk_t
                        · replace h := ite_n c101 h
                          refine ym 323 (fun B k => z_icmp_le (tgt := 356) B dX9_comes_320 (by decide) (fun q => absurd q c101) (fun _ => k)) ?_
                          refine ym 324 (fun B k => z_aload_n B dX9_comes_323 rfl 2 rfl k) ?_
                          replace h := qv_e h
                          obtain ⟨w102, e_w102, h⟩ := h
                          have hq_w102 : rk (wx_I (wx_I σ t 27 ((sx_I σ t 27) + 1)) t 38 0) w102 13 := rk_T hT hk_t rfl (by decide) ((rR_I (rR_I rfl)).trans e_w102)
                          refine ym 327 (fun B k => gf_X9_38 (x := w102) B hk_t ((rR_I (rR_I rfl)).trans e_w102) dX9_comes_324 k) ?_
                          refine ym 328 (fun B k => z_iload_n B dX9_comes_327 rfl 3 rfl k) ?_
                          refine ym 329 (fun B k => z_aload_n B dX9_comes_328 rfl 2 rfl k) ?_
                          refine ym 332 (fun B k => gf_X9_107 (x := ((sx_I σ t 27) + 1)) B hk_t (rI_n (by decide) rI_s) dX9_comes_329 k) ?_
                          replace h := bq_e h
                          obtain ⟨a103, rfl, h⟩ := h
                          have hk_a103 := hq_w102 a103 rfl
                          replace h := ck_e h
                          obtain ⟨hi_104, h⟩ := h
                          refine ymw (σ' := (wx_I (wx_I (wx_I σ t 27 ((sx_I σ t 27) + 1)) t 38 0) a103 (ti x1) ((sx_I σ t 27) + 1))) 333 e_I (fun B _ k => z_iast (j := (ti x1)) B hk_a103 rfl hi_104 rfl dX9_comes_332 k) ?_
                          have hT := TS_I (k := (ti x1)) (x := ((sx_I σ t 27) + 1)) hT hk_a103 (Or.inl rfl)
                          have hk_t := kk_I (σ := (wx_I (wx_I σ t 27 ((sx_I σ t 27) + 1)) t 38 0)) (a := a103) (k := (ti x1)) (x := ((sx_I σ t 27) + 1)) hk_t
                          refine ym 334 (fun B k => z_aload_n B dX9_comes_333 rfl 2 rfl k) ?_
                          replace h := qv_e h
                          obtain ⟨w105, e_w105, h⟩ := h
                          have hq_w105 : rk (wx_I (wx_I (wx_I σ t 27 ((sx_I σ t 27) + 1)) t 38 0) a103 (ti x1) ((sx_I σ t 27) + 1)) w105 13 := rk_T hT hk_t rfl (by decide) ((rR_I (rR_I (rR_I rfl))).trans e_w105)
                          refine ym 337 (fun B k => gf_X9_87 (x := w105) B hk_t ((rR_I (rR_I (rR_I rfl))).trans e_w105) dX9_comes_334 k) ?_
                          refine ym 338 (fun B k => z_aload_n B dX9_comes_337 rfl 2 rfl k) ?_
                          refine ym 341 (fun B k => gf_X9_159 (x := (sx_I σ t 45)) B hk_t (rI_k (by decide) hk_a103 hk_t (rI_n (by decide) (rI_n (by decide) rfl))) dX9_comes_338 k) ?_
                          refine ym 342 (fun B k => z_aload_n B dX9_comes_341 rfl 2 rfl k) ?_
                          refine ym 345 (fun B k => gf_X9_119 (x := (sx_I σ t 31)) B hk_t (rI_k (by decide) hk_a103 hk_t (rI_n (by decide) (rI_n (by decide) rfl))) dX9_comes_342 k) ?_
                          replace h := bq_e h
                          obtain ⟨a106, rfl, h⟩ := h
                          have hk_a106 := hq_w105 a106 rfl
                          replace h := ck_e h
                          obtain ⟨hi_107, h⟩ := h
                          refine ymw (σ' := (wx_I (wx_I (wx_I (wx_I σ t 27 ((sx_I σ t 27) + 1)) t 38 0) a103 (ti x1) ((sx_I σ t 27) + 1)) a106 (ti (sx_I σ t 45)) (sx_I σ t 31))) 346 e_I (fun B _ k => z_iast (j := (ti (sx_I σ t 45))) B hk_a106 rfl hi_107 rfl dX9_comes_345 k) ?_
                          have hT := TS_I (k := (ti (sx_I σ t 45))) (x := (sx_I σ t 31)) hT hk_a106 (Or.inl rfl)
                          have hk_t := kk_I (σ := (wx_I (wx_I (wx_I σ t 27 ((sx_I σ t 27) + 1)) t 38 0) a103 (ti x1) ((sx_I σ t 27) + 1))) (a := a106) (k := (ti (sx_I σ t 45))) (x := (sx_I σ t 31)) hk_t
                          refine ym 347 (fun B k => z_aload_n B dX9_comes_346 rfl 2 rfl k) ?_
                          refine ym 348 (fun B k => z_dup B dX9_comes_347 rfl k) ?_
                          refine ym 351 (fun B k => gf_X9_159 (x := (sx_I σ t 45)) B hk_t (rI_k (by decide) hk_a106 hk_t (rI_k (by decide) hk_a103 hk_t (rI_n (by decide) (rI_n (by decide) rfl)))) dX9_comes_348 k) ?_
                          refine ym 352 (fun B k => z_iconst (v := 1) B dX9_comes_351 (by decide) k) ?_
                          refine ym 353 (fun B k => z_iadd B dX9_comes_352 k) ?_
                          refine ymw (σ' := (wx_I (wx_I (wx_I (wx_I (wx_I σ t 27 ((sx_I σ t 27) + 1)) t 38 0) a103 (ti x1) ((sx_I σ t 27) + 1)) a106 (ti (sx_I σ t 45)) (sx_I σ t 31)) t 45 ((sx_I σ t 45) + 1))) 356 e_I (fun B hin k => pf_X9_159 (x := ((sx_I σ t 45) + 1)) B hk_t rfl dX9_comes_353 k) ?_
                          have hT := TS_I (k := 45) (x := ((sx_I σ t 45) + 1)) hT hk_t (Or.inl rfl)
                          have hk_t := kk_I (σ := (wx_I (wx_I (wx_I (wx_I σ t 27 ((sx_I σ t 27) + 1)) t 38 0) a103 (ti x1) ((sx_I σ t 27) + 1)) a106 (ti (sx_I σ t 45)) (sx_I σ t 31))) (a := t) (k := 45) (x := ((sx_I σ t 45) + 1)) hk_t
                          refine y_sub [(0, .ref t)] [2] rfl ?_
                          exact tb_X9_comes_356 h hT hk_t
                    · replace h := ite_n c96 h
                      refine ym 356 (fun B k => z_icmp_ne (tgt := 356) B dX9_comes_300 (by decide) (fun _ => k) (fun q => absurd q c96)) ?_
                      refine y_sub [(0, .ref t)] [2] rfl ?_
                      exact tb_X9_comes_356 h hT hk_t
                  · replace h := ite_n c95 h
                    refine ym 523 (fun B k => z_if_ne (tgt := 523) B dX9_comes_292 (by decide) (fun _ => k) (fun q => absurd q c95)) ?_
                    obtain rfl := Option.some.inj h
                    exact yr_v hT trivial rfl dX9_comes_523
                · replace h := ite_n c94 h
                  refine ym 280 (fun B k => z_if_eq (tgt := 288) B dX9_comes_277 (by decide) (fun q => absurd q c94) (fun _ => k)) ?_
                  refine ym 281 (fun B k => z_aload_n B dX9_comes_280 rfl 2 rfl k) ?_
                  refine ym 282 (fun B k => z_iconst (v := 1) B dX9_comes_281 (by decide) k) ?_
                  refine ymw (σ' := (wx_I (wx_I (wx_I σ t 27 ((sx_I σ t 27) + 1)) t 38 0) t 35 1)) 285 e_I (fun B hin k => pf_X9_128 (x := 1) B (Or.inr rfl) hk_t rfl dX9_comes_282 k) ?_
                  have hT := TS_I (k := 35) (x := 1) hT hk_t (Or.inr (Or.inr rfl))
                  have hk_t := kk_I (σ := (wx_I (wx_I σ t 27 ((sx_I σ t 27) + 1)) t 38 0)) (a := t) (k := 35) (x := 1) hk_t
                  refine ym 523 (fun B k => z_goto (tgt := 523) B dX9_comes_285 (by decide) k) ?_
                  obtain rfl := Option.some.inj h
                  exact yr_v hT trivial rfl dX9_comes_523
              · replace h := ite_n c93 h
                refine ym 369 (fun B k => z_icmp_ne (tgt := 369) B dX9_comes_270 (by decide) (fun _ => k) (fun q => absurd q c93)) ?_
                refine ym 370 (fun B k => z_aload_n B dX9_comes_369 rfl 2 rfl k) ?_
                refine ym 371 (fun B k => z_iload_n B dX9_comes_370 rfl 4 rfl k) ?_
                refine ym 372 (fun B k => z_iconst (v := 2) B dX9_comes_371 (by decide) k) ?_
                by_cases c108 : x2 = 2
                · replace h := ite_p c108 h
                  refine ym 375 (fun B k => z_icmp_ne (tgt := 388) B dX9_comes_372 (by decide) (fun q => absurd c108 q) (fun _ => k)) ?_
                  refine ym 376 (fun B k => z_aload_n B dX9_comes_375 rfl 2 rfl k) ?_
                  refine ym 379 (fun B k => gf_X9_116 (x := (sx_I σ t 30)) B hk_t (rI_n (by decide) (rI_n (by decide) rfl)) dX9_comes_376 k) ?_
                  refine ym 380 (fun B k => z_iconst (v := 1) B dX9_comes_379 (by decide) k) ?_
                  by_cases c109 : (sx_I σ t 30) = 1
                  · replace h := ite_p c109 h
                    refine ym 383 (fun B k => z_icmp_ne (tgt := 388) B dX9_comes_380 (by decide) (fun q => absurd c109 q) (fun _ => k)) ?_
                    refine ym 384 (fun B k => z_lload_n B dX9_comes_383 rfl 5 rfl k) ?_
                    refine ym 385 (fun B k => z_l2i (v := x3.toInt32) B dX9_comes_384 rfl k) ?_
                    refine ym 409 (fun B k => z_goto (tgt := 409) B dX9_comes_385 (by decide) k) ?_
                    refine y_sub [(0, .ref t), (2, .int x2), (3, .long x3)] [2, 4, 5] rfl ?_
                    exact tb_X9_comes_409 h hT hk_t
                  · replace h := ite_n c109 h
                    refine ym 388 (fun B k => z_icmp_ne (tgt := 388) B dX9_comes_380 (by decide) (fun _ => k) (fun q => absurd q c109)) ?_
                    refine y_sub [(0, .ref t), (2, .int x2), (3, .long x3)] [2, 4, 5] rfl ?_
                    exact tb_X9_comes_388 h hT hk_t
                · replace h := ite_n c108 h
                  refine ym 388 (fun B k => z_icmp_ne (tgt := 388) B dX9_comes_372 (by decide) (fun _ => k) (fun q => absurd q c108)) ?_
                  refine y_sub [(0, .ref t), (2, .int x2), (3, .long x3)] [2, 4, 5] rfl ?_
                  exact tb_X9_comes_388 h hT hk_t
          · replace h := ite_n c83 h
            refine ym 83 (fun B k => z_icmp_eq (tgt := 118) B dX9_comes_80 (by decide) (fun q => absurd q c83) (fun _ => k)) ?_
            refine y_sub [(0, .ref t), (1, .int x1), (2, .int x2), (3, .long x3)] [1, 2, 3, 4] rfl ?_
            exact tb_X9_comes_83 h hT hk_t
set_option maxRecDepth 100000 in
set_option maxHeartbeats 4000000 in
theorem tb_X9_comes_49 {l : Launch} {g : gx_T} {σ : sx_T} {u : sx_T} {As : Array Value} {n0 : Nat} {t : Nat} {x1 : Int32} {x2 : Int32} {x3 : Int64} (h : fb_X9_comes_49 n0 σ t x1 x2 x3 = some u) (hT : TS g σ) (hk_t : sx_K σ t = 11) : ZY l g cX9_comes RX9 "comes" none 9 1 23 0 0 false As (QM g As (Qxv g u)) (True) u σ 49 [(0, .ref t), (1, .int x1), (2, .int x2), (3, .long x3)] [] := by
  unfold fb_X9_comes_49 at h
  refine ym 50 (fun B k => z_iconst (v := 1) B dX9_comes_49 (by decide) k) ?_
  refine ym 54 (fun B k => z_goto (tgt := 54) B dX9_comes_50 (by decide) k) ?_
  refine y_sub [(0, .ref t), (1, .int x1), (2, .int x2), (3, .long x3)] [0, 1, 2, 3] rfl ?_
  exact tb_X9_comes_54 h hT hk_t (Or.inr rfl)
set_option maxRecDepth 100000 in
set_option maxHeartbeats 4000000 in
theorem ct_X9_comes (l : Launch) {g : gx_T} {σ : sx_T} {u : sx_T} {n0 : Nat} {t : Nat} {x1 : Int32} (h : f_X9_comes n0 σ t x1 = some u) (hT : TS g σ) (hk_t : sx_K σ t = 11) : CT l g yX9_comes cX9_comes 9 none 1 23 [.ref t, .int x1] (True) u σ (Qxv g u) := by
  refine yc_met (by decide) (Nat.le_of_ble_eq_true rfl) ?_
  refine yc_lv (show lv_args 0 [.ref t, .int x1] = [(0, .ref t), (1, .int x1)] from rfl) ?_
  show ZY l g _ _ _ _ _ _ _ _ _ _ _ _ _ _ σ 0 [(0, .ref t), (1, .int x1)] []
  unfold f_X9_comes at h
  refine ym 1 (fun B k => z_aload_n B dX9_comes_0 rfl 0 rfl k) ?_
  replace h := qv_e h
  obtain ⟨w1, e_w1, h⟩ := h
  have hq_w1 : rk σ w1 13 := rk_T hT hk_t rfl (by decide) e_w1
  refine ym 4 (fun B k => gf_X9_44 (x := w1) B hk_t e_w1 dX9_comes_1 k) ?_
  refine ym 7 (fun B k => z_sipush (v := 160) B dX9_comes_4 (by decide) k) ?_
  refine ym 8 (fun B k => z_iload_n B dX9_comes_7 rfl 1 rfl k) ?_
  refine ym 9 (fun B k => z_imul B dX9_comes_8 k) ?_
  refine ym 10 (fun B k => z_aload_n B dX9_comes_9 rfl 0 rfl k) ?_
  refine ym 13 (fun B k => gf_X9_107 (x := (sx_I σ t 27)) B hk_t rfl dX9_comes_10 k) ?_
  refine ym 14 (fun B k => z_iadd B dX9_comes_13 k) ?_
  replace h := bq_e h
  obtain ⟨a2, rfl, h⟩ := h
  have hk_a2 := hq_w1 a2 rfl
  replace h := ck_e h
  obtain ⟨hi_3, h⟩ := h
  refine ym 15 (fun B k => z_iald (j := (ti ((160 * x1) + (sx_I σ t 27)))) (x := (sx_I σ a2 (ti ((160 * x1) + (sx_I σ t 27))))) B hk_a2 rfl hi_3 rfl dX9_comes_14 k) ?_
  refine ym 16 (fun B k => z_istore_n (lv' := [(2, .int (sx_I σ a2 (ti ((160 * x1) + (sx_I σ t 27))))), (0, .ref t), (1, .int x1)]) B dX9_comes_15 rfl (by decide) rfl k) ?_
  refine ym 17 (fun B k => z_aload_n B dX9_comes_16 rfl 1 rfl k) ?_
  replace h := qv_e h
  obtain ⟨w4, e_w4, h⟩ := h
  have hq_w4 : rk σ w4 14 := rk_T hT hk_t rfl (by decide) e_w4
  refine ym 20 (fun B k => gf_X9_47 (x := w4) B hk_t e_w4 dX9_comes_17 k) ?_
  refine ym 23 (fun B k => z_sipush (v := 160) B dX9_comes_20 (by decide) k) ?_
  refine ym 24 (fun B k => z_iload_n B dX9_comes_23 rfl 2 rfl k) ?_
  refine ym 25 (fun B k => z_imul B dX9_comes_24 k) ?_
  refine ym 26 (fun B k => z_aload_n B dX9_comes_25 rfl 1 rfl k) ?_
  refine ym 29 (fun B k => gf_X9_107 (x := (sx_I σ t 27)) B hk_t rfl dX9_comes_26 k) ?_
  refine ym 30 (fun B k => z_iadd B dX9_comes_29 k) ?_
  replace h := bq_e h
  obtain ⟨a5, rfl, h⟩ := h
  have hk_a5 := hq_w4 a5 rfl
  replace h := ck_e h
  obtain ⟨hi_6, h⟩ := h
  refine ym 31 (fun B k => z_lald (j := (ti ((160 * x1) + (sx_I σ t 27)))) (x := (sx_J σ a5 (ti ((160 * x1) + (sx_I σ t 27))))) B hk_a5 rfl hi_6 rfl dX9_comes_30 k) ?_
  refine ym 32 (fun B k => z_lstore_n (lv' := [(3, .long (sx_J σ a5 (ti ((160 * x1) + (sx_I σ t 27))))), (2, .int (sx_I σ a2 (ti ((160 * x1) + (sx_I σ t 27))))), (0, .ref t), (1, .int x1)]) B dX9_comes_31 rfl (by decide) rfl k) ?_
  refine ym 33 (fun B k => z_aload_n B dX9_comes_32 rfl 2 rfl k) ?_
  refine ym 36 (fun B k => gf_X9_116 (x := (sx_I σ t 30)) B hk_t rfl dX9_comes_33 k) ?_
  refine ym 37 (fun B k => z_iconst (v := 1) B dX9_comes_36 (by decide) k) ?_
  by_cases c7 : (sx_I σ t 30) = 1
  · replace h := ite_p c7 h
    refine ym 49 (fun B k => z_icmp_eq (tgt := 49) B dX9_comes_37 (by decide) (fun _ => k) (fun q => absurd c7 q)) ?_
    refine y_sub [(0, .ref t), (1, .int x1), (2, .int (sx_I σ a2 (ti ((160 * x1) + (sx_I σ t 27))))), (3, .long (sx_J σ a5 (ti ((160 * x1) + (sx_I σ t 27)))))] [2, 3, 1, 0] rfl ?_
    exact tb_X9_comes_49 h hT hk_t
  · replace h := ite_n c7 h
    refine ym 40 (fun B k => z_icmp_eq (tgt := 49) B dX9_comes_37 (by decide) (fun q => absurd q c7) (fun _ => k)) ?_
    refine ym 41 (fun B k => z_aload_n B dX9_comes_40 rfl 2 rfl k) ?_
    refine ym 44 (fun B k => gf_X9_116 (x := (sx_I σ t 30)) B hk_t rfl dX9_comes_41 k) ?_
    refine ym 46 (fun B k => z_bipush (v := 6) B dX9_comes_44 (by decide) k) ?_
    by_cases c8 : (sx_I σ t 30) = 6
    · replace h := ite_p c8 h
      refine ym 49 (fun B k => z_icmp_ne (tgt := 53) B dX9_comes_46 (by decide) (fun q => absurd c8 q) (fun _ => k)) ?_
      refine y_sub [(0, .ref t), (1, .int x1), (2, .int (sx_I σ a2 (ti ((160 * x1) + (sx_I σ t 27))))), (3, .long (sx_J σ a5 (ti ((160 * x1) + (sx_I σ t 27)))))] [2, 3, 1, 0] rfl ?_
      exact tb_X9_comes_49 h hT hk_t
    · replace h := ite_n c8 h
      refine ym 53 (fun B k => z_icmp_ne (tgt := 53) B dX9_comes_46 (by decide) (fun _ => k) (fun q => absurd q c8)) ?_
      refine ym 54 (fun B k => z_iconst (v := 0) B dX9_comes_53 (by decide) k) ?_
      refine y_sub [(0, .ref t), (1, .int x1), (2, .int (sx_I σ a2 (ti ((160 * x1) + (sx_I σ t 27))))), (3, .long (sx_J σ a5 (ti ((160 * x1) + (sx_I σ t 27)))))] [2, 3, 1, 0] rfl ?_
      exact tb_X9_comes_54 h hT hk_t (Or.inl rfl)
