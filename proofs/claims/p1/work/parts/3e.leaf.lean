set_option maxRecDepth 100000 in
set_option maxHeartbeats 4000000 in
theorem lf_1_268 {p : Program} {l : Launch} {e : Env} {s : State} {m : MethodId} {args : Array Value} {below : List Frame} {meth : Method} {c : Code} {g : gx_T} {Q : State → Prop} {σ : sx_T} {b t bS : Nat} {xs : Nat → Int32} (hlt : l.stackTraces = false) (B : zx_B p s m args meth c code RL 8 g) (hX : va_X bS 6 xs s s.heap) (hbl : bS < s.heap.size) (hbA : ¬ gx_b g ≤ bS) (hF : fz_P b t σ) (h_x1 : xs 1 = 5) {x2 : Int32} (h_x2 : xs 2 = x2) (q1_x2 : (20 : Int) ≤ x2.toInt) (q2_x2 : x2.toInt ≤ (2147483647 : Int)) {x3 : Int32} (h_x3 : xs 3 = x3) (q1_x3 : (0 : Int) ≤ x3.toInt) (q2_x3 : x3.toInt ≤ (17 : Int)) {x4 : Int32} (h_x4 : xs 4 = x4) (q1_x4 : (0 : Int) ≤ x4.toInt) (q2_x4 : x4.toInt ≤ (99 : Int)) {x5 : Int32} (h_x5 : xs 5 = x5) (q1_x5 : (-2147483648 : Int) ≤ x5.toInt) (q2_x5 : x5.toInt ≤ (-1 : Int)) (kk : ∀ σ', zx p l e room_1 s m args below meth c g 8 600002 7302232 Q σ' 1395 [(4, .int 0), (0, .ref bS)] []) : zx p l e room_1 s m args below meth c g 8 500 100000 Q σ 252 [(4, .int 0), (3, .ref (b + 431)), (2, .ref (b + 405)), (1, .ref (b + 0)), (0, .ref bS)] [] := by
  have hK := fz_lay hF
  refine z_eqs (σ' := (ap b σ [] [] [])) rfl ?_
  refine z_aload_n B dL_law_252 rfl 3 rfl ?_
  refine z_aload_n B dL_law_253 rfl 4 rfl ?_
  refine z_iload B dL_law_254 0 rfl ?_
  refine z_iconst (v := 1) B dL_law_256 (by decide) ?_
  refine z_iadd B dL_law_257 ?_
  refine z_seti (y := 1) (by decide) ?_
  refine z_sld (j := 1) (x := 5) B hX hbl hbA (by decide) (show ¬ ((1 : Int32) < 0 ∨ 6 ≤ (1 : Int32).toNatClampNeg) by decide) h_x1 dL_law_258 ?_
  refine z_aload_n B dL_law_259 rfl 4 rfl ?_
  refine z_iload B dL_law_260 0 rfl ?_
  refine z_iconst (v := 2) B dL_law_262 (by decide) ?_
  refine z_iadd B dL_law_263 ?_
  refine z_seti (y := 2) (by decide) ?_
  refine z_sld (j := 2) (x := x2) B hX hbl hbA (by decide) (show ¬ ((2 : Int32) < 0 ∨ 6 ≤ (2 : Int32).toNatClampNeg) by decide) h_x2 dL_law_264 ?_
  refine z_aload_n B dL_law_265 rfl 4 rfl ?_
  refine z_iload B dL_law_266 0 rfl ?_
  refine z_iconst (v := 3) B dL_law_268 (by decide) ?_
  refine z_iadd B dL_law_269 ?_
  refine z_seti (y := 3) (by decide) ?_
  refine z_sld (j := 3) (x := x3) B hX hbl hbA (by decide) (show ¬ ((3 : Int32) < 0 ∨ 6 ≤ (3 : Int32).toNatClampNeg) by decide) h_x3 dL_law_270 ?_
  refine z_aload_n B dL_law_271 rfl 4 rfl ?_
  refine z_iload B dL_law_272 0 rfl ?_
  refine z_iconst (v := 4) B dL_law_274 (by decide) ?_
  refine z_iadd B dL_law_275 ?_
  refine z_seti (y := 4) (by decide) ?_
  refine z_sld (j := 4) (x := x4) B hX hbl hbA (by decide) (show ¬ ((4 : Int32) < 0 ∨ 6 ≤ (4 : Int32).toNatClampNeg) by decide) h_x4 dL_law_276 ?_
  refine z_aload_n B dL_law_277 rfl 4 rfl ?_
  refine z_iload B dL_law_278 0 rfl ?_
  refine z_iconst (v := 5) B dL_law_280 (by decide) ?_
  refine z_iadd B dL_law_281 ?_
  refine z_seti (y := 5) (by decide) ?_
  refine z_sld (j := 5) (x := x5) B hX hbl hbA (by decide) (show ¬ ((5 : Int32) < 0 ∨ 6 ≤ (5 : Int32).toNatClampNeg) by decide) h_x5 dL_law_282 ?_
  refine z_aload_n B dL_law_283 rfl 1 rfl ?_
  refine z_cSWi (As := [.ref (b + 0), .int 5, .int x2, .int x3, .int x4, .int x5, .ref (b + 431)]) (rest := []) B cw_L_84 dL_law_284 (ci_L_check_632 l hlt (σ := (ap b σ [] [] [])) (b := b) (lyA hK) x2 x3 x4 x5 q1_x2 q2_x2 (rR_at 0 0 (fz_R hF 0 0 rfl rfl)) (rR_at 1 5 (fz_R hF 1 5 rfl rfl))) rfl (by decide) rfl (Nat.le_of_ble_eq_true rfl) (by decide) (fun r u hu => ?_)
  obtain ⟨hu1, z, hu⟩ := hu
  refine z_eqs (σ' := (ap b (wx_Z σ z) [] [] [])) (hu.trans az_ap) ?_
  show zx p l e _ s m _ below meth c g 8 _ _ _ _ 287 [(4, .int 0), (3, .ref (b + 431)), (2, .ref (b + 405)), (1, .ref (b + 0)), (0, .ref bS)] _
  refine z_seti (y := 1) hu1 ?_
  refine z_istore (lv' := [(5, .int 1), (4, .int 0), (3, .ref (b + 431)), (2, .ref (b + 405)), (1, .ref (b + 0)), (0, .ref bS)]) B dL_law_287 (by decide) rfl ?_
  refine z_aload_n B dL_law_289 rfl 3 rfl ?_
  refine z_aload_n B dL_law_290 rfl 5 rfl ?_
  refine z_iload B dL_law_291 1 rfl ?_
  refine z_iconst (v := 1) B dL_law_293 (by decide) ?_
  refine z_iadd B dL_law_294 ?_
  refine z_seti (y := 1) (by decide) ?_
  refine z_sld (j := 1) (x := 5) B hX hbl hbA (by decide) (show ¬ ((1 : Int32) < 0 ∨ 6 ≤ (1 : Int32).toNatClampNeg) by decide) h_x1 dL_law_295 ?_
  refine z_aload_n B dL_law_296 rfl 5 rfl ?_
  refine z_iload B dL_law_297 1 rfl ?_
  refine z_iconst (v := 2) B dL_law_299 (by decide) ?_
  refine z_iadd B dL_law_300 ?_
  refine z_seti (y := 2) (by decide) ?_
  refine z_sld (j := 2) (x := x2) B hX hbl hbA (by decide) (show ¬ ((2 : Int32) < 0 ∨ 6 ≤ (2 : Int32).toNatClampNeg) by decide) h_x2 dL_law_301 ?_
  refine z_aload_n B dL_law_302 rfl 5 rfl ?_
  refine z_iload B dL_law_303 1 rfl ?_
  refine z_iconst (v := 3) B dL_law_305 (by decide) ?_
  refine z_iadd B dL_law_306 ?_
  refine z_seti (y := 3) (by decide) ?_
  refine z_sld (j := 3) (x := x3) B hX hbl hbA (by decide) (show ¬ ((3 : Int32) < 0 ∨ 6 ≤ (3 : Int32).toNatClampNeg) by decide) h_x3 dL_law_307 ?_
  refine z_aload_n B dL_law_308 rfl 5 rfl ?_
  refine z_iload B dL_law_309 1 rfl ?_
  refine z_iconst (v := 4) B dL_law_311 (by decide) ?_
  refine z_iadd B dL_law_312 ?_
  refine z_seti (y := 4) (by decide) ?_
  refine z_sld (j := 4) (x := x4) B hX hbl hbA (by decide) (show ¬ ((4 : Int32) < 0 ∨ 6 ≤ (4 : Int32).toNatClampNeg) by decide) h_x4 dL_law_313 ?_
  refine z_aload_n B dL_law_314 rfl 5 rfl ?_
  refine z_iload B dL_law_315 1 rfl ?_
  refine z_iconst (v := 5) B dL_law_317 (by decide) ?_
  refine z_iadd B dL_law_318 ?_
  refine z_seti (y := 5) (by decide) ?_
  refine z_sld (j := 5) (x := x5) B hX hbl hbA (by decide) (show ¬ ((5 : Int32) < 0 ∨ 6 ≤ (5 : Int32).toNatClampNeg) by decide) h_x5 dL_law_319 ?_
  refine z_cVi (As := [.int 5, .int x2, .int x3, .int x4, .int x5]) (rest := []) B cw_L_86 cx_10 dL_law_320 (ci_X9_check_635 l (σ := (ap b (wx_Z σ z) [] [] [])) (b := b) (lyA (lyZ hK)) x2 x3 x4 x5 q1_x2 q2_x2 q1_x3 q2_x3 q1_x4 q2_x4 q1_x5 q2_x5) (lKA (lKZ (hk_K hK 405 rfl rfl))) rfl (by decide) rfl (Nat.le_of_ble_eq_true rfl) (by decide) (fun r u hu => ?_)
  refine z_eqs (σ' := (ap b (wx_Z σ z) [(405, 0, 1)] [] [])) (hu.2.trans ap_ap) ?_
  show zx p l e _ s m _ below meth c g 8 _ _ _ _ 323 [(5, .int 1), (4, .int 0), (3, .ref (b + 431)), (2, .ref (b + 405)), (1, .ref (b + 0)), (0, .ref bS)] _
  refine z_seti (y := 0) hu.1 ?_
  refine z_istore (lv' := [(6, .int 0), (5, .int 1), (4, .int 0), (3, .ref (b + 431)), (2, .ref (b + 405)), (1, .ref (b + 0)), (0, .ref bS)]) B dL_law_323 (by decide) rfl ?_
  refine z_aload_n B dL_law_325 rfl 4 rfl ?_
  refine z_cVi (As := []) (rest := []) B cw_L_80 cx_10 dL_law_326 (ci_X9_thrown_31 l (σ := (ap b (wx_Z σ z) [(405, 0, 1)] [] [])) (b := b) (lyA (lyZ hK)) (rI_at 405 0 rfl)) (lKA (lKZ (hk_K hK 405 rfl rfl))) rfl (by decide) rfl (Nat.le_of_ble_eq_true rfl) (by decide) (fun r u hu => ?_)
  refine z_eqs (σ' := (ap b (wx_Z σ z) [(405, 0, 1)] [] [])) hu.2 ?_
  show zx p l e _ s m _ below meth c g 8 _ _ _ _ 329 [(6, .int 0), (5, .int 1), (4, .int 0), (3, .ref (b + 431)), (2, .ref (b + 405)), (1, .ref (b + 0)), (0, .ref bS)] _
  refine z_seti (y := 1) hu.1 ?_
  refine z_iload B dL_law_329 1 rfl ?_
  refine z_icmp_eq (tgt := 336) B dL_law_331 (by decide) (fun _ => ?_) (fun h => absurd (by decide) h)
  refine z_iload B dL_law_336 1 rfl ?_
  refine z_if_ne (tgt := 353) B dL_law_338 (by decide) (fun _ => ?_) (fun h => absurd h (by decide))
  refine z_goto (tgt := 1395) B dL_law_353 (by decide) ?_
  exact z_widen (Nat.le_of_ble_eq_true rfl) (Nat.le_of_ble_eq_true rfl) (z_sub _ [2, 6] rfl (kk _))
set_option maxRecDepth 100000 in
set_option maxHeartbeats 4000000 in
theorem lf_1_269 {p : Program} {l : Launch} {e : Env} {s : State} {m : MethodId} {args : Array Value} {below : List Frame} {meth : Method} {c : Code} {g : gx_T} {Q : State → Prop} {σ : sx_T} {b t bS : Nat} {xs : Nat → Int32} (hlt : l.stackTraces = false) (B : zx_B p s m args meth c code RL 8 g) (hX : va_X bS 6 xs s s.heap) (hbl : bS < s.heap.size) (hbA : ¬ gx_b g ≤ bS) (hF : fz_P b t σ) (h_x1 : xs 1 = 5) {x2 : Int32} (h_x2 : xs 2 = x2) (q1_x2 : (20 : Int) ≤ x2.toInt) (q2_x2 : x2.toInt ≤ (2147483647 : Int)) {x3 : Int32} (h_x3 : xs 3 = x3) (q1_x3 : (0 : Int) ≤ x3.toInt) (q2_x3 : x3.toInt ≤ (17 : Int)) {x4 : Int32} (h_x4 : xs 4 = x4) (q1_x4 : (0 : Int) ≤ x4.toInt) (q2_x4 : x4.toInt ≤ (99 : Int)) {x5 : Int32} (h_x5 : xs 5 = x5) (q1_x5 : (0 : Int) ≤ x5.toInt) (q2_x5 : x5.toInt ≤ (99 : Int)) (kk : ∀ σ', zx p l e room_1 s m args below meth c g 8 600002 7302232 Q σ' 1395 [(4, .int 0), (0, .ref bS)] []) : zx p l e room_1 s m args below meth c g 8 500 100000 Q σ 252 [(4, .int 0), (3, .ref (b + 431)), (2, .ref (b + 405)), (1, .ref (b + 0)), (0, .ref bS)] [] := by
  have hK := fz_lay hF
  refine z_eqs (σ' := (ap b σ [] [] [])) rfl ?_
  refine z_aload_n B dL_law_252 rfl 3 rfl ?_
  refine z_aload_n B dL_law_253 rfl 4 rfl ?_
  refine z_iload B dL_law_254 0 rfl ?_
  refine z_iconst (v := 1) B dL_law_256 (by decide) ?_
  refine z_iadd B dL_law_257 ?_
  refine z_seti (y := 1) (by decide) ?_
  refine z_sld (j := 1) (x := 5) B hX hbl hbA (by decide) (show ¬ ((1 : Int32) < 0 ∨ 6 ≤ (1 : Int32).toNatClampNeg) by decide) h_x1 dL_law_258 ?_
  refine z_aload_n B dL_law_259 rfl 4 rfl ?_
  refine z_iload B dL_law_260 0 rfl ?_
  refine z_iconst (v := 2) B dL_law_262 (by decide) ?_
  refine z_iadd B dL_law_263 ?_
  refine z_seti (y := 2) (by decide) ?_
  refine z_sld (j := 2) (x := x2) B hX hbl hbA (by decide) (show ¬ ((2 : Int32) < 0 ∨ 6 ≤ (2 : Int32).toNatClampNeg) by decide) h_x2 dL_law_264 ?_
  refine z_aload_n B dL_law_265 rfl 4 rfl ?_
  refine z_iload B dL_law_266 0 rfl ?_
  refine z_iconst (v := 3) B dL_law_268 (by decide) ?_
  refine z_iadd B dL_law_269 ?_
  refine z_seti (y := 3) (by decide) ?_
  refine z_sld (j := 3) (x := x3) B hX hbl hbA (by decide) (show ¬ ((3 : Int32) < 0 ∨ 6 ≤ (3 : Int32).toNatClampNeg) by decide) h_x3 dL_law_270 ?_
  refine z_aload_n B dL_law_271 rfl 4 rfl ?_
  refine z_iload B dL_law_272 0 rfl ?_
  refine z_iconst (v := 4) B dL_law_274 (by decide) ?_
  refine z_iadd B dL_law_275 ?_
  refine z_seti (y := 4) (by decide) ?_
  refine z_sld (j := 4) (x := x4) B hX hbl hbA (by decide) (show ¬ ((4 : Int32) < 0 ∨ 6 ≤ (4 : Int32).toNatClampNeg) by decide) h_x4 dL_law_276 ?_
  refine z_aload_n B dL_law_277 rfl 4 rfl ?_
  refine z_iload B dL_law_278 0 rfl ?_
  refine z_iconst (v := 5) B dL_law_280 (by decide) ?_
  refine z_iadd B dL_law_281 ?_
  refine z_seti (y := 5) (by decide) ?_
  refine z_sld (j := 5) (x := x5) B hX hbl hbA (by decide) (show ¬ ((5 : Int32) < 0 ∨ 6 ≤ (5 : Int32).toNatClampNeg) by decide) h_x5 dL_law_282 ?_
  refine z_aload_n B dL_law_283 rfl 1 rfl ?_
  refine z_cSWi (As := [.ref (b + 0), .int 5, .int x2, .int x3, .int x4, .int x5, .ref (b + 431)]) (rest := []) B cw_L_84 dL_law_284 (ci_L_check_632 l hlt (σ := (ap b σ [] [] [])) (b := b) (lyA hK) x2 x3 x4 x5 q1_x2 q2_x2 (rR_at 0 0 (fz_R hF 0 0 rfl rfl)) (rR_at 1 5 (fz_R hF 1 5 rfl rfl))) rfl (by decide) rfl (Nat.le_of_ble_eq_true rfl) (by decide) (fun r u hu => ?_)
  obtain ⟨hu1, z, hu⟩ := hu
  refine z_eqs (σ' := (ap b (wx_Z σ z) [] [] [])) (hu.trans az_ap) ?_
  show zx p l e _ s m _ below meth c g 8 _ _ _ _ 287 [(4, .int 0), (3, .ref (b + 431)), (2, .ref (b + 405)), (1, .ref (b + 0)), (0, .ref bS)] _
  refine z_seti (y := 1) hu1 ?_
  refine z_istore (lv' := [(5, .int 1), (4, .int 0), (3, .ref (b + 431)), (2, .ref (b + 405)), (1, .ref (b + 0)), (0, .ref bS)]) B dL_law_287 (by decide) rfl ?_
  refine z_aload_n B dL_law_289 rfl 3 rfl ?_
  refine z_aload_n B dL_law_290 rfl 5 rfl ?_
  refine z_iload B dL_law_291 1 rfl ?_
  refine z_iconst (v := 1) B dL_law_293 (by decide) ?_
  refine z_iadd B dL_law_294 ?_
  refine z_seti (y := 1) (by decide) ?_
  refine z_sld (j := 1) (x := 5) B hX hbl hbA (by decide) (show ¬ ((1 : Int32) < 0 ∨ 6 ≤ (1 : Int32).toNatClampNeg) by decide) h_x1 dL_law_295 ?_
  refine z_aload_n B dL_law_296 rfl 5 rfl ?_
  refine z_iload B dL_law_297 1 rfl ?_
  refine z_iconst (v := 2) B dL_law_299 (by decide) ?_
  refine z_iadd B dL_law_300 ?_
  refine z_seti (y := 2) (by decide) ?_
  refine z_sld (j := 2) (x := x2) B hX hbl hbA (by decide) (show ¬ ((2 : Int32) < 0 ∨ 6 ≤ (2 : Int32).toNatClampNeg) by decide) h_x2 dL_law_301 ?_
  refine z_aload_n B dL_law_302 rfl 5 rfl ?_
  refine z_iload B dL_law_303 1 rfl ?_
  refine z_iconst (v := 3) B dL_law_305 (by decide) ?_
  refine z_iadd B dL_law_306 ?_
  refine z_seti (y := 3) (by decide) ?_
  refine z_sld (j := 3) (x := x3) B hX hbl hbA (by decide) (show ¬ ((3 : Int32) < 0 ∨ 6 ≤ (3 : Int32).toNatClampNeg) by decide) h_x3 dL_law_307 ?_
  refine z_aload_n B dL_law_308 rfl 5 rfl ?_
  refine z_iload B dL_law_309 1 rfl ?_
  refine z_iconst (v := 4) B dL_law_311 (by decide) ?_
  refine z_iadd B dL_law_312 ?_
  refine z_seti (y := 4) (by decide) ?_
  refine z_sld (j := 4) (x := x4) B hX hbl hbA (by decide) (show ¬ ((4 : Int32) < 0 ∨ 6 ≤ (4 : Int32).toNatClampNeg) by decide) h_x4 dL_law_313 ?_
  refine z_aload_n B dL_law_314 rfl 5 rfl ?_
  refine z_iload B dL_law_315 1 rfl ?_
  refine z_iconst (v := 5) B dL_law_317 (by decide) ?_
  refine z_iadd B dL_law_318 ?_
  refine z_seti (y := 5) (by decide) ?_
  refine z_sld (j := 5) (x := x5) B hX hbl hbA (by decide) (show ¬ ((5 : Int32) < 0 ∨ 6 ≤ (5 : Int32).toNatClampNeg) by decide) h_x5 dL_law_319 ?_
  refine z_cVi (As := [.int 5, .int x2, .int x3, .int x4, .int x5]) (rest := []) B cw_L_86 cx_10 dL_law_320 (ci_X9_check_636 l (σ := (ap b (wx_Z σ z) [] [] [])) (b := b) (lyA (lyZ hK)) x2 x3 x4 x5 q1_x2 q2_x2 q1_x3 q2_x3 q1_x4 q2_x4 q1_x5 q2_x5) (lKA (lKZ (hk_K hK 405 rfl rfl))) rfl (by decide) rfl (Nat.le_of_ble_eq_true rfl) (by decide) (fun r u hu => ?_)
  refine z_eqs (σ' := (ap b (wx_Z σ z) [(405, 0, 1)] [] [])) (hu.2.trans ap_ap) ?_
  show zx p l e _ s m _ below meth c g 8 _ _ _ _ 323 [(5, .int 1), (4, .int 0), (3, .ref (b + 431)), (2, .ref (b + 405)), (1, .ref (b + 0)), (0, .ref bS)] _
  refine z_seti (y := 0) hu.1 ?_
  refine z_istore (lv' := [(6, .int 0), (5, .int 1), (4, .int 0), (3, .ref (b + 431)), (2, .ref (b + 405)), (1, .ref (b + 0)), (0, .ref bS)]) B dL_law_323 (by decide) rfl ?_
  refine z_aload_n B dL_law_325 rfl 4 rfl ?_
  refine z_cVi (As := []) (rest := []) B cw_L_80 cx_10 dL_law_326 (ci_X9_thrown_31 l (σ := (ap b (wx_Z σ z) [(405, 0, 1)] [] [])) (b := b) (lyA (lyZ hK)) (rI_at 405 0 rfl)) (lKA (lKZ (hk_K hK 405 rfl rfl))) rfl (by decide) rfl (Nat.le_of_ble_eq_true rfl) (by decide) (fun r u hu => ?_)
  refine z_eqs (σ' := (ap b (wx_Z σ z) [(405, 0, 1)] [] [])) hu.2 ?_
  show zx p l e _ s m _ below meth c g 8 _ _ _ _ 329 [(6, .int 0), (5, .int 1), (4, .int 0), (3, .ref (b + 431)), (2, .ref (b + 405)), (1, .ref (b + 0)), (0, .ref bS)] _
  refine z_seti (y := 1) hu.1 ?_
  refine z_iload B dL_law_329 1 rfl ?_
  refine z_icmp_eq (tgt := 336) B dL_law_331 (by decide) (fun _ => ?_) (fun h => absurd (by decide) h)
  refine z_iload B dL_law_336 1 rfl ?_
  refine z_if_ne (tgt := 353) B dL_law_338 (by decide) (fun _ => ?_) (fun h => absurd h (by decide))
  refine z_goto (tgt := 1395) B dL_law_353 (by decide) ?_
  exact z_widen (Nat.le_of_ble_eq_true rfl) (Nat.le_of_ble_eq_true rfl) (z_sub _ [2, 6] rfl (kk _))
set_option maxRecDepth 100000 in
set_option maxHeartbeats 4000000 in
theorem lf_1_270 {p : Program} {l : Launch} {e : Env} {s : State} {m : MethodId} {args : Array Value} {below : List Frame} {meth : Method} {c : Code} {g : gx_T} {Q : State → Prop} {σ : sx_T} {b t bS : Nat} {xs : Nat → Int32} (hlt : l.stackTraces = false) (B : zx_B p s m args meth c code RL 8 g) (hX : va_X bS 6 xs s s.heap) (hbl : bS < s.heap.size) (hbA : ¬ gx_b g ≤ bS) (hF : fz_P b t σ) (h_x1 : xs 1 = 5) {x2 : Int32} (h_x2 : xs 2 = x2) (q1_x2 : (20 : Int) ≤ x2.toInt) (q2_x2 : x2.toInt ≤ (2147483647 : Int)) {x3 : Int32} (h_x3 : xs 3 = x3) (q1_x3 : (0 : Int) ≤ x3.toInt) (q2_x3 : x3.toInt ≤ (17 : Int)) {x4 : Int32} (h_x4 : xs 4 = x4) (q1_x4 : (0 : Int) ≤ x4.toInt) (q2_x4 : x4.toInt ≤ (99 : Int)) {x5 : Int32} (h_x5 : xs 5 = x5) (q1_x5 : (100 : Int) ≤ x5.toInt) (q2_x5 : x5.toInt ≤ (2147483647 : Int)) (kk : ∀ σ', zx p l e room_1 s m args below meth c g 8 600002 7302232 Q σ' 1395 [(4, .int 0), (0, .ref bS)] []) : zx p l e room_1 s m args below meth c g 8 500 100000 Q σ 252 [(4, .int 0), (3, .ref (b + 431)), (2, .ref (b + 405)), (1, .ref (b + 0)), (0, .ref bS)] [] := by
  have hK := fz_lay hF
  refine z_eqs (σ' := (ap b σ [] [] [])) rfl ?_
  refine z_aload_n B dL_law_252 rfl 3 rfl ?_
  refine z_aload_n B dL_law_253 rfl 4 rfl ?_
  refine z_iload B dL_law_254 0 rfl ?_
  refine z_iconst (v := 1) B dL_law_256 (by decide) ?_
  refine z_iadd B dL_law_257 ?_
  refine z_seti (y := 1) (by decide) ?_
  refine z_sld (j := 1) (x := 5) B hX hbl hbA (by decide) (show ¬ ((1 : Int32) < 0 ∨ 6 ≤ (1 : Int32).toNatClampNeg) by decide) h_x1 dL_law_258 ?_
  refine z_aload_n B dL_law_259 rfl 4 rfl ?_
  refine z_iload B dL_law_260 0 rfl ?_
  refine z_iconst (v := 2) B dL_law_262 (by decide) ?_
  refine z_iadd B dL_law_263 ?_
  refine z_seti (y := 2) (by decide) ?_
  refine z_sld (j := 2) (x := x2) B hX hbl hbA (by decide) (show ¬ ((2 : Int32) < 0 ∨ 6 ≤ (2 : Int32).toNatClampNeg) by decide) h_x2 dL_law_264 ?_
  refine z_aload_n B dL_law_265 rfl 4 rfl ?_
  refine z_iload B dL_law_266 0 rfl ?_
  refine z_iconst (v := 3) B dL_law_268 (by decide) ?_
  refine z_iadd B dL_law_269 ?_
  refine z_seti (y := 3) (by decide) ?_
  refine z_sld (j := 3) (x := x3) B hX hbl hbA (by decide) (show ¬ ((3 : Int32) < 0 ∨ 6 ≤ (3 : Int32).toNatClampNeg) by decide) h_x3 dL_law_270 ?_
  refine z_aload_n B dL_law_271 rfl 4 rfl ?_
  refine z_iload B dL_law_272 0 rfl ?_
  refine z_iconst (v := 4) B dL_law_274 (by decide) ?_
  refine z_iadd B dL_law_275 ?_
  refine z_seti (y := 4) (by decide) ?_
  refine z_sld (j := 4) (x := x4) B hX hbl hbA (by decide) (show ¬ ((4 : Int32) < 0 ∨ 6 ≤ (4 : Int32).toNatClampNeg) by decide) h_x4 dL_law_276 ?_
  refine z_aload_n B dL_law_277 rfl 4 rfl ?_
  refine z_iload B dL_law_278 0 rfl ?_
  refine z_iconst (v := 5) B dL_law_280 (by decide) ?_
  refine z_iadd B dL_law_281 ?_
  refine z_seti (y := 5) (by decide) ?_
  refine z_sld (j := 5) (x := x5) B hX hbl hbA (by decide) (show ¬ ((5 : Int32) < 0 ∨ 6 ≤ (5 : Int32).toNatClampNeg) by decide) h_x5 dL_law_282 ?_
  refine z_aload_n B dL_law_283 rfl 1 rfl ?_
  refine z_cSWi (As := [.ref (b + 0), .int 5, .int x2, .int x3, .int x4, .int x5, .ref (b + 431)]) (rest := []) B cw_L_84 dL_law_284 (ci_L_check_632 l hlt (σ := (ap b σ [] [] [])) (b := b) (lyA hK) x2 x3 x4 x5 q1_x2 q2_x2 (rR_at 0 0 (fz_R hF 0 0 rfl rfl)) (rR_at 1 5 (fz_R hF 1 5 rfl rfl))) rfl (by decide) rfl (Nat.le_of_ble_eq_true rfl) (by decide) (fun r u hu => ?_)
  obtain ⟨hu1, z, hu⟩ := hu
  refine z_eqs (σ' := (ap b (wx_Z σ z) [] [] [])) (hu.trans az_ap) ?_
  show zx p l e _ s m _ below meth c g 8 _ _ _ _ 287 [(4, .int 0), (3, .ref (b + 431)), (2, .ref (b + 405)), (1, .ref (b + 0)), (0, .ref bS)] _
  refine z_seti (y := 1) hu1 ?_
  refine z_istore (lv' := [(5, .int 1), (4, .int 0), (3, .ref (b + 431)), (2, .ref (b + 405)), (1, .ref (b + 0)), (0, .ref bS)]) B dL_law_287 (by decide) rfl ?_
  refine z_aload_n B dL_law_289 rfl 3 rfl ?_
  refine z_aload_n B dL_law_290 rfl 5 rfl ?_
  refine z_iload B dL_law_291 1 rfl ?_
  refine z_iconst (v := 1) B dL_law_293 (by decide) ?_
  refine z_iadd B dL_law_294 ?_
  refine z_seti (y := 1) (by decide) ?_
  refine z_sld (j := 1) (x := 5) B hX hbl hbA (by decide) (show ¬ ((1 : Int32) < 0 ∨ 6 ≤ (1 : Int32).toNatClampNeg) by decide) h_x1 dL_law_295 ?_
  refine z_aload_n B dL_law_296 rfl 5 rfl ?_
  refine z_iload B dL_law_297 1 rfl ?_
  refine z_iconst (v := 2) B dL_law_299 (by decide) ?_
  refine z_iadd B dL_law_300 ?_
  refine z_seti (y := 2) (by decide) ?_
  refine z_sld (j := 2) (x := x2) B hX hbl hbA (by decide) (show ¬ ((2 : Int32) < 0 ∨ 6 ≤ (2 : Int32).toNatClampNeg) by decide) h_x2 dL_law_301 ?_
  refine z_aload_n B dL_law_302 rfl 5 rfl ?_
  refine z_iload B dL_law_303 1 rfl ?_
  refine z_iconst (v := 3) B dL_law_305 (by decide) ?_
  refine z_iadd B dL_law_306 ?_
  refine z_seti (y := 3) (by decide) ?_
  refine z_sld (j := 3) (x := x3) B hX hbl hbA (by decide) (show ¬ ((3 : Int32) < 0 ∨ 6 ≤ (3 : Int32).toNatClampNeg) by decide) h_x3 dL_law_307 ?_
  refine z_aload_n B dL_law_308 rfl 5 rfl ?_
  refine z_iload B dL_law_309 1 rfl ?_
  refine z_iconst (v := 4) B dL_law_311 (by decide) ?_
  refine z_iadd B dL_law_312 ?_
  refine z_seti (y := 4) (by decide) ?_
  refine z_sld (j := 4) (x := x4) B hX hbl hbA (by decide) (show ¬ ((4 : Int32) < 0 ∨ 6 ≤ (4 : Int32).toNatClampNeg) by decide) h_x4 dL_law_313 ?_
  refine z_aload_n B dL_law_314 rfl 5 rfl ?_
  refine z_iload B dL_law_315 1 rfl ?_
  refine z_iconst (v := 5) B dL_law_317 (by decide) ?_
  refine z_iadd B dL_law_318 ?_
  refine z_seti (y := 5) (by decide) ?_
  refine z_sld (j := 5) (x := x5) B hX hbl hbA (by decide) (show ¬ ((5 : Int32) < 0 ∨ 6 ≤ (5 : Int32).toNatClampNeg) by decide) h_x5 dL_law_319 ?_
  refine z_cVi (As := [.int 5, .int x2, .int x3, .int x4, .int x5]) (rest := []) B cw_L_86 cx_10 dL_law_320 (ci_X9_check_637 l (σ := (ap b (wx_Z σ z) [] [] [])) (b := b) (lyA (lyZ hK)) x2 x3 x4 x5 q1_x2 q2_x2 q1_x3 q2_x3 q1_x4 q2_x4 q1_x5 q2_x5) (lKA (lKZ (hk_K hK 405 rfl rfl))) rfl (by decide) rfl (Nat.le_of_ble_eq_true rfl) (by decide) (fun r u hu => ?_)
  refine z_eqs (σ' := (ap b (wx_Z σ z) [(405, 0, 1)] [] [])) (hu.2.trans ap_ap) ?_
  show zx p l e _ s m _ below meth c g 8 _ _ _ _ 323 [(5, .int 1), (4, .int 0), (3, .ref (b + 431)), (2, .ref (b + 405)), (1, .ref (b + 0)), (0, .ref bS)] _
  refine z_seti (y := 0) hu.1 ?_
  refine z_istore (lv' := [(6, .int 0), (5, .int 1), (4, .int 0), (3, .ref (b + 431)), (2, .ref (b + 405)), (1, .ref (b + 0)), (0, .ref bS)]) B dL_law_323 (by decide) rfl ?_
  refine z_aload_n B dL_law_325 rfl 4 rfl ?_
  refine z_cVi (As := []) (rest := []) B cw_L_80 cx_10 dL_law_326 (ci_X9_thrown_31 l (σ := (ap b (wx_Z σ z) [(405, 0, 1)] [] [])) (b := b) (lyA (lyZ hK)) (rI_at 405 0 rfl)) (lKA (lKZ (hk_K hK 405 rfl rfl))) rfl (by decide) rfl (Nat.le_of_ble_eq_true rfl) (by decide) (fun r u hu => ?_)
  refine z_eqs (σ' := (ap b (wx_Z σ z) [(405, 0, 1)] [] [])) hu.2 ?_
  show zx p l e _ s m _ below meth c g 8 _ _ _ _ 329 [(6, .int 0), (5, .int 1), (4, .int 0), (3, .ref (b + 431)), (2, .ref (b + 405)), (1, .ref (b + 0)), (0, .ref bS)] _
  refine z_seti (y := 1) hu.1 ?_
  refine z_iload B dL_law_329 1 rfl ?_
  refine z_icmp_eq (tgt := 336) B dL_law_331 (by decide) (fun _ => ?_) (fun h => absurd (by decide) h)
  refine z_iload B dL_law_336 1 rfl ?_
  refine z_if_ne (tgt := 353) B dL_law_338 (by decide) (fun _ => ?_) (fun h => absurd h (by decide))
  refine z_goto (tgt := 1395) B dL_law_353 (by decide) ?_
  exact z_widen (Nat.le_of_ble_eq_true rfl) (Nat.le_of_ble_eq_true rfl) (z_sub _ [2, 6] rfl (kk _))
set_option maxRecDepth 100000 in
set_option maxHeartbeats 4000000 in
theorem lf_1_271 {p : Program} {l : Launch} {e : Env} {s : State} {m : MethodId} {args : Array Value} {below : List Frame} {meth : Method} {c : Code} {g : gx_T} {Q : State → Prop} {σ : sx_T} {b t bS : Nat} {xs : Nat → Int32} (hlt : l.stackTraces = false) (B : zx_B p s m args meth c code RL 8 g) (hX : va_X bS 6 xs s s.heap) (hbl : bS < s.heap.size) (hbA : ¬ gx_b g ≤ bS) (hF : fz_P b t σ) (h_x1 : xs 1 = 5) {x2 : Int32} (h_x2 : xs 2 = x2) (q1_x2 : (20 : Int) ≤ x2.toInt) (q2_x2 : x2.toInt ≤ (2147483647 : Int)) {x3 : Int32} (h_x3 : xs 3 = x3) (q1_x3 : (0 : Int) ≤ x3.toInt) (q2_x3 : x3.toInt ≤ (17 : Int)) {x4 : Int32} (h_x4 : xs 4 = x4) (q1_x4 : (100 : Int) ≤ x4.toInt) (q2_x4 : x4.toInt ≤ (2147483647 : Int)) {x5 : Int32} (h_x5 : xs 5 = x5) (q1_x5 : (-2147483648 : Int) ≤ x5.toInt) (q2_x5 : x5.toInt ≤ (2147483647 : Int)) (kk : ∀ σ', zx p l e room_1 s m args below meth c g 8 600002 7302232 Q σ' 1395 [(4, .int 0), (0, .ref bS)] []) : zx p l e room_1 s m args below meth c g 8 500 100000 Q σ 252 [(4, .int 0), (3, .ref (b + 431)), (2, .ref (b + 405)), (1, .ref (b + 0)), (0, .ref bS)] [] := by
  have hK := fz_lay hF
  refine z_eqs (σ' := (ap b σ [] [] [])) rfl ?_
  refine z_aload_n B dL_law_252 rfl 3 rfl ?_
  refine z_aload_n B dL_law_253 rfl 4 rfl ?_
  refine z_iload B dL_law_254 0 rfl ?_
  refine z_iconst (v := 1) B dL_law_256 (by decide) ?_
  refine z_iadd B dL_law_257 ?_
  refine z_seti (y := 1) (by decide) ?_
  refine z_sld (j := 1) (x := 5) B hX hbl hbA (by decide) (show ¬ ((1 : Int32) < 0 ∨ 6 ≤ (1 : Int32).toNatClampNeg) by decide) h_x1 dL_law_258 ?_
  refine z_aload_n B dL_law_259 rfl 4 rfl ?_
  refine z_iload B dL_law_260 0 rfl ?_
  refine z_iconst (v := 2) B dL_law_262 (by decide) ?_
  refine z_iadd B dL_law_263 ?_
  refine z_seti (y := 2) (by decide) ?_
  refine z_sld (j := 2) (x := x2) B hX hbl hbA (by decide) (show ¬ ((2 : Int32) < 0 ∨ 6 ≤ (2 : Int32).toNatClampNeg) by decide) h_x2 dL_law_264 ?_
  refine z_aload_n B dL_law_265 rfl 4 rfl ?_
  refine z_iload B dL_law_266 0 rfl ?_
  refine z_iconst (v := 3) B dL_law_268 (by decide) ?_
  refine z_iadd B dL_law_269 ?_
  refine z_seti (y := 3) (by decide) ?_
  refine z_sld (j := 3) (x := x3) B hX hbl hbA (by decide) (show ¬ ((3 : Int32) < 0 ∨ 6 ≤ (3 : Int32).toNatClampNeg) by decide) h_x3 dL_law_270 ?_
  refine z_aload_n B dL_law_271 rfl 4 rfl ?_
  refine z_iload B dL_law_272 0 rfl ?_
  refine z_iconst (v := 4) B dL_law_274 (by decide) ?_
  refine z_iadd B dL_law_275 ?_
  refine z_seti (y := 4) (by decide) ?_
  refine z_sld (j := 4) (x := x4) B hX hbl hbA (by decide) (show ¬ ((4 : Int32) < 0 ∨ 6 ≤ (4 : Int32).toNatClampNeg) by decide) h_x4 dL_law_276 ?_
  refine z_aload_n B dL_law_277 rfl 4 rfl ?_
  refine z_iload B dL_law_278 0 rfl ?_
  refine z_iconst (v := 5) B dL_law_280 (by decide) ?_
  refine z_iadd B dL_law_281 ?_
  refine z_seti (y := 5) (by decide) ?_
  refine z_sld (j := 5) (x := x5) B hX hbl hbA (by decide) (show ¬ ((5 : Int32) < 0 ∨ 6 ≤ (5 : Int32).toNatClampNeg) by decide) h_x5 dL_law_282 ?_
  refine z_aload_n B dL_law_283 rfl 1 rfl ?_
  refine z_cSWi (As := [.ref (b + 0), .int 5, .int x2, .int x3, .int x4, .int x5, .ref (b + 431)]) (rest := []) B cw_L_84 dL_law_284 (ci_L_check_632 l hlt (σ := (ap b σ [] [] [])) (b := b) (lyA hK) x2 x3 x4 x5 q1_x2 q2_x2 (rR_at 0 0 (fz_R hF 0 0 rfl rfl)) (rR_at 1 5 (fz_R hF 1 5 rfl rfl))) rfl (by decide) rfl (Nat.le_of_ble_eq_true rfl) (by decide) (fun r u hu => ?_)
  obtain ⟨hu1, z, hu⟩ := hu
  refine z_eqs (σ' := (ap b (wx_Z σ z) [] [] [])) (hu.trans az_ap) ?_
  show zx p l e _ s m _ below meth c g 8 _ _ _ _ 287 [(4, .int 0), (3, .ref (b + 431)), (2, .ref (b + 405)), (1, .ref (b + 0)), (0, .ref bS)] _
  refine z_seti (y := 1) hu1 ?_
  refine z_istore (lv' := [(5, .int 1), (4, .int 0), (3, .ref (b + 431)), (2, .ref (b + 405)), (1, .ref (b + 0)), (0, .ref bS)]) B dL_law_287 (by decide) rfl ?_
  refine z_aload_n B dL_law_289 rfl 3 rfl ?_
  refine z_aload_n B dL_law_290 rfl 5 rfl ?_
  refine z_iload B dL_law_291 1 rfl ?_
  refine z_iconst (v := 1) B dL_law_293 (by decide) ?_
  refine z_iadd B dL_law_294 ?_
  refine z_seti (y := 1) (by decide) ?_
  refine z_sld (j := 1) (x := 5) B hX hbl hbA (by decide) (show ¬ ((1 : Int32) < 0 ∨ 6 ≤ (1 : Int32).toNatClampNeg) by decide) h_x1 dL_law_295 ?_
  refine z_aload_n B dL_law_296 rfl 5 rfl ?_
  refine z_iload B dL_law_297 1 rfl ?_
  refine z_iconst (v := 2) B dL_law_299 (by decide) ?_
  refine z_iadd B dL_law_300 ?_
  refine z_seti (y := 2) (by decide) ?_
  refine z_sld (j := 2) (x := x2) B hX hbl hbA (by decide) (show ¬ ((2 : Int32) < 0 ∨ 6 ≤ (2 : Int32).toNatClampNeg) by decide) h_x2 dL_law_301 ?_
  refine z_aload_n B dL_law_302 rfl 5 rfl ?_
  refine z_iload B dL_law_303 1 rfl ?_
  refine z_iconst (v := 3) B dL_law_305 (by decide) ?_
  refine z_iadd B dL_law_306 ?_
  refine z_seti (y := 3) (by decide) ?_
  refine z_sld (j := 3) (x := x3) B hX hbl hbA (by decide) (show ¬ ((3 : Int32) < 0 ∨ 6 ≤ (3 : Int32).toNatClampNeg) by decide) h_x3 dL_law_307 ?_
  refine z_aload_n B dL_law_308 rfl 5 rfl ?_
  refine z_iload B dL_law_309 1 rfl ?_
  refine z_iconst (v := 4) B dL_law_311 (by decide) ?_
  refine z_iadd B dL_law_312 ?_
  refine z_seti (y := 4) (by decide) ?_
  refine z_sld (j := 4) (x := x4) B hX hbl hbA (by decide) (show ¬ ((4 : Int32) < 0 ∨ 6 ≤ (4 : Int32).toNatClampNeg) by decide) h_x4 dL_law_313 ?_
  refine z_aload_n B dL_law_314 rfl 5 rfl ?_
  refine z_iload B dL_law_315 1 rfl ?_
  refine z_iconst (v := 5) B dL_law_317 (by decide) ?_
  refine z_iadd B dL_law_318 ?_
  refine z_seti (y := 5) (by decide) ?_
  refine z_sld (j := 5) (x := x5) B hX hbl hbA (by decide) (show ¬ ((5 : Int32) < 0 ∨ 6 ≤ (5 : Int32).toNatClampNeg) by decide) h_x5 dL_law_319 ?_
  refine z_cVi (As := [.int 5, .int x2, .int x3, .int x4, .int x5]) (rest := []) B cw_L_86 cx_10 dL_law_320 (ci_X9_check_638 l (σ := (ap b (wx_Z σ z) [] [] [])) (b := b) (lyA (lyZ hK)) x2 x3 x4 x5 q1_x2 q2_x2 q1_x3 q2_x3 q1_x4 q2_x4) (lKA (lKZ (hk_K hK 405 rfl rfl))) rfl (by decide) rfl (Nat.le_of_ble_eq_true rfl) (by decide) (fun r u hu => ?_)
  refine z_eqs (σ' := (ap b (wx_Z σ z) [(405, 0, 1)] [] [])) (hu.2.trans ap_ap) ?_
  show zx p l e _ s m _ below meth c g 8 _ _ _ _ 323 [(5, .int 1), (4, .int 0), (3, .ref (b + 431)), (2, .ref (b + 405)), (1, .ref (b + 0)), (0, .ref bS)] _
  refine z_seti (y := 0) hu.1 ?_
  refine z_istore (lv' := [(6, .int 0), (5, .int 1), (4, .int 0), (3, .ref (b + 431)), (2, .ref (b + 405)), (1, .ref (b + 0)), (0, .ref bS)]) B dL_law_323 (by decide) rfl ?_
  refine z_aload_n B dL_law_325 rfl 4 rfl ?_
  refine z_cVi (As := []) (rest := []) B cw_L_80 cx_10 dL_law_326 (ci_X9_thrown_31 l (σ := (ap b (wx_Z σ z) [(405, 0, 1)] [] [])) (b := b) (lyA (lyZ hK)) (rI_at 405 0 rfl)) (lKA (lKZ (hk_K hK 405 rfl rfl))) rfl (by decide) rfl (Nat.le_of_ble_eq_true rfl) (by decide) (fun r u hu => ?_)
  refine z_eqs (σ' := (ap b (wx_Z σ z) [(405, 0, 1)] [] [])) hu.2 ?_
  show zx p l e _ s m _ below meth c g 8 _ _ _ _ 329 [(6, .int 0), (5, .int 1), (4, .int 0), (3, .ref (b + 431)), (2, .ref (b + 405)), (1, .ref (b + 0)), (0, .ref bS)] _
  refine z_seti (y := 1) hu.1 ?_
  refine z_iload B dL_law_329 1 rfl ?_
  refine z_icmp_eq (tgt := 336) B dL_law_331 (by decide) (fun _ => ?_) (fun h => absurd (by decide) h)
  refine z_iload B dL_law_336 1 rfl ?_
  refine z_if_ne (tgt := 353) B dL_law_338 (by decide) (fun _ => ?_) (fun h => absurd h (by decide))
  refine z_goto (tgt := 1395) B dL_law_353 (by decide) ?_
  exact z_widen (Nat.le_of_ble_eq_true rfl) (Nat.le_of_ble_eq_true rfl) (z_sub _ [2, 6] rfl (kk _))
set_option maxRecDepth 100000 in
set_option maxHeartbeats 4000000 in
theorem lf_1_272 {p : Program} {l : Launch} {e : Env} {s : State} {m : MethodId} {args : Array Value} {below : List Frame} {meth : Method} {c : Code} {g : gx_T} {Q : State → Prop} {σ : sx_T} {b t bS : Nat} {xs : Nat → Int32} (hlt : l.stackTraces = false) (B : zx_B p s m args meth c code RL 8 g) (hX : va_X bS 6 xs s s.heap) (hbl : bS < s.heap.size) (hbA : ¬ gx_b g ≤ bS) (hF : fz_P b t σ) (h_x1 : xs 1 = 5) {x2 : Int32} (h_x2 : xs 2 = x2) (q1_x2 : (20 : Int) ≤ x2.toInt) (q2_x2 : x2.toInt ≤ (2147483647 : Int)) {x3 : Int32} (h_x3 : xs 3 = x3) (q1_x3 : (18 : Int) ≤ x3.toInt) (q2_x3 : x3.toInt ≤ (2147483647 : Int)) {x4 : Int32} (h_x4 : xs 4 = x4) (q1_x4 : (-2147483648 : Int) ≤ x4.toInt) (q2_x4 : x4.toInt ≤ (2147483647 : Int)) {x5 : Int32} (h_x5 : xs 5 = x5) (q1_x5 : (-2147483648 : Int) ≤ x5.toInt) (q2_x5 : x5.toInt ≤ (2147483647 : Int)) (kk : ∀ σ', zx p l e room_1 s m args below meth c g 8 600002 7302232 Q σ' 1395 [(4, .int 0), (0, .ref bS)] []) : zx p l e room_1 s m args below meth c g 8 500 100000 Q σ 252 [(4, .int 0), (3, .ref (b + 431)), (2, .ref (b + 405)), (1, .ref (b + 0)), (0, .ref bS)] [] := by
  have hK := fz_lay hF
  refine z_eqs (σ' := (ap b σ [] [] [])) rfl ?_
  refine z_aload_n B dL_law_252 rfl 3 rfl ?_
  refine z_aload_n B dL_law_253 rfl 4 rfl ?_
  refine z_iload B dL_law_254 0 rfl ?_
  refine z_iconst (v := 1) B dL_law_256 (by decide) ?_
  refine z_iadd B dL_law_257 ?_
  refine z_seti (y := 1) (by decide) ?_
  refine z_sld (j := 1) (x := 5) B hX hbl hbA (by decide) (show ¬ ((1 : Int32) < 0 ∨ 6 ≤ (1 : Int32).toNatClampNeg) by decide) h_x1 dL_law_258 ?_
  refine z_aload_n B dL_law_259 rfl 4 rfl ?_
  refine z_iload B dL_law_260 0 rfl ?_
  refine z_iconst (v := 2) B dL_law_262 (by decide) ?_
  refine z_iadd B dL_law_263 ?_
  refine z_seti (y := 2) (by decide) ?_
  refine z_sld (j := 2) (x := x2) B hX hbl hbA (by decide) (show ¬ ((2 : Int32) < 0 ∨ 6 ≤ (2 : Int32).toNatClampNeg) by decide) h_x2 dL_law_264 ?_
  refine z_aload_n B dL_law_265 rfl 4 rfl ?_
  refine z_iload B dL_law_266 0 rfl ?_
  refine z_iconst (v := 3) B dL_law_268 (by decide) ?_
  refine z_iadd B dL_law_269 ?_
  refine z_seti (y := 3) (by decide) ?_
  refine z_sld (j := 3) (x := x3) B hX hbl hbA (by decide) (show ¬ ((3 : Int32) < 0 ∨ 6 ≤ (3 : Int32).toNatClampNeg) by decide) h_x3 dL_law_270 ?_
  refine z_aload_n B dL_law_271 rfl 4 rfl ?_
  refine z_iload B dL_law_272 0 rfl ?_
  refine z_iconst (v := 4) B dL_law_274 (by decide) ?_
  refine z_iadd B dL_law_275 ?_
  refine z_seti (y := 4) (by decide) ?_
  refine z_sld (j := 4) (x := x4) B hX hbl hbA (by decide) (show ¬ ((4 : Int32) < 0 ∨ 6 ≤ (4 : Int32).toNatClampNeg) by decide) h_x4 dL_law_276 ?_
  refine z_aload_n B dL_law_277 rfl 4 rfl ?_
  refine z_iload B dL_law_278 0 rfl ?_
  refine z_iconst (v := 5) B dL_law_280 (by decide) ?_
  refine z_iadd B dL_law_281 ?_
  refine z_seti (y := 5) (by decide) ?_
  refine z_sld (j := 5) (x := x5) B hX hbl hbA (by decide) (show ¬ ((5 : Int32) < 0 ∨ 6 ≤ (5 : Int32).toNatClampNeg) by decide) h_x5 dL_law_282 ?_
  refine z_aload_n B dL_law_283 rfl 1 rfl ?_
  refine z_cSWi (As := [.ref (b + 0), .int 5, .int x2, .int x3, .int x4, .int x5, .ref (b + 431)]) (rest := []) B cw_L_84 dL_law_284 (ci_L_check_632 l hlt (σ := (ap b σ [] [] [])) (b := b) (lyA hK) x2 x3 x4 x5 q1_x2 q2_x2 (rR_at 0 0 (fz_R hF 0 0 rfl rfl)) (rR_at 1 5 (fz_R hF 1 5 rfl rfl))) rfl (by decide) rfl (Nat.le_of_ble_eq_true rfl) (by decide) (fun r u hu => ?_)
  obtain ⟨hu1, z, hu⟩ := hu
  refine z_eqs (σ' := (ap b (wx_Z σ z) [] [] [])) (hu.trans az_ap) ?_
  show zx p l e _ s m _ below meth c g 8 _ _ _ _ 287 [(4, .int 0), (3, .ref (b + 431)), (2, .ref (b + 405)), (1, .ref (b + 0)), (0, .ref bS)] _
  refine z_seti (y := 1) hu1 ?_
  refine z_istore (lv' := [(5, .int 1), (4, .int 0), (3, .ref (b + 431)), (2, .ref (b + 405)), (1, .ref (b + 0)), (0, .ref bS)]) B dL_law_287 (by decide) rfl ?_
  refine z_aload_n B dL_law_289 rfl 3 rfl ?_
  refine z_aload_n B dL_law_290 rfl 5 rfl ?_
  refine z_iload B dL_law_291 1 rfl ?_
  refine z_iconst (v := 1) B dL_law_293 (by decide) ?_
  refine z_iadd B dL_law_294 ?_
  refine z_seti (y := 1) (by decide) ?_
  refine z_sld (j := 1) (x := 5) B hX hbl hbA (by decide) (show ¬ ((1 : Int32) < 0 ∨ 6 ≤ (1 : Int32).toNatClampNeg) by decide) h_x1 dL_law_295 ?_
  refine z_aload_n B dL_law_296 rfl 5 rfl ?_
  refine z_iload B dL_law_297 1 rfl ?_
  refine z_iconst (v := 2) B dL_law_299 (by decide) ?_
  refine z_iadd B dL_law_300 ?_
  refine z_seti (y := 2) (by decide) ?_
  refine z_sld (j := 2) (x := x2) B hX hbl hbA (by decide) (show ¬ ((2 : Int32) < 0 ∨ 6 ≤ (2 : Int32).toNatClampNeg) by decide) h_x2 dL_law_301 ?_
  refine z_aload_n B dL_law_302 rfl 5 rfl ?_
  refine z_iload B dL_law_303 1 rfl ?_
  refine z_iconst (v := 3) B dL_law_305 (by decide) ?_
  refine z_iadd B dL_law_306 ?_
  refine z_seti (y := 3) (by decide) ?_
  refine z_sld (j := 3) (x := x3) B hX hbl hbA (by decide) (show ¬ ((3 : Int32) < 0 ∨ 6 ≤ (3 : Int32).toNatClampNeg) by decide) h_x3 dL_law_307 ?_
  refine z_aload_n B dL_law_308 rfl 5 rfl ?_
  refine z_iload B dL_law_309 1 rfl ?_
  refine z_iconst (v := 4) B dL_law_311 (by decide) ?_
  refine z_iadd B dL_law_312 ?_
  refine z_seti (y := 4) (by decide) ?_
  refine z_sld (j := 4) (x := x4) B hX hbl hbA (by decide) (show ¬ ((4 : Int32) < 0 ∨ 6 ≤ (4 : Int32).toNatClampNeg) by decide) h_x4 dL_law_313 ?_
  refine z_aload_n B dL_law_314 rfl 5 rfl ?_
  refine z_iload B dL_law_315 1 rfl ?_
  refine z_iconst (v := 5) B dL_law_317 (by decide) ?_
  refine z_iadd B dL_law_318 ?_
  refine z_seti (y := 5) (by decide) ?_
  refine z_sld (j := 5) (x := x5) B hX hbl hbA (by decide) (show ¬ ((5 : Int32) < 0 ∨ 6 ≤ (5 : Int32).toNatClampNeg) by decide) h_x5 dL_law_319 ?_
  refine z_cVi (As := [.int 5, .int x2, .int x3, .int x4, .int x5]) (rest := []) B cw_L_86 cx_10 dL_law_320 (ci_X9_check_639 l (σ := (ap b (wx_Z σ z) [] [] [])) (b := b) (lyA (lyZ hK)) x2 x3 x4 x5 q1_x2 q2_x2 q1_x3 q2_x3) (lKA (lKZ (hk_K hK 405 rfl rfl))) rfl (by decide) rfl (Nat.le_of_ble_eq_true rfl) (by decide) (fun r u hu => ?_)
  refine z_eqs (σ' := (ap b (wx_Z σ z) [(405, 0, 1)] [] [])) (hu.2.trans ap_ap) ?_
  show zx p l e _ s m _ below meth c g 8 _ _ _ _ 323 [(5, .int 1), (4, .int 0), (3, .ref (b + 431)), (2, .ref (b + 405)), (1, .ref (b + 0)), (0, .ref bS)] _
  refine z_seti (y := 0) hu.1 ?_
  refine z_istore (lv' := [(6, .int 0), (5, .int 1), (4, .int 0), (3, .ref (b + 431)), (2, .ref (b + 405)), (1, .ref (b + 0)), (0, .ref bS)]) B dL_law_323 (by decide) rfl ?_
  refine z_aload_n B dL_law_325 rfl 4 rfl ?_
  refine z_cVi (As := []) (rest := []) B cw_L_80 cx_10 dL_law_326 (ci_X9_thrown_31 l (σ := (ap b (wx_Z σ z) [(405, 0, 1)] [] [])) (b := b) (lyA (lyZ hK)) (rI_at 405 0 rfl)) (lKA (lKZ (hk_K hK 405 rfl rfl))) rfl (by decide) rfl (Nat.le_of_ble_eq_true rfl) (by decide) (fun r u hu => ?_)
  refine z_eqs (σ' := (ap b (wx_Z σ z) [(405, 0, 1)] [] [])) hu.2 ?_
  show zx p l e _ s m _ below meth c g 8 _ _ _ _ 329 [(6, .int 0), (5, .int 1), (4, .int 0), (3, .ref (b + 431)), (2, .ref (b + 405)), (1, .ref (b + 0)), (0, .ref bS)] _
  refine z_seti (y := 1) hu.1 ?_
  refine z_iload B dL_law_329 1 rfl ?_
  refine z_icmp_eq (tgt := 336) B dL_law_331 (by decide) (fun _ => ?_) (fun h => absurd (by decide) h)
  refine z_iload B dL_law_336 1 rfl ?_
  refine z_if_ne (tgt := 353) B dL_law_338 (by decide) (fun _ => ?_) (fun h => absurd h (by decide))
  refine z_goto (tgt := 1395) B dL_law_353 (by decide) ?_
  exact z_widen (Nat.le_of_ble_eq_true rfl) (Nat.le_of_ble_eq_true rfl) (z_sub _ [2, 6] rfl (kk _))
set_option maxRecDepth 100000 in
set_option maxHeartbeats 4000000 in
theorem lf_1_273 {p : Program} {l : Launch} {e : Env} {s : State} {m : MethodId} {args : Array Value} {below : List Frame} {meth : Method} {c : Code} {g : gx_T} {Q : State → Prop} {σ : sx_T} {b t bS : Nat} {xs : Nat → Int32} (hlt : l.stackTraces = false) (B : zx_B p s m args meth c code RL 8 g) (hX : va_X bS 6 xs s s.heap) (hbl : bS < s.heap.size) (hbA : ¬ gx_b g ≤ bS) (hF : fz_P b t σ) {x1 : Int32} (h_x1 : xs 1 = x1) (q1_x1 : (6 : Int) ≤ x1.toInt) (q2_x1 : x1.toInt ≤ (2147483647 : Int)) {x2 : Int32} (h_x2 : xs 2 = x2) (q1_x2 : (-2147483648 : Int) ≤ x2.toInt) (q2_x2 : x2.toInt ≤ (2147483647 : Int)) {x3 : Int32} (h_x3 : xs 3 = x3) (q1_x3 : (-2147483648 : Int) ≤ x3.toInt) (q2_x3 : x3.toInt ≤ (-1 : Int)) {x4 : Int32} (h_x4 : xs 4 = x4) (q1_x4 : (-2147483648 : Int) ≤ x4.toInt) (q2_x4 : x4.toInt ≤ (2147483647 : Int)) {x5 : Int32} (h_x5 : xs 5 = x5) (q1_x5 : (-2147483648 : Int) ≤ x5.toInt) (q2_x5 : x5.toInt ≤ (2147483647 : Int)) (kk : ∀ σ', zx p l e room_1 s m args below meth c g 8 600002 7302232 Q σ' 1395 [(4, .int 0), (0, .ref bS)] []) : zx p l e room_1 s m args below meth c g 8 500 100000 Q σ 252 [(4, .int 0), (3, .ref (b + 431)), (2, .ref (b + 405)), (1, .ref (b + 0)), (0, .ref bS)] [] := by
  have hK := fz_lay hF
  refine z_eqs (σ' := (ap b σ [] [] [])) rfl ?_
  refine z_aload_n B dL_law_252 rfl 3 rfl ?_
  refine z_aload_n B dL_law_253 rfl 4 rfl ?_
  refine z_iload B dL_law_254 0 rfl ?_
  refine z_iconst (v := 1) B dL_law_256 (by decide) ?_
  refine z_iadd B dL_law_257 ?_
  refine z_seti (y := 1) (by decide) ?_
  refine z_sld (j := 1) (x := x1) B hX hbl hbA (by decide) (show ¬ ((1 : Int32) < 0 ∨ 6 ≤ (1 : Int32).toNatClampNeg) by decide) h_x1 dL_law_258 ?_
  refine z_aload_n B dL_law_259 rfl 4 rfl ?_
  refine z_iload B dL_law_260 0 rfl ?_
  refine z_iconst (v := 2) B dL_law_262 (by decide) ?_
  refine z_iadd B dL_law_263 ?_
  refine z_seti (y := 2) (by decide) ?_
  refine z_sld (j := 2) (x := x2) B hX hbl hbA (by decide) (show ¬ ((2 : Int32) < 0 ∨ 6 ≤ (2 : Int32).toNatClampNeg) by decide) h_x2 dL_law_264 ?_
  refine z_aload_n B dL_law_265 rfl 4 rfl ?_
  refine z_iload B dL_law_266 0 rfl ?_
  refine z_iconst (v := 3) B dL_law_268 (by decide) ?_
  refine z_iadd B dL_law_269 ?_
  refine z_seti (y := 3) (by decide) ?_
  refine z_sld (j := 3) (x := x3) B hX hbl hbA (by decide) (show ¬ ((3 : Int32) < 0 ∨ 6 ≤ (3 : Int32).toNatClampNeg) by decide) h_x3 dL_law_270 ?_
  refine z_aload_n B dL_law_271 rfl 4 rfl ?_
  refine z_iload B dL_law_272 0 rfl ?_
  refine z_iconst (v := 4) B dL_law_274 (by decide) ?_
  refine z_iadd B dL_law_275 ?_
  refine z_seti (y := 4) (by decide) ?_
  refine z_sld (j := 4) (x := x4) B hX hbl hbA (by decide) (show ¬ ((4 : Int32) < 0 ∨ 6 ≤ (4 : Int32).toNatClampNeg) by decide) h_x4 dL_law_276 ?_
  refine z_aload_n B dL_law_277 rfl 4 rfl ?_
  refine z_iload B dL_law_278 0 rfl ?_
  refine z_iconst (v := 5) B dL_law_280 (by decide) ?_
  refine z_iadd B dL_law_281 ?_
  refine z_seti (y := 5) (by decide) ?_
  refine z_sld (j := 5) (x := x5) B hX hbl hbA (by decide) (show ¬ ((5 : Int32) < 0 ∨ 6 ≤ (5 : Int32).toNatClampNeg) by decide) h_x5 dL_law_282 ?_
  refine z_aload_n B dL_law_283 rfl 1 rfl ?_
  refine z_cSWi (As := [.ref (b + 0), .int x1, .int x2, .int x3, .int x4, .int x5, .ref (b + 431)]) (rest := []) B cw_L_84 dL_law_284 (ci_L_check_641 l hlt (σ := (ap b σ [] [] [])) (b := b) (lyA hK) x1 x2 x3 x4 x5 q1_x1 q2_x1 (rR_at 0 0 (fz_R hF 0 0 rfl rfl))) rfl (by decide) rfl (Nat.le_of_ble_eq_true rfl) (by decide) (fun r u hu => ?_)
  obtain ⟨hu1, z, hu⟩ := hu
  refine z_eqs (σ' := (ap b (wx_Z σ z) [] [] [])) (hu.trans az_ap) ?_
  show zx p l e _ s m _ below meth c g 8 _ _ _ _ 287 [(4, .int 0), (3, .ref (b + 431)), (2, .ref (b + 405)), (1, .ref (b + 0)), (0, .ref bS)] _
  refine z_seti (y := 1) hu1 ?_
  refine z_istore (lv' := [(5, .int 1), (4, .int 0), (3, .ref (b + 431)), (2, .ref (b + 405)), (1, .ref (b + 0)), (0, .ref bS)]) B dL_law_287 (by decide) rfl ?_
  refine z_aload_n B dL_law_289 rfl 3 rfl ?_
  refine z_aload_n B dL_law_290 rfl 5 rfl ?_
  refine z_iload B dL_law_291 1 rfl ?_
  refine z_iconst (v := 1) B dL_law_293 (by decide) ?_
  refine z_iadd B dL_law_294 ?_
  refine z_seti (y := 1) (by decide) ?_
  refine z_sld (j := 1) (x := x1) B hX hbl hbA (by decide) (show ¬ ((1 : Int32) < 0 ∨ 6 ≤ (1 : Int32).toNatClampNeg) by decide) h_x1 dL_law_295 ?_
  refine z_aload_n B dL_law_296 rfl 5 rfl ?_
  refine z_iload B dL_law_297 1 rfl ?_
  refine z_iconst (v := 2) B dL_law_299 (by decide) ?_
  refine z_iadd B dL_law_300 ?_
  refine z_seti (y := 2) (by decide) ?_
  refine z_sld (j := 2) (x := x2) B hX hbl hbA (by decide) (show ¬ ((2 : Int32) < 0 ∨ 6 ≤ (2 : Int32).toNatClampNeg) by decide) h_x2 dL_law_301 ?_
  refine z_aload_n B dL_law_302 rfl 5 rfl ?_
  refine z_iload B dL_law_303 1 rfl ?_
  refine z_iconst (v := 3) B dL_law_305 (by decide) ?_
  refine z_iadd B dL_law_306 ?_
  refine z_seti (y := 3) (by decide) ?_
  refine z_sld (j := 3) (x := x3) B hX hbl hbA (by decide) (show ¬ ((3 : Int32) < 0 ∨ 6 ≤ (3 : Int32).toNatClampNeg) by decide) h_x3 dL_law_307 ?_
  refine z_aload_n B dL_law_308 rfl 5 rfl ?_
  refine z_iload B dL_law_309 1 rfl ?_
  refine z_iconst (v := 4) B dL_law_311 (by decide) ?_
  refine z_iadd B dL_law_312 ?_
  refine z_seti (y := 4) (by decide) ?_
  refine z_sld (j := 4) (x := x4) B hX hbl hbA (by decide) (show ¬ ((4 : Int32) < 0 ∨ 6 ≤ (4 : Int32).toNatClampNeg) by decide) h_x4 dL_law_313 ?_
  refine z_aload_n B dL_law_314 rfl 5 rfl ?_
  refine z_iload B dL_law_315 1 rfl ?_
  refine z_iconst (v := 5) B dL_law_317 (by decide) ?_
  refine z_iadd B dL_law_318 ?_
  refine z_seti (y := 5) (by decide) ?_
  refine z_sld (j := 5) (x := x5) B hX hbl hbA (by decide) (show ¬ ((5 : Int32) < 0 ∨ 6 ≤ (5 : Int32).toNatClampNeg) by decide) h_x5 dL_law_319 ?_
  refine z_cVi (As := [.int x1, .int x2, .int x3, .int x4, .int x5]) (rest := []) B cw_L_86 cx_10 dL_law_320 (ci_X9_check_642 l (σ := (ap b (wx_Z σ z) [] [] [])) (b := b) (lyA (lyZ hK)) x1 x2 x3 x4 x5 q1_x1 q2_x1 q1_x3 q2_x3) (lKA (lKZ (hk_K hK 405 rfl rfl))) rfl (by decide) rfl (Nat.le_of_ble_eq_true rfl) (by decide) (fun r u hu => ?_)
  refine z_eqs (σ' := (ap b (wx_Z σ z) [(405, 0, 1)] [] [])) (hu.2.trans ap_ap) ?_
  show zx p l e _ s m _ below meth c g 8 _ _ _ _ 323 [(5, .int 1), (4, .int 0), (3, .ref (b + 431)), (2, .ref (b + 405)), (1, .ref (b + 0)), (0, .ref bS)] _
  refine z_seti (y := 0) hu.1 ?_
  refine z_istore (lv' := [(6, .int 0), (5, .int 1), (4, .int 0), (3, .ref (b + 431)), (2, .ref (b + 405)), (1, .ref (b + 0)), (0, .ref bS)]) B dL_law_323 (by decide) rfl ?_
  refine z_aload_n B dL_law_325 rfl 4 rfl ?_
  refine z_cVi (As := []) (rest := []) B cw_L_80 cx_10 dL_law_326 (ci_X9_thrown_31 l (σ := (ap b (wx_Z σ z) [(405, 0, 1)] [] [])) (b := b) (lyA (lyZ hK)) (rI_at 405 0 rfl)) (lKA (lKZ (hk_K hK 405 rfl rfl))) rfl (by decide) rfl (Nat.le_of_ble_eq_true rfl) (by decide) (fun r u hu => ?_)
  refine z_eqs (σ' := (ap b (wx_Z σ z) [(405, 0, 1)] [] [])) hu.2 ?_
  show zx p l e _ s m _ below meth c g 8 _ _ _ _ 329 [(6, .int 0), (5, .int 1), (4, .int 0), (3, .ref (b + 431)), (2, .ref (b + 405)), (1, .ref (b + 0)), (0, .ref bS)] _
  refine z_seti (y := 1) hu.1 ?_
  refine z_iload B dL_law_329 1 rfl ?_
  refine z_icmp_eq (tgt := 336) B dL_law_331 (by decide) (fun _ => ?_) (fun h => absurd (by decide) h)
  refine z_iload B dL_law_336 1 rfl ?_
  refine z_if_ne (tgt := 353) B dL_law_338 (by decide) (fun _ => ?_) (fun h => absurd h (by decide))
  refine z_goto (tgt := 1395) B dL_law_353 (by decide) ?_
  exact z_widen (Nat.le_of_ble_eq_true rfl) (Nat.le_of_ble_eq_true rfl) (z_sub _ [2, 6] rfl (kk _))
set_option maxRecDepth 100000 in
set_option maxHeartbeats 4000000 in
theorem lf_1_274 {p : Program} {l : Launch} {e : Env} {s : State} {m : MethodId} {args : Array Value} {below : List Frame} {meth : Method} {c : Code} {g : gx_T} {Q : State → Prop} {σ : sx_T} {b t bS : Nat} {xs : Nat → Int32} (hlt : l.stackTraces = false) (B : zx_B p s m args meth c code RL 8 g) (hX : va_X bS 6 xs s s.heap) (hbl : bS < s.heap.size) (hbA : ¬ gx_b g ≤ bS) (hF : fz_P b t σ) {x1 : Int32} (h_x1 : xs 1 = x1) (q1_x1 : (6 : Int) ≤ x1.toInt) (q2_x1 : x1.toInt ≤ (2147483647 : Int)) {x2 : Int32} (h_x2 : xs 2 = x2) (q1_x2 : (-2147483648 : Int) ≤ x2.toInt) (q2_x2 : x2.toInt ≤ (2147483647 : Int)) {x3 : Int32} (h_x3 : xs 3 = x3) (q1_x3 : (0 : Int) ≤ x3.toInt) (q2_x3 : x3.toInt ≤ (17 : Int)) {x4 : Int32} (h_x4 : xs 4 = x4) (q1_x4 : (-2147483648 : Int) ≤ x4.toInt) (q2_x4 : x4.toInt ≤ (-1 : Int)) {x5 : Int32} (h_x5 : xs 5 = x5) (q1_x5 : (-2147483648 : Int) ≤ x5.toInt) (q2_x5 : x5.toInt ≤ (2147483647 : Int)) (kk : ∀ σ', zx p l e room_1 s m args below meth c g 8 600002 7302232 Q σ' 1395 [(4, .int 0), (0, .ref bS)] []) : zx p l e room_1 s m args below meth c g 8 500 100000 Q σ 252 [(4, .int 0), (3, .ref (b + 431)), (2, .ref (b + 405)), (1, .ref (b + 0)), (0, .ref bS)] [] := by
  have hK := fz_lay hF
  refine z_eqs (σ' := (ap b σ [] [] [])) rfl ?_
  refine z_aload_n B dL_law_252 rfl 3 rfl ?_
  refine z_aload_n B dL_law_253 rfl 4 rfl ?_
  refine z_iload B dL_law_254 0 rfl ?_
  refine z_iconst (v := 1) B dL_law_256 (by decide) ?_
  refine z_iadd B dL_law_257 ?_
  refine z_seti (y := 1) (by decide) ?_
  refine z_sld (j := 1) (x := x1) B hX hbl hbA (by decide) (show ¬ ((1 : Int32) < 0 ∨ 6 ≤ (1 : Int32).toNatClampNeg) by decide) h_x1 dL_law_258 ?_
  refine z_aload_n B dL_law_259 rfl 4 rfl ?_
  refine z_iload B dL_law_260 0 rfl ?_
  refine z_iconst (v := 2) B dL_law_262 (by decide) ?_
  refine z_iadd B dL_law_263 ?_
  refine z_seti (y := 2) (by decide) ?_
  refine z_sld (j := 2) (x := x2) B hX hbl hbA (by decide) (show ¬ ((2 : Int32) < 0 ∨ 6 ≤ (2 : Int32).toNatClampNeg) by decide) h_x2 dL_law_264 ?_
  refine z_aload_n B dL_law_265 rfl 4 rfl ?_
  refine z_iload B dL_law_266 0 rfl ?_
  refine z_iconst (v := 3) B dL_law_268 (by decide) ?_
  refine z_iadd B dL_law_269 ?_
  refine z_seti (y := 3) (by decide) ?_
  refine z_sld (j := 3) (x := x3) B hX hbl hbA (by decide) (show ¬ ((3 : Int32) < 0 ∨ 6 ≤ (3 : Int32).toNatClampNeg) by decide) h_x3 dL_law_270 ?_
  refine z_aload_n B dL_law_271 rfl 4 rfl ?_
  refine z_iload B dL_law_272 0 rfl ?_
  refine z_iconst (v := 4) B dL_law_274 (by decide) ?_
  refine z_iadd B dL_law_275 ?_
  refine z_seti (y := 4) (by decide) ?_
  refine z_sld (j := 4) (x := x4) B hX hbl hbA (by decide) (show ¬ ((4 : Int32) < 0 ∨ 6 ≤ (4 : Int32).toNatClampNeg) by decide) h_x4 dL_law_276 ?_
  refine z_aload_n B dL_law_277 rfl 4 rfl ?_
  refine z_iload B dL_law_278 0 rfl ?_
  refine z_iconst (v := 5) B dL_law_280 (by decide) ?_
  refine z_iadd B dL_law_281 ?_
  refine z_seti (y := 5) (by decide) ?_
  refine z_sld (j := 5) (x := x5) B hX hbl hbA (by decide) (show ¬ ((5 : Int32) < 0 ∨ 6 ≤ (5 : Int32).toNatClampNeg) by decide) h_x5 dL_law_282 ?_
  refine z_aload_n B dL_law_283 rfl 1 rfl ?_
  refine z_cSWi (As := [.ref (b + 0), .int x1, .int x2, .int x3, .int x4, .int x5, .ref (b + 431)]) (rest := []) B cw_L_84 dL_law_284 (ci_L_check_641 l hlt (σ := (ap b σ [] [] [])) (b := b) (lyA hK) x1 x2 x3 x4 x5 q1_x1 q2_x1 (rR_at 0 0 (fz_R hF 0 0 rfl rfl))) rfl (by decide) rfl (Nat.le_of_ble_eq_true rfl) (by decide) (fun r u hu => ?_)
  obtain ⟨hu1, z, hu⟩ := hu
  refine z_eqs (σ' := (ap b (wx_Z σ z) [] [] [])) (hu.trans az_ap) ?_
  show zx p l e _ s m _ below meth c g 8 _ _ _ _ 287 [(4, .int 0), (3, .ref (b + 431)), (2, .ref (b + 405)), (1, .ref (b + 0)), (0, .ref bS)] _
  refine z_seti (y := 1) hu1 ?_
  refine z_istore (lv' := [(5, .int 1), (4, .int 0), (3, .ref (b + 431)), (2, .ref (b + 405)), (1, .ref (b + 0)), (0, .ref bS)]) B dL_law_287 (by decide) rfl ?_
  refine z_aload_n B dL_law_289 rfl 3 rfl ?_
  refine z_aload_n B dL_law_290 rfl 5 rfl ?_
  refine z_iload B dL_law_291 1 rfl ?_
  refine z_iconst (v := 1) B dL_law_293 (by decide) ?_
  refine z_iadd B dL_law_294 ?_
  refine z_seti (y := 1) (by decide) ?_
  refine z_sld (j := 1) (x := x1) B hX hbl hbA (by decide) (show ¬ ((1 : Int32) < 0 ∨ 6 ≤ (1 : Int32).toNatClampNeg) by decide) h_x1 dL_law_295 ?_
  refine z_aload_n B dL_law_296 rfl 5 rfl ?_
  refine z_iload B dL_law_297 1 rfl ?_
  refine z_iconst (v := 2) B dL_law_299 (by decide) ?_
  refine z_iadd B dL_law_300 ?_
  refine z_seti (y := 2) (by decide) ?_
  refine z_sld (j := 2) (x := x2) B hX hbl hbA (by decide) (show ¬ ((2 : Int32) < 0 ∨ 6 ≤ (2 : Int32).toNatClampNeg) by decide) h_x2 dL_law_301 ?_
  refine z_aload_n B dL_law_302 rfl 5 rfl ?_
  refine z_iload B dL_law_303 1 rfl ?_
  refine z_iconst (v := 3) B dL_law_305 (by decide) ?_
  refine z_iadd B dL_law_306 ?_
  refine z_seti (y := 3) (by decide) ?_
  refine z_sld (j := 3) (x := x3) B hX hbl hbA (by decide) (show ¬ ((3 : Int32) < 0 ∨ 6 ≤ (3 : Int32).toNatClampNeg) by decide) h_x3 dL_law_307 ?_
  refine z_aload_n B dL_law_308 rfl 5 rfl ?_
  refine z_iload B dL_law_309 1 rfl ?_
  refine z_iconst (v := 4) B dL_law_311 (by decide) ?_
  refine z_iadd B dL_law_312 ?_
  refine z_seti (y := 4) (by decide) ?_
  refine z_sld (j := 4) (x := x4) B hX hbl hbA (by decide) (show ¬ ((4 : Int32) < 0 ∨ 6 ≤ (4 : Int32).toNatClampNeg) by decide) h_x4 dL_law_313 ?_
  refine z_aload_n B dL_law_314 rfl 5 rfl ?_
  refine z_iload B dL_law_315 1 rfl ?_
  refine z_iconst (v := 5) B dL_law_317 (by decide) ?_
  refine z_iadd B dL_law_318 ?_
  refine z_seti (y := 5) (by decide) ?_
  refine z_sld (j := 5) (x := x5) B hX hbl hbA (by decide) (show ¬ ((5 : Int32) < 0 ∨ 6 ≤ (5 : Int32).toNatClampNeg) by decide) h_x5 dL_law_319 ?_
  refine z_cVi (As := [.int x1, .int x2, .int x3, .int x4, .int x5]) (rest := []) B cw_L_86 cx_10 dL_law_320 (ci_X9_check_643 l (σ := (ap b (wx_Z σ z) [] [] [])) (b := b) (lyA (lyZ hK)) x1 x2 x3 x4 x5 q1_x1 q2_x1 q1_x3 q2_x3 q1_x4 q2_x4) (lKA (lKZ (hk_K hK 405 rfl rfl))) rfl (by decide) rfl (Nat.le_of_ble_eq_true rfl) (by decide) (fun r u hu => ?_)
  refine z_eqs (σ' := (ap b (wx_Z σ z) [(405, 0, 1)] [] [])) (hu.2.trans ap_ap) ?_
  show zx p l e _ s m _ below meth c g 8 _ _ _ _ 323 [(5, .int 1), (4, .int 0), (3, .ref (b + 431)), (2, .ref (b + 405)), (1, .ref (b + 0)), (0, .ref bS)] _
  refine z_seti (y := 0) hu.1 ?_
  refine z_istore (lv' := [(6, .int 0), (5, .int 1), (4, .int 0), (3, .ref (b + 431)), (2, .ref (b + 405)), (1, .ref (b + 0)), (0, .ref bS)]) B dL_law_323 (by decide) rfl ?_
  refine z_aload_n B dL_law_325 rfl 4 rfl ?_
  refine z_cVi (As := []) (rest := []) B cw_L_80 cx_10 dL_law_326 (ci_X9_thrown_31 l (σ := (ap b (wx_Z σ z) [(405, 0, 1)] [] [])) (b := b) (lyA (lyZ hK)) (rI_at 405 0 rfl)) (lKA (lKZ (hk_K hK 405 rfl rfl))) rfl (by decide) rfl (Nat.le_of_ble_eq_true rfl) (by decide) (fun r u hu => ?_)
  refine z_eqs (σ' := (ap b (wx_Z σ z) [(405, 0, 1)] [] [])) hu.2 ?_
  show zx p l e _ s m _ below meth c g 8 _ _ _ _ 329 [(6, .int 0), (5, .int 1), (4, .int 0), (3, .ref (b + 431)), (2, .ref (b + 405)), (1, .ref (b + 0)), (0, .ref bS)] _
  refine z_seti (y := 1) hu.1 ?_
  refine z_iload B dL_law_329 1 rfl ?_
  refine z_icmp_eq (tgt := 336) B dL_law_331 (by decide) (fun _ => ?_) (fun h => absurd (by decide) h)
  refine z_iload B dL_law_336 1 rfl ?_
  refine z_if_ne (tgt := 353) B dL_law_338 (by decide) (fun _ => ?_) (fun h => absurd h (by decide))
  refine z_goto (tgt := 1395) B dL_law_353 (by decide) ?_
  exact z_widen (Nat.le_of_ble_eq_true rfl) (Nat.le_of_ble_eq_true rfl) (z_sub _ [2, 6] rfl (kk _))
set_option maxRecDepth 100000 in
set_option maxHeartbeats 4000000 in
theorem lf_1_275 {p : Program} {l : Launch} {e : Env} {s : State} {m : MethodId} {args : Array Value} {below : List Frame} {meth : Method} {c : Code} {g : gx_T} {Q : State → Prop} {σ : sx_T} {b t bS : Nat} {xs : Nat → Int32} (hlt : l.stackTraces = false) (B : zx_B p s m args meth c code RL 8 g) (hX : va_X bS 6 xs s s.heap) (hbl : bS < s.heap.size) (hbA : ¬ gx_b g ≤ bS) (hF : fz_P b t σ) {x1 : Int32} (h_x1 : xs 1 = x1) (q1_x1 : (6 : Int) ≤ x1.toInt) (q2_x1 : x1.toInt ≤ (2147483647 : Int)) {x2 : Int32} (h_x2 : xs 2 = x2) (q1_x2 : (-2147483648 : Int) ≤ x2.toInt) (q2_x2 : x2.toInt ≤ (2147483647 : Int)) {x3 : Int32} (h_x3 : xs 3 = x3) (q1_x3 : (0 : Int) ≤ x3.toInt) (q2_x3 : x3.toInt ≤ (17 : Int)) {x4 : Int32} (h_x4 : xs 4 = x4) (q1_x4 : (0 : Int) ≤ x4.toInt) (q2_x4 : x4.toInt ≤ (99 : Int)) {x5 : Int32} (h_x5 : xs 5 = x5) (q1_x5 : (-2147483648 : Int) ≤ x5.toInt) (q2_x5 : x5.toInt ≤ (-1 : Int)) (kk : ∀ σ', zx p l e room_1 s m args below meth c g 8 600002 7302232 Q σ' 1395 [(4, .int 0), (0, .ref bS)] []) : zx p l e room_1 s m args below meth c g 8 500 100000 Q σ 252 [(4, .int 0), (3, .ref (b + 431)), (2, .ref (b + 405)), (1, .ref (b + 0)), (0, .ref bS)] [] := by
  have hK := fz_lay hF
  refine z_eqs (σ' := (ap b σ [] [] [])) rfl ?_
  refine z_aload_n B dL_law_252 rfl 3 rfl ?_
  refine z_aload_n B dL_law_253 rfl 4 rfl ?_
  refine z_iload B dL_law_254 0 rfl ?_
  refine z_iconst (v := 1) B dL_law_256 (by decide) ?_
  refine z_iadd B dL_law_257 ?_
  refine z_seti (y := 1) (by decide) ?_
  refine z_sld (j := 1) (x := x1) B hX hbl hbA (by decide) (show ¬ ((1 : Int32) < 0 ∨ 6 ≤ (1 : Int32).toNatClampNeg) by decide) h_x1 dL_law_258 ?_
  refine z_aload_n B dL_law_259 rfl 4 rfl ?_
  refine z_iload B dL_law_260 0 rfl ?_
  refine z_iconst (v := 2) B dL_law_262 (by decide) ?_
  refine z_iadd B dL_law_263 ?_
  refine z_seti (y := 2) (by decide) ?_
  refine z_sld (j := 2) (x := x2) B hX hbl hbA (by decide) (show ¬ ((2 : Int32) < 0 ∨ 6 ≤ (2 : Int32).toNatClampNeg) by decide) h_x2 dL_law_264 ?_
  refine z_aload_n B dL_law_265 rfl 4 rfl ?_
  refine z_iload B dL_law_266 0 rfl ?_
  refine z_iconst (v := 3) B dL_law_268 (by decide) ?_
  refine z_iadd B dL_law_269 ?_
  refine z_seti (y := 3) (by decide) ?_
  refine z_sld (j := 3) (x := x3) B hX hbl hbA (by decide) (show ¬ ((3 : Int32) < 0 ∨ 6 ≤ (3 : Int32).toNatClampNeg) by decide) h_x3 dL_law_270 ?_
  refine z_aload_n B dL_law_271 rfl 4 rfl ?_
  refine z_iload B dL_law_272 0 rfl ?_
  refine z_iconst (v := 4) B dL_law_274 (by decide) ?_
  refine z_iadd B dL_law_275 ?_
  refine z_seti (y := 4) (by decide) ?_
  refine z_sld (j := 4) (x := x4) B hX hbl hbA (by decide) (show ¬ ((4 : Int32) < 0 ∨ 6 ≤ (4 : Int32).toNatClampNeg) by decide) h_x4 dL_law_276 ?_
  refine z_aload_n B dL_law_277 rfl 4 rfl ?_
  refine z_iload B dL_law_278 0 rfl ?_
  refine z_iconst (v := 5) B dL_law_280 (by decide) ?_
  refine z_iadd B dL_law_281 ?_
  refine z_seti (y := 5) (by decide) ?_
  refine z_sld (j := 5) (x := x5) B hX hbl hbA (by decide) (show ¬ ((5 : Int32) < 0 ∨ 6 ≤ (5 : Int32).toNatClampNeg) by decide) h_x5 dL_law_282 ?_
  refine z_aload_n B dL_law_283 rfl 1 rfl ?_
  refine z_cSWi (As := [.ref (b + 0), .int x1, .int x2, .int x3, .int x4, .int x5, .ref (b + 431)]) (rest := []) B cw_L_84 dL_law_284 (ci_L_check_641 l hlt (σ := (ap b σ [] [] [])) (b := b) (lyA hK) x1 x2 x3 x4 x5 q1_x1 q2_x1 (rR_at 0 0 (fz_R hF 0 0 rfl rfl))) rfl (by decide) rfl (Nat.le_of_ble_eq_true rfl) (by decide) (fun r u hu => ?_)
  obtain ⟨hu1, z, hu⟩ := hu
  refine z_eqs (σ' := (ap b (wx_Z σ z) [] [] [])) (hu.trans az_ap) ?_
  show zx p l e _ s m _ below meth c g 8 _ _ _ _ 287 [(4, .int 0), (3, .ref (b + 431)), (2, .ref (b + 405)), (1, .ref (b + 0)), (0, .ref bS)] _
  refine z_seti (y := 1) hu1 ?_
  refine z_istore (lv' := [(5, .int 1), (4, .int 0), (3, .ref (b + 431)), (2, .ref (b + 405)), (1, .ref (b + 0)), (0, .ref bS)]) B dL_law_287 (by decide) rfl ?_
  refine z_aload_n B dL_law_289 rfl 3 rfl ?_
  refine z_aload_n B dL_law_290 rfl 5 rfl ?_
  refine z_iload B dL_law_291 1 rfl ?_
  refine z_iconst (v := 1) B dL_law_293 (by decide) ?_
  refine z_iadd B dL_law_294 ?_
  refine z_seti (y := 1) (by decide) ?_
  refine z_sld (j := 1) (x := x1) B hX hbl hbA (by decide) (show ¬ ((1 : Int32) < 0 ∨ 6 ≤ (1 : Int32).toNatClampNeg) by decide) h_x1 dL_law_295 ?_
  refine z_aload_n B dL_law_296 rfl 5 rfl ?_
  refine z_iload B dL_law_297 1 rfl ?_
  refine z_iconst (v := 2) B dL_law_299 (by decide) ?_
  refine z_iadd B dL_law_300 ?_
  refine z_seti (y := 2) (by decide) ?_
  refine z_sld (j := 2) (x := x2) B hX hbl hbA (by decide) (show ¬ ((2 : Int32) < 0 ∨ 6 ≤ (2 : Int32).toNatClampNeg) by decide) h_x2 dL_law_301 ?_
  refine z_aload_n B dL_law_302 rfl 5 rfl ?_
  refine z_iload B dL_law_303 1 rfl ?_
  refine z_iconst (v := 3) B dL_law_305 (by decide) ?_
  refine z_iadd B dL_law_306 ?_
  refine z_seti (y := 3) (by decide) ?_
  refine z_sld (j := 3) (x := x3) B hX hbl hbA (by decide) (show ¬ ((3 : Int32) < 0 ∨ 6 ≤ (3 : Int32).toNatClampNeg) by decide) h_x3 dL_law_307 ?_
  refine z_aload_n B dL_law_308 rfl 5 rfl ?_
  refine z_iload B dL_law_309 1 rfl ?_
  refine z_iconst (v := 4) B dL_law_311 (by decide) ?_
  refine z_iadd B dL_law_312 ?_
  refine z_seti (y := 4) (by decide) ?_
  refine z_sld (j := 4) (x := x4) B hX hbl hbA (by decide) (show ¬ ((4 : Int32) < 0 ∨ 6 ≤ (4 : Int32).toNatClampNeg) by decide) h_x4 dL_law_313 ?_
  refine z_aload_n B dL_law_314 rfl 5 rfl ?_
  refine z_iload B dL_law_315 1 rfl ?_
  refine z_iconst (v := 5) B dL_law_317 (by decide) ?_
  refine z_iadd B dL_law_318 ?_
  refine z_seti (y := 5) (by decide) ?_
  refine z_sld (j := 5) (x := x5) B hX hbl hbA (by decide) (show ¬ ((5 : Int32) < 0 ∨ 6 ≤ (5 : Int32).toNatClampNeg) by decide) h_x5 dL_law_319 ?_
  refine z_cVi (As := [.int x1, .int x2, .int x3, .int x4, .int x5]) (rest := []) B cw_L_86 cx_10 dL_law_320 (ci_X9_check_644 l (σ := (ap b (wx_Z σ z) [] [] [])) (b := b) (lyA (lyZ hK)) x1 x2 x3 x4 x5 q1_x1 q2_x1 q1_x3 q2_x3 q1_x4 q2_x4 q1_x5 q2_x5) (lKA (lKZ (hk_K hK 405 rfl rfl))) rfl (by decide) rfl (Nat.le_of_ble_eq_true rfl) (by decide) (fun r u hu => ?_)
  refine z_eqs (σ' := (ap b (wx_Z σ z) [(405, 0, 1)] [] [])) (hu.2.trans ap_ap) ?_
  show zx p l e _ s m _ below meth c g 8 _ _ _ _ 323 [(5, .int 1), (4, .int 0), (3, .ref (b + 431)), (2, .ref (b + 405)), (1, .ref (b + 0)), (0, .ref bS)] _
  refine z_seti (y := 0) hu.1 ?_
  refine z_istore (lv' := [(6, .int 0), (5, .int 1), (4, .int 0), (3, .ref (b + 431)), (2, .ref (b + 405)), (1, .ref (b + 0)), (0, .ref bS)]) B dL_law_323 (by decide) rfl ?_
  refine z_aload_n B dL_law_325 rfl 4 rfl ?_
  refine z_cVi (As := []) (rest := []) B cw_L_80 cx_10 dL_law_326 (ci_X9_thrown_31 l (σ := (ap b (wx_Z σ z) [(405, 0, 1)] [] [])) (b := b) (lyA (lyZ hK)) (rI_at 405 0 rfl)) (lKA (lKZ (hk_K hK 405 rfl rfl))) rfl (by decide) rfl (Nat.le_of_ble_eq_true rfl) (by decide) (fun r u hu => ?_)
  refine z_eqs (σ' := (ap b (wx_Z σ z) [(405, 0, 1)] [] [])) hu.2 ?_
  show zx p l e _ s m _ below meth c g 8 _ _ _ _ 329 [(6, .int 0), (5, .int 1), (4, .int 0), (3, .ref (b + 431)), (2, .ref (b + 405)), (1, .ref (b + 0)), (0, .ref bS)] _
  refine z_seti (y := 1) hu.1 ?_
  refine z_iload B dL_law_329 1 rfl ?_
  refine z_icmp_eq (tgt := 336) B dL_law_331 (by decide) (fun _ => ?_) (fun h => absurd (by decide) h)
  refine z_iload B dL_law_336 1 rfl ?_
  refine z_if_ne (tgt := 353) B dL_law_338 (by decide) (fun _ => ?_) (fun h => absurd h (by decide))
  refine z_goto (tgt := 1395) B dL_law_353 (by decide) ?_
  exact z_widen (Nat.le_of_ble_eq_true rfl) (Nat.le_of_ble_eq_true rfl) (z_sub _ [2, 6] rfl (kk _))
set_option maxRecDepth 100000 in
set_option maxHeartbeats 4000000 in
theorem lf_1_276 {p : Program} {l : Launch} {e : Env} {s : State} {m : MethodId} {args : Array Value} {below : List Frame} {meth : Method} {c : Code} {g : gx_T} {Q : State → Prop} {σ : sx_T} {b t bS : Nat} {xs : Nat → Int32} (hlt : l.stackTraces = false) (B : zx_B p s m args meth c code RL 8 g) (hX : va_X bS 6 xs s s.heap) (hbl : bS < s.heap.size) (hbA : ¬ gx_b g ≤ bS) (hF : fz_P b t σ) {x1 : Int32} (h_x1 : xs 1 = x1) (q1_x1 : (6 : Int) ≤ x1.toInt) (q2_x1 : x1.toInt ≤ (2147483647 : Int)) {x2 : Int32} (h_x2 : xs 2 = x2) (q1_x2 : (-2147483648 : Int) ≤ x2.toInt) (q2_x2 : x2.toInt ≤ (2147483647 : Int)) {x3 : Int32} (h_x3 : xs 3 = x3) (q1_x3 : (0 : Int) ≤ x3.toInt) (q2_x3 : x3.toInt ≤ (17 : Int)) {x4 : Int32} (h_x4 : xs 4 = x4) (q1_x4 : (0 : Int) ≤ x4.toInt) (q2_x4 : x4.toInt ≤ (99 : Int)) {x5 : Int32} (h_x5 : xs 5 = x5) (q1_x5 : (0 : Int) ≤ x5.toInt) (q2_x5 : x5.toInt ≤ (99 : Int)) (kk : ∀ σ', zx p l e room_1 s m args below meth c g 8 600002 7302232 Q σ' 1395 [(4, .int 0), (0, .ref bS)] []) : zx p l e room_1 s m args below meth c g 8 500 100000 Q σ 252 [(4, .int 0), (3, .ref (b + 431)), (2, .ref (b + 405)), (1, .ref (b + 0)), (0, .ref bS)] [] := by
  have hK := fz_lay hF
  refine z_eqs (σ' := (ap b σ [] [] [])) rfl ?_
  refine z_aload_n B dL_law_252 rfl 3 rfl ?_
  refine z_aload_n B dL_law_253 rfl 4 rfl ?_
  refine z_iload B dL_law_254 0 rfl ?_
  refine z_iconst (v := 1) B dL_law_256 (by decide) ?_
  refine z_iadd B dL_law_257 ?_
  refine z_seti (y := 1) (by decide) ?_
  refine z_sld (j := 1) (x := x1) B hX hbl hbA (by decide) (show ¬ ((1 : Int32) < 0 ∨ 6 ≤ (1 : Int32).toNatClampNeg) by decide) h_x1 dL_law_258 ?_
  refine z_aload_n B dL_law_259 rfl 4 rfl ?_
  refine z_iload B dL_law_260 0 rfl ?_
  refine z_iconst (v := 2) B dL_law_262 (by decide) ?_
  refine z_iadd B dL_law_263 ?_
  refine z_seti (y := 2) (by decide) ?_
  refine z_sld (j := 2) (x := x2) B hX hbl hbA (by decide) (show ¬ ((2 : Int32) < 0 ∨ 6 ≤ (2 : Int32).toNatClampNeg) by decide) h_x2 dL_law_264 ?_
  refine z_aload_n B dL_law_265 rfl 4 rfl ?_
  refine z_iload B dL_law_266 0 rfl ?_
  refine z_iconst (v := 3) B dL_law_268 (by decide) ?_
  refine z_iadd B dL_law_269 ?_
  refine z_seti (y := 3) (by decide) ?_
  refine z_sld (j := 3) (x := x3) B hX hbl hbA (by decide) (show ¬ ((3 : Int32) < 0 ∨ 6 ≤ (3 : Int32).toNatClampNeg) by decide) h_x3 dL_law_270 ?_
  refine z_aload_n B dL_law_271 rfl 4 rfl ?_
  refine z_iload B dL_law_272 0 rfl ?_
  refine z_iconst (v := 4) B dL_law_274 (by decide) ?_
  refine z_iadd B dL_law_275 ?_
  refine z_seti (y := 4) (by decide) ?_
  refine z_sld (j := 4) (x := x4) B hX hbl hbA (by decide) (show ¬ ((4 : Int32) < 0 ∨ 6 ≤ (4 : Int32).toNatClampNeg) by decide) h_x4 dL_law_276 ?_
  refine z_aload_n B dL_law_277 rfl 4 rfl ?_
  refine z_iload B dL_law_278 0 rfl ?_
  refine z_iconst (v := 5) B dL_law_280 (by decide) ?_
  refine z_iadd B dL_law_281 ?_
  refine z_seti (y := 5) (by decide) ?_
  refine z_sld (j := 5) (x := x5) B hX hbl hbA (by decide) (show ¬ ((5 : Int32) < 0 ∨ 6 ≤ (5 : Int32).toNatClampNeg) by decide) h_x5 dL_law_282 ?_
  refine z_aload_n B dL_law_283 rfl 1 rfl ?_
  refine z_cSWi (As := [.ref (b + 0), .int x1, .int x2, .int x3, .int x4, .int x5, .ref (b + 431)]) (rest := []) B cw_L_84 dL_law_284 (ci_L_check_641 l hlt (σ := (ap b σ [] [] [])) (b := b) (lyA hK) x1 x2 x3 x4 x5 q1_x1 q2_x1 (rR_at 0 0 (fz_R hF 0 0 rfl rfl))) rfl (by decide) rfl (Nat.le_of_ble_eq_true rfl) (by decide) (fun r u hu => ?_)
  obtain ⟨hu1, z, hu⟩ := hu
  refine z_eqs (σ' := (ap b (wx_Z σ z) [] [] [])) (hu.trans az_ap) ?_
  show zx p l e _ s m _ below meth c g 8 _ _ _ _ 287 [(4, .int 0), (3, .ref (b + 431)), (2, .ref (b + 405)), (1, .ref (b + 0)), (0, .ref bS)] _
  refine z_seti (y := 1) hu1 ?_
  refine z_istore (lv' := [(5, .int 1), (4, .int 0), (3, .ref (b + 431)), (2, .ref (b + 405)), (1, .ref (b + 0)), (0, .ref bS)]) B dL_law_287 (by decide) rfl ?_
  refine z_aload_n B dL_law_289 rfl 3 rfl ?_
  refine z_aload_n B dL_law_290 rfl 5 rfl ?_
  refine z_iload B dL_law_291 1 rfl ?_
  refine z_iconst (v := 1) B dL_law_293 (by decide) ?_
  refine z_iadd B dL_law_294 ?_
  refine z_seti (y := 1) (by decide) ?_
  refine z_sld (j := 1) (x := x1) B hX hbl hbA (by decide) (show ¬ ((1 : Int32) < 0 ∨ 6 ≤ (1 : Int32).toNatClampNeg) by decide) h_x1 dL_law_295 ?_
  refine z_aload_n B dL_law_296 rfl 5 rfl ?_
  refine z_iload B dL_law_297 1 rfl ?_
  refine z_iconst (v := 2) B dL_law_299 (by decide) ?_
  refine z_iadd B dL_law_300 ?_
  refine z_seti (y := 2) (by decide) ?_
  refine z_sld (j := 2) (x := x2) B hX hbl hbA (by decide) (show ¬ ((2 : Int32) < 0 ∨ 6 ≤ (2 : Int32).toNatClampNeg) by decide) h_x2 dL_law_301 ?_
  refine z_aload_n B dL_law_302 rfl 5 rfl ?_
  refine z_iload B dL_law_303 1 rfl ?_
  refine z_iconst (v := 3) B dL_law_305 (by decide) ?_
  refine z_iadd B dL_law_306 ?_
  refine z_seti (y := 3) (by decide) ?_
  refine z_sld (j := 3) (x := x3) B hX hbl hbA (by decide) (show ¬ ((3 : Int32) < 0 ∨ 6 ≤ (3 : Int32).toNatClampNeg) by decide) h_x3 dL_law_307 ?_
  refine z_aload_n B dL_law_308 rfl 5 rfl ?_
  refine z_iload B dL_law_309 1 rfl ?_
  refine z_iconst (v := 4) B dL_law_311 (by decide) ?_
  refine z_iadd B dL_law_312 ?_
  refine z_seti (y := 4) (by decide) ?_
  refine z_sld (j := 4) (x := x4) B hX hbl hbA (by decide) (show ¬ ((4 : Int32) < 0 ∨ 6 ≤ (4 : Int32).toNatClampNeg) by decide) h_x4 dL_law_313 ?_
  refine z_aload_n B dL_law_314 rfl 5 rfl ?_
  refine z_iload B dL_law_315 1 rfl ?_
  refine z_iconst (v := 5) B dL_law_317 (by decide) ?_
  refine z_iadd B dL_law_318 ?_
  refine z_seti (y := 5) (by decide) ?_
  refine z_sld (j := 5) (x := x5) B hX hbl hbA (by decide) (show ¬ ((5 : Int32) < 0 ∨ 6 ≤ (5 : Int32).toNatClampNeg) by decide) h_x5 dL_law_319 ?_
  refine z_cVi (As := [.int x1, .int x2, .int x3, .int x4, .int x5]) (rest := []) B cw_L_86 cx_10 dL_law_320 (ci_X9_check_645 l (σ := (ap b (wx_Z σ z) [] [] [])) (b := b) (lyA (lyZ hK)) x1 x2 x3 x4 x5 q1_x1 q2_x1 q1_x3 q2_x3 q1_x4 q2_x4 q1_x5 q2_x5) (lKA (lKZ (hk_K hK 405 rfl rfl))) rfl (by decide) rfl (Nat.le_of_ble_eq_true rfl) (by decide) (fun r u hu => ?_)
  refine z_eqs (σ' := (ap b (wx_Z σ z) [(405, 0, 1)] [] [])) (hu.2.trans ap_ap) ?_
  show zx p l e _ s m _ below meth c g 8 _ _ _ _ 323 [(5, .int 1), (4, .int 0), (3, .ref (b + 431)), (2, .ref (b + 405)), (1, .ref (b + 0)), (0, .ref bS)] _
  refine z_seti (y := 0) hu.1 ?_
  refine z_istore (lv' := [(6, .int 0), (5, .int 1), (4, .int 0), (3, .ref (b + 431)), (2, .ref (b + 405)), (1, .ref (b + 0)), (0, .ref bS)]) B dL_law_323 (by decide) rfl ?_
  refine z_aload_n B dL_law_325 rfl 4 rfl ?_
  refine z_cVi (As := []) (rest := []) B cw_L_80 cx_10 dL_law_326 (ci_X9_thrown_31 l (σ := (ap b (wx_Z σ z) [(405, 0, 1)] [] [])) (b := b) (lyA (lyZ hK)) (rI_at 405 0 rfl)) (lKA (lKZ (hk_K hK 405 rfl rfl))) rfl (by decide) rfl (Nat.le_of_ble_eq_true rfl) (by decide) (fun r u hu => ?_)
  refine z_eqs (σ' := (ap b (wx_Z σ z) [(405, 0, 1)] [] [])) hu.2 ?_
  show zx p l e _ s m _ below meth c g 8 _ _ _ _ 329 [(6, .int 0), (5, .int 1), (4, .int 0), (3, .ref (b + 431)), (2, .ref (b + 405)), (1, .ref (b + 0)), (0, .ref bS)] _
  refine z_seti (y := 1) hu.1 ?_
  refine z_iload B dL_law_329 1 rfl ?_
  refine z_icmp_eq (tgt := 336) B dL_law_331 (by decide) (fun _ => ?_) (fun h => absurd (by decide) h)
  refine z_iload B dL_law_336 1 rfl ?_
  refine z_if_ne (tgt := 353) B dL_law_338 (by decide) (fun _ => ?_) (fun h => absurd h (by decide))
  refine z_goto (tgt := 1395) B dL_law_353 (by decide) ?_
  exact z_widen (Nat.le_of_ble_eq_true rfl) (Nat.le_of_ble_eq_true rfl) (z_sub _ [2, 6] rfl (kk _))
set_option maxRecDepth 100000 in
set_option maxHeartbeats 4000000 in
theorem lf_1_277 {p : Program} {l : Launch} {e : Env} {s : State} {m : MethodId} {args : Array Value} {below : List Frame} {meth : Method} {c : Code} {g : gx_T} {Q : State → Prop} {σ : sx_T} {b t bS : Nat} {xs : Nat → Int32} (hlt : l.stackTraces = false) (B : zx_B p s m args meth c code RL 8 g) (hX : va_X bS 6 xs s s.heap) (hbl : bS < s.heap.size) (hbA : ¬ gx_b g ≤ bS) (hF : fz_P b t σ) {x1 : Int32} (h_x1 : xs 1 = x1) (q1_x1 : (6 : Int) ≤ x1.toInt) (q2_x1 : x1.toInt ≤ (2147483647 : Int)) {x2 : Int32} (h_x2 : xs 2 = x2) (q1_x2 : (-2147483648 : Int) ≤ x2.toInt) (q2_x2 : x2.toInt ≤ (2147483647 : Int)) {x3 : Int32} (h_x3 : xs 3 = x3) (q1_x3 : (0 : Int) ≤ x3.toInt) (q2_x3 : x3.toInt ≤ (17 : Int)) {x4 : Int32} (h_x4 : xs 4 = x4) (q1_x4 : (0 : Int) ≤ x4.toInt) (q2_x4 : x4.toInt ≤ (99 : Int)) {x5 : Int32} (h_x5 : xs 5 = x5) (q1_x5 : (100 : Int) ≤ x5.toInt) (q2_x5 : x5.toInt ≤ (2147483647 : Int)) (kk : ∀ σ', zx p l e room_1 s m args below meth c g 8 600002 7302232 Q σ' 1395 [(4, .int 0), (0, .ref bS)] []) : zx p l e room_1 s m args below meth c g 8 500 100000 Q σ 252 [(4, .int 0), (3, .ref (b + 431)), (2, .ref (b + 405)), (1, .ref (b + 0)), (0, .ref bS)] [] := by
  have hK := fz_lay hF
  refine z_eqs (σ' := (ap b σ [] [] [])) rfl ?_
  refine z_aload_n B dL_law_252 rfl 3 rfl ?_
  refine z_aload_n B dL_law_253 rfl 4 rfl ?_
  refine z_iload B dL_law_254 0 rfl ?_
  refine z_iconst (v := 1) B dL_law_256 (by decide) ?_
  refine z_iadd B dL_law_257 ?_
  refine z_seti (y := 1) (by decide) ?_
  refine z_sld (j := 1) (x := x1) B hX hbl hbA (by decide) (show ¬ ((1 : Int32) < 0 ∨ 6 ≤ (1 : Int32).toNatClampNeg) by decide) h_x1 dL_law_258 ?_
  refine z_aload_n B dL_law_259 rfl 4 rfl ?_
  refine z_iload B dL_law_260 0 rfl ?_
  refine z_iconst (v := 2) B dL_law_262 (by decide) ?_
  refine z_iadd B dL_law_263 ?_
  refine z_seti (y := 2) (by decide) ?_
  refine z_sld (j := 2) (x := x2) B hX hbl hbA (by decide) (show ¬ ((2 : Int32) < 0 ∨ 6 ≤ (2 : Int32).toNatClampNeg) by decide) h_x2 dL_law_264 ?_
  refine z_aload_n B dL_law_265 rfl 4 rfl ?_
  refine z_iload B dL_law_266 0 rfl ?_
  refine z_iconst (v := 3) B dL_law_268 (by decide) ?_
  refine z_iadd B dL_law_269 ?_
  refine z_seti (y := 3) (by decide) ?_
  refine z_sld (j := 3) (x := x3) B hX hbl hbA (by decide) (show ¬ ((3 : Int32) < 0 ∨ 6 ≤ (3 : Int32).toNatClampNeg) by decide) h_x3 dL_law_270 ?_
  refine z_aload_n B dL_law_271 rfl 4 rfl ?_
  refine z_iload B dL_law_272 0 rfl ?_
  refine z_iconst (v := 4) B dL_law_274 (by decide) ?_
  refine z_iadd B dL_law_275 ?_
  refine z_seti (y := 4) (by decide) ?_
  refine z_sld (j := 4) (x := x4) B hX hbl hbA (by decide) (show ¬ ((4 : Int32) < 0 ∨ 6 ≤ (4 : Int32).toNatClampNeg) by decide) h_x4 dL_law_276 ?_
  refine z_aload_n B dL_law_277 rfl 4 rfl ?_
  refine z_iload B dL_law_278 0 rfl ?_
  refine z_iconst (v := 5) B dL_law_280 (by decide) ?_
  refine z_iadd B dL_law_281 ?_
  refine z_seti (y := 5) (by decide) ?_
  refine z_sld (j := 5) (x := x5) B hX hbl hbA (by decide) (show ¬ ((5 : Int32) < 0 ∨ 6 ≤ (5 : Int32).toNatClampNeg) by decide) h_x5 dL_law_282 ?_
  refine z_aload_n B dL_law_283 rfl 1 rfl ?_
  refine z_cSWi (As := [.ref (b + 0), .int x1, .int x2, .int x3, .int x4, .int x5, .ref (b + 431)]) (rest := []) B cw_L_84 dL_law_284 (ci_L_check_641 l hlt (σ := (ap b σ [] [] [])) (b := b) (lyA hK) x1 x2 x3 x4 x5 q1_x1 q2_x1 (rR_at 0 0 (fz_R hF 0 0 rfl rfl))) rfl (by decide) rfl (Nat.le_of_ble_eq_true rfl) (by decide) (fun r u hu => ?_)
  obtain ⟨hu1, z, hu⟩ := hu
  refine z_eqs (σ' := (ap b (wx_Z σ z) [] [] [])) (hu.trans az_ap) ?_
  show zx p l e _ s m _ below meth c g 8 _ _ _ _ 287 [(4, .int 0), (3, .ref (b + 431)), (2, .ref (b + 405)), (1, .ref (b + 0)), (0, .ref bS)] _
  refine z_seti (y := 1) hu1 ?_
  refine z_istore (lv' := [(5, .int 1), (4, .int 0), (3, .ref (b + 431)), (2, .ref (b + 405)), (1, .ref (b + 0)), (0, .ref bS)]) B dL_law_287 (by decide) rfl ?_
  refine z_aload_n B dL_law_289 rfl 3 rfl ?_
  refine z_aload_n B dL_law_290 rfl 5 rfl ?_
  refine z_iload B dL_law_291 1 rfl ?_
  refine z_iconst (v := 1) B dL_law_293 (by decide) ?_
  refine z_iadd B dL_law_294 ?_
  refine z_seti (y := 1) (by decide) ?_
  refine z_sld (j := 1) (x := x1) B hX hbl hbA (by decide) (show ¬ ((1 : Int32) < 0 ∨ 6 ≤ (1 : Int32).toNatClampNeg) by decide) h_x1 dL_law_295 ?_
  refine z_aload_n B dL_law_296 rfl 5 rfl ?_
  refine z_iload B dL_law_297 1 rfl ?_
  refine z_iconst (v := 2) B dL_law_299 (by decide) ?_
  refine z_iadd B dL_law_300 ?_
  refine z_seti (y := 2) (by decide) ?_
  refine z_sld (j := 2) (x := x2) B hX hbl hbA (by decide) (show ¬ ((2 : Int32) < 0 ∨ 6 ≤ (2 : Int32).toNatClampNeg) by decide) h_x2 dL_law_301 ?_
  refine z_aload_n B dL_law_302 rfl 5 rfl ?_
  refine z_iload B dL_law_303 1 rfl ?_
  refine z_iconst (v := 3) B dL_law_305 (by decide) ?_
  refine z_iadd B dL_law_306 ?_
  refine z_seti (y := 3) (by decide) ?_
  refine z_sld (j := 3) (x := x3) B hX hbl hbA (by decide) (show ¬ ((3 : Int32) < 0 ∨ 6 ≤ (3 : Int32).toNatClampNeg) by decide) h_x3 dL_law_307 ?_
  refine z_aload_n B dL_law_308 rfl 5 rfl ?_
  refine z_iload B dL_law_309 1 rfl ?_
  refine z_iconst (v := 4) B dL_law_311 (by decide) ?_
  refine z_iadd B dL_law_312 ?_
  refine z_seti (y := 4) (by decide) ?_
  refine z_sld (j := 4) (x := x4) B hX hbl hbA (by decide) (show ¬ ((4 : Int32) < 0 ∨ 6 ≤ (4 : Int32).toNatClampNeg) by decide) h_x4 dL_law_313 ?_
  refine z_aload_n B dL_law_314 rfl 5 rfl ?_
  refine z_iload B dL_law_315 1 rfl ?_
  refine z_iconst (v := 5) B dL_law_317 (by decide) ?_
  refine z_iadd B dL_law_318 ?_
  refine z_seti (y := 5) (by decide) ?_
  refine z_sld (j := 5) (x := x5) B hX hbl hbA (by decide) (show ¬ ((5 : Int32) < 0 ∨ 6 ≤ (5 : Int32).toNatClampNeg) by decide) h_x5 dL_law_319 ?_
  refine z_cVi (As := [.int x1, .int x2, .int x3, .int x4, .int x5]) (rest := []) B cw_L_86 cx_10 dL_law_320 (ci_X9_check_646 l (σ := (ap b (wx_Z σ z) [] [] [])) (b := b) (lyA (lyZ hK)) x1 x2 x3 x4 x5 q1_x1 q2_x1 q1_x3 q2_x3 q1_x4 q2_x4 q1_x5 q2_x5) (lKA (lKZ (hk_K hK 405 rfl rfl))) rfl (by decide) rfl (Nat.le_of_ble_eq_true rfl) (by decide) (fun r u hu => ?_)
  refine z_eqs (σ' := (ap b (wx_Z σ z) [(405, 0, 1)] [] [])) (hu.2.trans ap_ap) ?_
  show zx p l e _ s m _ below meth c g 8 _ _ _ _ 323 [(5, .int 1), (4, .int 0), (3, .ref (b + 431)), (2, .ref (b + 405)), (1, .ref (b + 0)), (0, .ref bS)] _
  refine z_seti (y := 0) hu.1 ?_
  refine z_istore (lv' := [(6, .int 0), (5, .int 1), (4, .int 0), (3, .ref (b + 431)), (2, .ref (b + 405)), (1, .ref (b + 0)), (0, .ref bS)]) B dL_law_323 (by decide) rfl ?_
  refine z_aload_n B dL_law_325 rfl 4 rfl ?_
  refine z_cVi (As := []) (rest := []) B cw_L_80 cx_10 dL_law_326 (ci_X9_thrown_31 l (σ := (ap b (wx_Z σ z) [(405, 0, 1)] [] [])) (b := b) (lyA (lyZ hK)) (rI_at 405 0 rfl)) (lKA (lKZ (hk_K hK 405 rfl rfl))) rfl (by decide) rfl (Nat.le_of_ble_eq_true rfl) (by decide) (fun r u hu => ?_)
  refine z_eqs (σ' := (ap b (wx_Z σ z) [(405, 0, 1)] [] [])) hu.2 ?_
  show zx p l e _ s m _ below meth c g 8 _ _ _ _ 329 [(6, .int 0), (5, .int 1), (4, .int 0), (3, .ref (b + 431)), (2, .ref (b + 405)), (1, .ref (b + 0)), (0, .ref bS)] _
  refine z_seti (y := 1) hu.1 ?_
  refine z_iload B dL_law_329 1 rfl ?_
  refine z_icmp_eq (tgt := 336) B dL_law_331 (by decide) (fun _ => ?_) (fun h => absurd (by decide) h)
  refine z_iload B dL_law_336 1 rfl ?_
  refine z_if_ne (tgt := 353) B dL_law_338 (by decide) (fun _ => ?_) (fun h => absurd h (by decide))
  refine z_goto (tgt := 1395) B dL_law_353 (by decide) ?_
  exact z_widen (Nat.le_of_ble_eq_true rfl) (Nat.le_of_ble_eq_true rfl) (z_sub _ [2, 6] rfl (kk _))
set_option maxRecDepth 100000 in
set_option maxHeartbeats 4000000 in
theorem lf_1_278 {p : Program} {l : Launch} {e : Env} {s : State} {m : MethodId} {args : Array Value} {below : List Frame} {meth : Method} {c : Code} {g : gx_T} {Q : State → Prop} {σ : sx_T} {b t bS : Nat} {xs : Nat → Int32} (hlt : l.stackTraces = false) (B : zx_B p s m args meth c code RL 8 g) (hX : va_X bS 6 xs s s.heap) (hbl : bS < s.heap.size) (hbA : ¬ gx_b g ≤ bS) (hF : fz_P b t σ) {x1 : Int32} (h_x1 : xs 1 = x1) (q1_x1 : (6 : Int) ≤ x1.toInt) (q2_x1 : x1.toInt ≤ (2147483647 : Int)) {x2 : Int32} (h_x2 : xs 2 = x2) (q1_x2 : (-2147483648 : Int) ≤ x2.toInt) (q2_x2 : x2.toInt ≤ (2147483647 : Int)) {x3 : Int32} (h_x3 : xs 3 = x3) (q1_x3 : (0 : Int) ≤ x3.toInt) (q2_x3 : x3.toInt ≤ (17 : Int)) {x4 : Int32} (h_x4 : xs 4 = x4) (q1_x4 : (100 : Int) ≤ x4.toInt) (q2_x4 : x4.toInt ≤ (2147483647 : Int)) {x5 : Int32} (h_x5 : xs 5 = x5) (q1_x5 : (-2147483648 : Int) ≤ x5.toInt) (q2_x5 : x5.toInt ≤ (2147483647 : Int)) (kk : ∀ σ', zx p l e room_1 s m args below meth c g 8 600002 7302232 Q σ' 1395 [(4, .int 0), (0, .ref bS)] []) : zx p l e room_1 s m args below meth c g 8 500 100000 Q σ 252 [(4, .int 0), (3, .ref (b + 431)), (2, .ref (b + 405)), (1, .ref (b + 0)), (0, .ref bS)] [] := by
  have hK := fz_lay hF
  refine z_eqs (σ' := (ap b σ [] [] [])) rfl ?_
  refine z_aload_n B dL_law_252 rfl 3 rfl ?_
  refine z_aload_n B dL_law_253 rfl 4 rfl ?_
  refine z_iload B dL_law_254 0 rfl ?_
  refine z_iconst (v := 1) B dL_law_256 (by decide) ?_
  refine z_iadd B dL_law_257 ?_
  refine z_seti (y := 1) (by decide) ?_
  refine z_sld (j := 1) (x := x1) B hX hbl hbA (by decide) (show ¬ ((1 : Int32) < 0 ∨ 6 ≤ (1 : Int32).toNatClampNeg) by decide) h_x1 dL_law_258 ?_
  refine z_aload_n B dL_law_259 rfl 4 rfl ?_
  refine z_iload B dL_law_260 0 rfl ?_
  refine z_iconst (v := 2) B dL_law_262 (by decide) ?_
  refine z_iadd B dL_law_263 ?_
  refine z_seti (y := 2) (by decide) ?_
  refine z_sld (j := 2) (x := x2) B hX hbl hbA (by decide) (show ¬ ((2 : Int32) < 0 ∨ 6 ≤ (2 : Int32).toNatClampNeg) by decide) h_x2 dL_law_264 ?_
  refine z_aload_n B dL_law_265 rfl 4 rfl ?_
  refine z_iload B dL_law_266 0 rfl ?_
  refine z_iconst (v := 3) B dL_law_268 (by decide) ?_
  refine z_iadd B dL_law_269 ?_
  refine z_seti (y := 3) (by decide) ?_
  refine z_sld (j := 3) (x := x3) B hX hbl hbA (by decide) (show ¬ ((3 : Int32) < 0 ∨ 6 ≤ (3 : Int32).toNatClampNeg) by decide) h_x3 dL_law_270 ?_
  refine z_aload_n B dL_law_271 rfl 4 rfl ?_
  refine z_iload B dL_law_272 0 rfl ?_
  refine z_iconst (v := 4) B dL_law_274 (by decide) ?_
  refine z_iadd B dL_law_275 ?_
  refine z_seti (y := 4) (by decide) ?_
  refine z_sld (j := 4) (x := x4) B hX hbl hbA (by decide) (show ¬ ((4 : Int32) < 0 ∨ 6 ≤ (4 : Int32).toNatClampNeg) by decide) h_x4 dL_law_276 ?_
  refine z_aload_n B dL_law_277 rfl 4 rfl ?_
  refine z_iload B dL_law_278 0 rfl ?_
  refine z_iconst (v := 5) B dL_law_280 (by decide) ?_
  refine z_iadd B dL_law_281 ?_
  refine z_seti (y := 5) (by decide) ?_
  refine z_sld (j := 5) (x := x5) B hX hbl hbA (by decide) (show ¬ ((5 : Int32) < 0 ∨ 6 ≤ (5 : Int32).toNatClampNeg) by decide) h_x5 dL_law_282 ?_
  refine z_aload_n B dL_law_283 rfl 1 rfl ?_
  refine z_cSWi (As := [.ref (b + 0), .int x1, .int x2, .int x3, .int x4, .int x5, .ref (b + 431)]) (rest := []) B cw_L_84 dL_law_284 (ci_L_check_641 l hlt (σ := (ap b σ [] [] [])) (b := b) (lyA hK) x1 x2 x3 x4 x5 q1_x1 q2_x1 (rR_at 0 0 (fz_R hF 0 0 rfl rfl))) rfl (by decide) rfl (Nat.le_of_ble_eq_true rfl) (by decide) (fun r u hu => ?_)
  obtain ⟨hu1, z, hu⟩ := hu
  refine z_eqs (σ' := (ap b (wx_Z σ z) [] [] [])) (hu.trans az_ap) ?_
  show zx p l e _ s m _ below meth c g 8 _ _ _ _ 287 [(4, .int 0), (3, .ref (b + 431)), (2, .ref (b + 405)), (1, .ref (b + 0)), (0, .ref bS)] _
  refine z_seti (y := 1) hu1 ?_
  refine z_istore (lv' := [(5, .int 1), (4, .int 0), (3, .ref (b + 431)), (2, .ref (b + 405)), (1, .ref (b + 0)), (0, .ref bS)]) B dL_law_287 (by decide) rfl ?_
  refine z_aload_n B dL_law_289 rfl 3 rfl ?_
  refine z_aload_n B dL_law_290 rfl 5 rfl ?_
  refine z_iload B dL_law_291 1 rfl ?_
  refine z_iconst (v := 1) B dL_law_293 (by decide) ?_
  refine z_iadd B dL_law_294 ?_
  refine z_seti (y := 1) (by decide) ?_
  refine z_sld (j := 1) (x := x1) B hX hbl hbA (by decide) (show ¬ ((1 : Int32) < 0 ∨ 6 ≤ (1 : Int32).toNatClampNeg) by decide) h_x1 dL_law_295 ?_
  refine z_aload_n B dL_law_296 rfl 5 rfl ?_
  refine z_iload B dL_law_297 1 rfl ?_
  refine z_iconst (v := 2) B dL_law_299 (by decide) ?_
  refine z_iadd B dL_law_300 ?_
  refine z_seti (y := 2) (by decide) ?_
  refine z_sld (j := 2) (x := x2) B hX hbl hbA (by decide) (show ¬ ((2 : Int32) < 0 ∨ 6 ≤ (2 : Int32).toNatClampNeg) by decide) h_x2 dL_law_301 ?_
  refine z_aload_n B dL_law_302 rfl 5 rfl ?_
  refine z_iload B dL_law_303 1 rfl ?_
  refine z_iconst (v := 3) B dL_law_305 (by decide) ?_
  refine z_iadd B dL_law_306 ?_
  refine z_seti (y := 3) (by decide) ?_
  refine z_sld (j := 3) (x := x3) B hX hbl hbA (by decide) (show ¬ ((3 : Int32) < 0 ∨ 6 ≤ (3 : Int32).toNatClampNeg) by decide) h_x3 dL_law_307 ?_
  refine z_aload_n B dL_law_308 rfl 5 rfl ?_
  refine z_iload B dL_law_309 1 rfl ?_
  refine z_iconst (v := 4) B dL_law_311 (by decide) ?_
  refine z_iadd B dL_law_312 ?_
  refine z_seti (y := 4) (by decide) ?_
  refine z_sld (j := 4) (x := x4) B hX hbl hbA (by decide) (show ¬ ((4 : Int32) < 0 ∨ 6 ≤ (4 : Int32).toNatClampNeg) by decide) h_x4 dL_law_313 ?_
  refine z_aload_n B dL_law_314 rfl 5 rfl ?_
  refine z_iload B dL_law_315 1 rfl ?_
  refine z_iconst (v := 5) B dL_law_317 (by decide) ?_
  refine z_iadd B dL_law_318 ?_
  refine z_seti (y := 5) (by decide) ?_
  refine z_sld (j := 5) (x := x5) B hX hbl hbA (by decide) (show ¬ ((5 : Int32) < 0 ∨ 6 ≤ (5 : Int32).toNatClampNeg) by decide) h_x5 dL_law_319 ?_
  refine z_cVi (As := [.int x1, .int x2, .int x3, .int x4, .int x5]) (rest := []) B cw_L_86 cx_10 dL_law_320 (ci_X9_check_647 l (σ := (ap b (wx_Z σ z) [] [] [])) (b := b) (lyA (lyZ hK)) x1 x2 x3 x4 x5 q1_x1 q2_x1 q1_x3 q2_x3 q1_x4 q2_x4) (lKA (lKZ (hk_K hK 405 rfl rfl))) rfl (by decide) rfl (Nat.le_of_ble_eq_true rfl) (by decide) (fun r u hu => ?_)
  refine z_eqs (σ' := (ap b (wx_Z σ z) [(405, 0, 1)] [] [])) (hu.2.trans ap_ap) ?_
  show zx p l e _ s m _ below meth c g 8 _ _ _ _ 323 [(5, .int 1), (4, .int 0), (3, .ref (b + 431)), (2, .ref (b + 405)), (1, .ref (b + 0)), (0, .ref bS)] _
  refine z_seti (y := 0) hu.1 ?_
  refine z_istore (lv' := [(6, .int 0), (5, .int 1), (4, .int 0), (3, .ref (b + 431)), (2, .ref (b + 405)), (1, .ref (b + 0)), (0, .ref bS)]) B dL_law_323 (by decide) rfl ?_
  refine z_aload_n B dL_law_325 rfl 4 rfl ?_
  refine z_cVi (As := []) (rest := []) B cw_L_80 cx_10 dL_law_326 (ci_X9_thrown_31 l (σ := (ap b (wx_Z σ z) [(405, 0, 1)] [] [])) (b := b) (lyA (lyZ hK)) (rI_at 405 0 rfl)) (lKA (lKZ (hk_K hK 405 rfl rfl))) rfl (by decide) rfl (Nat.le_of_ble_eq_true rfl) (by decide) (fun r u hu => ?_)
  refine z_eqs (σ' := (ap b (wx_Z σ z) [(405, 0, 1)] [] [])) hu.2 ?_
  show zx p l e _ s m _ below meth c g 8 _ _ _ _ 329 [(6, .int 0), (5, .int 1), (4, .int 0), (3, .ref (b + 431)), (2, .ref (b + 405)), (1, .ref (b + 0)), (0, .ref bS)] _
  refine z_seti (y := 1) hu.1 ?_
  refine z_iload B dL_law_329 1 rfl ?_
  refine z_icmp_eq (tgt := 336) B dL_law_331 (by decide) (fun _ => ?_) (fun h => absurd (by decide) h)
  refine z_iload B dL_law_336 1 rfl ?_
  refine z_if_ne (tgt := 353) B dL_law_338 (by decide) (fun _ => ?_) (fun h => absurd h (by decide))
  refine z_goto (tgt := 1395) B dL_law_353 (by decide) ?_
  exact z_widen (Nat.le_of_ble_eq_true rfl) (Nat.le_of_ble_eq_true rfl) (z_sub _ [2, 6] rfl (kk _))
set_option maxRecDepth 100000 in
set_option maxHeartbeats 4000000 in
theorem lf_1_279 {p : Program} {l : Launch} {e : Env} {s : State} {m : MethodId} {args : Array Value} {below : List Frame} {meth : Method} {c : Code} {g : gx_T} {Q : State → Prop} {σ : sx_T} {b t bS : Nat} {xs : Nat → Int32} (hlt : l.stackTraces = false) (B : zx_B p s m args meth c code RL 8 g) (hX : va_X bS 6 xs s s.heap) (hbl : bS < s.heap.size) (hbA : ¬ gx_b g ≤ bS) (hF : fz_P b t σ) {x1 : Int32} (h_x1 : xs 1 = x1) (q1_x1 : (6 : Int) ≤ x1.toInt) (q2_x1 : x1.toInt ≤ (2147483647 : Int)) {x2 : Int32} (h_x2 : xs 2 = x2) (q1_x2 : (-2147483648 : Int) ≤ x2.toInt) (q2_x2 : x2.toInt ≤ (2147483647 : Int)) {x3 : Int32} (h_x3 : xs 3 = x3) (q1_x3 : (18 : Int) ≤ x3.toInt) (q2_x3 : x3.toInt ≤ (2147483647 : Int)) {x4 : Int32} (h_x4 : xs 4 = x4) (q1_x4 : (-2147483648 : Int) ≤ x4.toInt) (q2_x4 : x4.toInt ≤ (2147483647 : Int)) {x5 : Int32} (h_x5 : xs 5 = x5) (q1_x5 : (-2147483648 : Int) ≤ x5.toInt) (q2_x5 : x5.toInt ≤ (2147483647 : Int)) (kk : ∀ σ', zx p l e room_1 s m args below meth c g 8 600002 7302232 Q σ' 1395 [(4, .int 0), (0, .ref bS)] []) : zx p l e room_1 s m args below meth c g 8 500 100000 Q σ 252 [(4, .int 0), (3, .ref (b + 431)), (2, .ref (b + 405)), (1, .ref (b + 0)), (0, .ref bS)] [] := by
  have hK := fz_lay hF
  refine z_eqs (σ' := (ap b σ [] [] [])) rfl ?_
  refine z_aload_n B dL_law_252 rfl 3 rfl ?_
  refine z_aload_n B dL_law_253 rfl 4 rfl ?_
  refine z_iload B dL_law_254 0 rfl ?_
  refine z_iconst (v := 1) B dL_law_256 (by decide) ?_
  refine z_iadd B dL_law_257 ?_
  refine z_seti (y := 1) (by decide) ?_
  refine z_sld (j := 1) (x := x1) B hX hbl hbA (by decide) (show ¬ ((1 : Int32) < 0 ∨ 6 ≤ (1 : Int32).toNatClampNeg) by decide) h_x1 dL_law_258 ?_
  refine z_aload_n B dL_law_259 rfl 4 rfl ?_
  refine z_iload B dL_law_260 0 rfl ?_
  refine z_iconst (v := 2) B dL_law_262 (by decide) ?_
  refine z_iadd B dL_law_263 ?_
  refine z_seti (y := 2) (by decide) ?_
  refine z_sld (j := 2) (x := x2) B hX hbl hbA (by decide) (show ¬ ((2 : Int32) < 0 ∨ 6 ≤ (2 : Int32).toNatClampNeg) by decide) h_x2 dL_law_264 ?_
  refine z_aload_n B dL_law_265 rfl 4 rfl ?_
  refine z_iload B dL_law_266 0 rfl ?_
  refine z_iconst (v := 3) B dL_law_268 (by decide) ?_
  refine z_iadd B dL_law_269 ?_
  refine z_seti (y := 3) (by decide) ?_
  refine z_sld (j := 3) (x := x3) B hX hbl hbA (by decide) (show ¬ ((3 : Int32) < 0 ∨ 6 ≤ (3 : Int32).toNatClampNeg) by decide) h_x3 dL_law_270 ?_
  refine z_aload_n B dL_law_271 rfl 4 rfl ?_
  refine z_iload B dL_law_272 0 rfl ?_
  refine z_iconst (v := 4) B dL_law_274 (by decide) ?_
  refine z_iadd B dL_law_275 ?_
  refine z_seti (y := 4) (by decide) ?_
  refine z_sld (j := 4) (x := x4) B hX hbl hbA (by decide) (show ¬ ((4 : Int32) < 0 ∨ 6 ≤ (4 : Int32).toNatClampNeg) by decide) h_x4 dL_law_276 ?_
  refine z_aload_n B dL_law_277 rfl 4 rfl ?_
  refine z_iload B dL_law_278 0 rfl ?_
  refine z_iconst (v := 5) B dL_law_280 (by decide) ?_
  refine z_iadd B dL_law_281 ?_
  refine z_seti (y := 5) (by decide) ?_
  refine z_sld (j := 5) (x := x5) B hX hbl hbA (by decide) (show ¬ ((5 : Int32) < 0 ∨ 6 ≤ (5 : Int32).toNatClampNeg) by decide) h_x5 dL_law_282 ?_
  refine z_aload_n B dL_law_283 rfl 1 rfl ?_
  refine z_cSWi (As := [.ref (b + 0), .int x1, .int x2, .int x3, .int x4, .int x5, .ref (b + 431)]) (rest := []) B cw_L_84 dL_law_284 (ci_L_check_641 l hlt (σ := (ap b σ [] [] [])) (b := b) (lyA hK) x1 x2 x3 x4 x5 q1_x1 q2_x1 (rR_at 0 0 (fz_R hF 0 0 rfl rfl))) rfl (by decide) rfl (Nat.le_of_ble_eq_true rfl) (by decide) (fun r u hu => ?_)
  obtain ⟨hu1, z, hu⟩ := hu
  refine z_eqs (σ' := (ap b (wx_Z σ z) [] [] [])) (hu.trans az_ap) ?_
  show zx p l e _ s m _ below meth c g 8 _ _ _ _ 287 [(4, .int 0), (3, .ref (b + 431)), (2, .ref (b + 405)), (1, .ref (b + 0)), (0, .ref bS)] _
  refine z_seti (y := 1) hu1 ?_
  refine z_istore (lv' := [(5, .int 1), (4, .int 0), (3, .ref (b + 431)), (2, .ref (b + 405)), (1, .ref (b + 0)), (0, .ref bS)]) B dL_law_287 (by decide) rfl ?_
  refine z_aload_n B dL_law_289 rfl 3 rfl ?_
  refine z_aload_n B dL_law_290 rfl 5 rfl ?_
  refine z_iload B dL_law_291 1 rfl ?_
  refine z_iconst (v := 1) B dL_law_293 (by decide) ?_
  refine z_iadd B dL_law_294 ?_
  refine z_seti (y := 1) (by decide) ?_
  refine z_sld (j := 1) (x := x1) B hX hbl hbA (by decide) (show ¬ ((1 : Int32) < 0 ∨ 6 ≤ (1 : Int32).toNatClampNeg) by decide) h_x1 dL_law_295 ?_
  refine z_aload_n B dL_law_296 rfl 5 rfl ?_
  refine z_iload B dL_law_297 1 rfl ?_
  refine z_iconst (v := 2) B dL_law_299 (by decide) ?_
  refine z_iadd B dL_law_300 ?_
  refine z_seti (y := 2) (by decide) ?_
  refine z_sld (j := 2) (x := x2) B hX hbl hbA (by decide) (show ¬ ((2 : Int32) < 0 ∨ 6 ≤ (2 : Int32).toNatClampNeg) by decide) h_x2 dL_law_301 ?_
  refine z_aload_n B dL_law_302 rfl 5 rfl ?_
  refine z_iload B dL_law_303 1 rfl ?_
  refine z_iconst (v := 3) B dL_law_305 (by decide) ?_
  refine z_iadd B dL_law_306 ?_
  refine z_seti (y := 3) (by decide) ?_
  refine z_sld (j := 3) (x := x3) B hX hbl hbA (by decide) (show ¬ ((3 : Int32) < 0 ∨ 6 ≤ (3 : Int32).toNatClampNeg) by decide) h_x3 dL_law_307 ?_
  refine z_aload_n B dL_law_308 rfl 5 rfl ?_
  refine z_iload B dL_law_309 1 rfl ?_
  refine z_iconst (v := 4) B dL_law_311 (by decide) ?_
  refine z_iadd B dL_law_312 ?_
  refine z_seti (y := 4) (by decide) ?_
  refine z_sld (j := 4) (x := x4) B hX hbl hbA (by decide) (show ¬ ((4 : Int32) < 0 ∨ 6 ≤ (4 : Int32).toNatClampNeg) by decide) h_x4 dL_law_313 ?_
  refine z_aload_n B dL_law_314 rfl 5 rfl ?_
  refine z_iload B dL_law_315 1 rfl ?_
  refine z_iconst (v := 5) B dL_law_317 (by decide) ?_
  refine z_iadd B dL_law_318 ?_
  refine z_seti (y := 5) (by decide) ?_
  refine z_sld (j := 5) (x := x5) B hX hbl hbA (by decide) (show ¬ ((5 : Int32) < 0 ∨ 6 ≤ (5 : Int32).toNatClampNeg) by decide) h_x5 dL_law_319 ?_
  refine z_cVi (As := [.int x1, .int x2, .int x3, .int x4, .int x5]) (rest := []) B cw_L_86 cx_10 dL_law_320 (ci_X9_check_648 l (σ := (ap b (wx_Z σ z) [] [] [])) (b := b) (lyA (lyZ hK)) x1 x2 x3 x4 x5 q1_x1 q2_x1 q1_x3 q2_x3) (lKA (lKZ (hk_K hK 405 rfl rfl))) rfl (by decide) rfl (Nat.le_of_ble_eq_true rfl) (by decide) (fun r u hu => ?_)
  refine z_eqs (σ' := (ap b (wx_Z σ z) [(405, 0, 1)] [] [])) (hu.2.trans ap_ap) ?_
  show zx p l e _ s m _ below meth c g 8 _ _ _ _ 323 [(5, .int 1), (4, .int 0), (3, .ref (b + 431)), (2, .ref (b + 405)), (1, .ref (b + 0)), (0, .ref bS)] _
  refine z_seti (y := 0) hu.1 ?_
  refine z_istore (lv' := [(6, .int 0), (5, .int 1), (4, .int 0), (3, .ref (b + 431)), (2, .ref (b + 405)), (1, .ref (b + 0)), (0, .ref bS)]) B dL_law_323 (by decide) rfl ?_
  refine z_aload_n B dL_law_325 rfl 4 rfl ?_
  refine z_cVi (As := []) (rest := []) B cw_L_80 cx_10 dL_law_326 (ci_X9_thrown_31 l (σ := (ap b (wx_Z σ z) [(405, 0, 1)] [] [])) (b := b) (lyA (lyZ hK)) (rI_at 405 0 rfl)) (lKA (lKZ (hk_K hK 405 rfl rfl))) rfl (by decide) rfl (Nat.le_of_ble_eq_true rfl) (by decide) (fun r u hu => ?_)
  refine z_eqs (σ' := (ap b (wx_Z σ z) [(405, 0, 1)] [] [])) hu.2 ?_
  show zx p l e _ s m _ below meth c g 8 _ _ _ _ 329 [(6, .int 0), (5, .int 1), (4, .int 0), (3, .ref (b + 431)), (2, .ref (b + 405)), (1, .ref (b + 0)), (0, .ref bS)] _
  refine z_seti (y := 1) hu.1 ?_
  refine z_iload B dL_law_329 1 rfl ?_
  refine z_icmp_eq (tgt := 336) B dL_law_331 (by decide) (fun _ => ?_) (fun h => absurd (by decide) h)
  refine z_iload B dL_law_336 1 rfl ?_
  refine z_if_ne (tgt := 353) B dL_law_338 (by decide) (fun _ => ?_) (fun h => absurd h (by decide))
  refine z_goto (tgt := 1395) B dL_law_353 (by decide) ?_
  exact z_widen (Nat.le_of_ble_eq_true rfl) (Nat.le_of_ble_eq_true rfl) (z_sub _ [2, 6] rfl (kk _))
set_option maxRecDepth 100000 in
set_option maxHeartbeats 4000000 in
theorem lf_2_280 {p : Program} {l : Launch} {e : Env} {s : State} {m : MethodId} {args : Array Value} {below : List Frame} {meth : Method} {c : Code} {g : gx_T} {Q : State → Prop} {σ : sx_T} {b t bS : Nat} {xs : Nat → Int32} (hlt : l.stackTraces = false) (B : zx_B p s m args meth c code RL 8 g) (hX : va_X bS 6 xs s s.heap) (hbl : bS < s.heap.size) (hbA : ¬ gx_b g ≤ bS) (hF : fz_P b t σ) {x1 : Int32} (h_x1 : xs 1 = x1) (q1_x1 : (-2147483648 : Int) ≤ x1.toInt) (q2_x1 : x1.toInt ≤ (-1 : Int)) {x2 : Int32} (h_x2 : xs 2 = x2) (q1_x2 : (-2147483648 : Int) ≤ x2.toInt) (q2_x2 : x2.toInt ≤ (-1000 : Int)) (kk : ∀ σ', zx p l e room_1 s m args below meth c g 8 600002 7302232 Q σ' 1395 [(4, .int 0), (0, .ref bS)] []) : zx p l e room_1 s m args below meth c g 8 500 100000 Q σ 356 [(4, .int 0), (3, .ref (b + 431)), (2, .ref (b + 405)), (1, .ref (b + 0)), (0, .ref bS)] [] := by
  have hK := fz_lay hF
  refine z_eqs (σ' := (ap b σ [] [] [])) rfl ?_
  refine z_aload_n B dL_law_356 rfl 3 rfl ?_
  refine z_aload_n B dL_law_357 rfl 4 rfl ?_
  refine z_iload B dL_law_358 0 rfl ?_
  refine z_iconst (v := 1) B dL_law_360 (by decide) ?_
  refine z_iadd B dL_law_361 ?_
  refine z_seti (y := 1) (by decide) ?_
  refine z_sld (j := 1) (x := x1) B hX hbl hbA (by decide) (show ¬ ((1 : Int32) < 0 ∨ 6 ≤ (1 : Int32).toNatClampNeg) by decide) h_x1 dL_law_362 ?_
  refine z_aload_n B dL_law_363 rfl 4 rfl ?_
  refine z_iload B dL_law_364 0 rfl ?_
  refine z_iconst (v := 2) B dL_law_366 (by decide) ?_
  refine z_iadd B dL_law_367 ?_
  refine z_seti (y := 2) (by decide) ?_
  refine z_sld (j := 2) (x := x2) B hX hbl hbA (by decide) (show ¬ ((2 : Int32) < 0 ∨ 6 ≤ (2 : Int32).toNatClampNeg) by decide) h_x2 dL_law_368 ?_
  refine z_aload_n B dL_law_369 rfl 1 rfl ?_
  refine z_cSWi (As := [.ref (b + 0), .int x1, .int x2, .ref (b + 431)]) (rest := []) B cw_L_87 dL_law_370 (ci_L_start_650 l hlt (σ := (ap b σ [] [] [])) (b := b) (lyA hK) x1 x2 q1_x1 q2_x1) rfl (by decide) rfl (Nat.le_of_ble_eq_true rfl) (by decide) (fun r u hu => ?_)
  obtain ⟨hu1, z, hu⟩ := hu
  refine z_eqs (σ' := (ap b (wx_Z σ z) [] [] [])) (hu.trans az_ap) ?_
  show zx p l e _ s m _ below meth c g 8 _ _ _ _ 373 [(4, .int 0), (3, .ref (b + 431)), (2, .ref (b + 405)), (1, .ref (b + 0)), (0, .ref bS)] _
  refine z_seti (y := 1) hu1 ?_
  refine z_istore (lv' := [(5, .int 1), (4, .int 0), (3, .ref (b + 431)), (2, .ref (b + 405)), (1, .ref (b + 0)), (0, .ref bS)]) B dL_law_373 (by decide) rfl ?_
  refine z_aload_n B dL_law_375 rfl 3 rfl ?_
  refine z_aload_n B dL_law_376 rfl 5 rfl ?_
  refine z_iload B dL_law_377 1 rfl ?_
  refine z_iconst (v := 1) B dL_law_379 (by decide) ?_
  refine z_iadd B dL_law_380 ?_
  refine z_seti (y := 1) (by decide) ?_
  refine z_sld (j := 1) (x := x1) B hX hbl hbA (by decide) (show ¬ ((1 : Int32) < 0 ∨ 6 ≤ (1 : Int32).toNatClampNeg) by decide) h_x1 dL_law_381 ?_
  refine z_aload_n B dL_law_382 rfl 5 rfl ?_
  refine z_iload B dL_law_383 1 rfl ?_
  refine z_iconst (v := 2) B dL_law_385 (by decide) ?_
  refine z_iadd B dL_law_386 ?_
  refine z_seti (y := 2) (by decide) ?_
  refine z_sld (j := 2) (x := x2) B hX hbl hbA (by decide) (show ¬ ((2 : Int32) < 0 ∨ 6 ≤ (2 : Int32).toNatClampNeg) by decide) h_x2 dL_law_387 ?_
  refine z_cVi (As := [.int x1, .int x2]) (rest := []) B cw_L_90 cx_10 dL_law_388 (ci_X9_start_653 l (σ := (ap b (wx_Z σ z) [] [] [])) (b := b) (lyA (lyZ hK)) x1 x2 q1_x1 q2_x1 q1_x2 q2_x2 (rI_at 405 6 (lIZ (fz_I hF 405 6 rfl rfl)))) (lKA (lKZ (hk_K hK 405 rfl rfl))) rfl (by decide) rfl (Nat.le_of_ble_eq_true rfl) (by decide) (fun r u hu => ?_)
  refine z_eqs (σ' := (ap b (wx_Z σ z) [(405, 0, 1)] [] [])) (hu.2.trans ap_ap) ?_
  show zx p l e _ s m _ below meth c g 8 _ _ _ _ 391 [(5, .int 1), (4, .int 0), (3, .ref (b + 431)), (2, .ref (b + 405)), (1, .ref (b + 0)), (0, .ref bS)] _
  refine z_seti (y := 0) hu.1 ?_
  refine z_istore (lv' := [(6, .int 0), (5, .int 1), (4, .int 0), (3, .ref (b + 431)), (2, .ref (b + 405)), (1, .ref (b + 0)), (0, .ref bS)]) B dL_law_391 (by decide) rfl ?_
  refine z_aload_n B dL_law_393 rfl 4 rfl ?_
  refine z_cVi (As := []) (rest := []) B cw_L_80 cx_10 dL_law_394 (ci_X9_thrown_31 l (σ := (ap b (wx_Z σ z) [(405, 0, 1)] [] [])) (b := b) (lyA (lyZ hK)) (rI_at 405 0 rfl)) (lKA (lKZ (hk_K hK 405 rfl rfl))) rfl (by decide) rfl (Nat.le_of_ble_eq_true rfl) (by decide) (fun r u hu => ?_)
  refine z_eqs (σ' := (ap b (wx_Z σ z) [(405, 0, 1)] [] [])) hu.2 ?_
  show zx p l e _ s m _ below meth c g 8 _ _ _ _ 397 [(6, .int 0), (5, .int 1), (4, .int 0), (3, .ref (b + 431)), (2, .ref (b + 405)), (1, .ref (b + 0)), (0, .ref bS)] _
  refine z_seti (y := 1) hu.1 ?_
  refine z_iload B dL_law_397 1 rfl ?_
  refine z_icmp_eq (tgt := 404) B dL_law_399 (by decide) (fun _ => ?_) (fun h => absurd (by decide) h)
  refine z_iload B dL_law_404 1 rfl ?_
  refine z_if_ne (tgt := 421) B dL_law_406 (by decide) (fun _ => ?_) (fun h => absurd h (by decide))
  refine z_goto (tgt := 1395) B dL_law_421 (by decide) ?_
  exact z_widen (Nat.le_of_ble_eq_true rfl) (Nat.le_of_ble_eq_true rfl) (z_sub _ [2, 6] rfl (kk _))
set_option maxRecDepth 100000 in
set_option maxHeartbeats 4000000 in
theorem lf_2_281 {p : Program} {l : Launch} {e : Env} {s : State} {m : MethodId} {args : Array Value} {below : List Frame} {meth : Method} {c : Code} {g : gx_T} {Q : State → Prop} {σ : sx_T} {b t bS : Nat} {xs : Nat → Int32} (hlt : l.stackTraces = false) (B : zx_B p s m args meth c code RL 8 g) (hX : va_X bS 6 xs s s.heap) (hbl : bS < s.heap.size) (hbA : ¬ gx_b g ≤ bS) (hF : fz_P b t σ) {x1 : Int32} (h_x1 : xs 1 = x1) (q1_x1 : (-2147483648 : Int) ≤ x1.toInt) (q2_x1 : x1.toInt ≤ (-1 : Int)) {x2 : Int32} (h_x2 : xs 2 = x2) (q1_x2 : (-999 : Int) ≤ x2.toInt) (q2_x2 : x2.toInt ≤ (999 : Int)) (kk : ∀ σ', zx p l e room_1 s m args below meth c g 8 600002 7302232 Q σ' 1395 [(4, .int 0), (0, .ref bS)] []) : zx p l e room_1 s m args below meth c g 8 500 100000 Q σ 356 [(4, .int 0), (3, .ref (b + 431)), (2, .ref (b + 405)), (1, .ref (b + 0)), (0, .ref bS)] [] := by
  have hK := fz_lay hF
  refine z_eqs (σ' := (ap b σ [] [] [])) rfl ?_
  refine z_aload_n B dL_law_356 rfl 3 rfl ?_
  refine z_aload_n B dL_law_357 rfl 4 rfl ?_
  refine z_iload B dL_law_358 0 rfl ?_
  refine z_iconst (v := 1) B dL_law_360 (by decide) ?_
  refine z_iadd B dL_law_361 ?_
  refine z_seti (y := 1) (by decide) ?_
  refine z_sld (j := 1) (x := x1) B hX hbl hbA (by decide) (show ¬ ((1 : Int32) < 0 ∨ 6 ≤ (1 : Int32).toNatClampNeg) by decide) h_x1 dL_law_362 ?_
  refine z_aload_n B dL_law_363 rfl 4 rfl ?_
  refine z_iload B dL_law_364 0 rfl ?_
  refine z_iconst (v := 2) B dL_law_366 (by decide) ?_
  refine z_iadd B dL_law_367 ?_
  refine z_seti (y := 2) (by decide) ?_
  refine z_sld (j := 2) (x := x2) B hX hbl hbA (by decide) (show ¬ ((2 : Int32) < 0 ∨ 6 ≤ (2 : Int32).toNatClampNeg) by decide) h_x2 dL_law_368 ?_
  refine z_aload_n B dL_law_369 rfl 1 rfl ?_
  refine z_cSWi (As := [.ref (b + 0), .int x1, .int x2, .ref (b + 431)]) (rest := []) B cw_L_87 dL_law_370 (ci_L_start_650 l hlt (σ := (ap b σ [] [] [])) (b := b) (lyA hK) x1 x2 q1_x1 q2_x1) rfl (by decide) rfl (Nat.le_of_ble_eq_true rfl) (by decide) (fun r u hu => ?_)
  obtain ⟨hu1, z, hu⟩ := hu
  refine z_eqs (σ' := (ap b (wx_Z σ z) [] [] [])) (hu.trans az_ap) ?_
  show zx p l e _ s m _ below meth c g 8 _ _ _ _ 373 [(4, .int 0), (3, .ref (b + 431)), (2, .ref (b + 405)), (1, .ref (b + 0)), (0, .ref bS)] _
  refine z_seti (y := 1) hu1 ?_
  refine z_istore (lv' := [(5, .int 1), (4, .int 0), (3, .ref (b + 431)), (2, .ref (b + 405)), (1, .ref (b + 0)), (0, .ref bS)]) B dL_law_373 (by decide) rfl ?_
  refine z_aload_n B dL_law_375 rfl 3 rfl ?_
  refine z_aload_n B dL_law_376 rfl 5 rfl ?_
  refine z_iload B dL_law_377 1 rfl ?_
  refine z_iconst (v := 1) B dL_law_379 (by decide) ?_
  refine z_iadd B dL_law_380 ?_
  refine z_seti (y := 1) (by decide) ?_
  refine z_sld (j := 1) (x := x1) B hX hbl hbA (by decide) (show ¬ ((1 : Int32) < 0 ∨ 6 ≤ (1 : Int32).toNatClampNeg) by decide) h_x1 dL_law_381 ?_
  refine z_aload_n B dL_law_382 rfl 5 rfl ?_
  refine z_iload B dL_law_383 1 rfl ?_
  refine z_iconst (v := 2) B dL_law_385 (by decide) ?_
  refine z_iadd B dL_law_386 ?_
  refine z_seti (y := 2) (by decide) ?_
  refine z_sld (j := 2) (x := x2) B hX hbl hbA (by decide) (show ¬ ((2 : Int32) < 0 ∨ 6 ≤ (2 : Int32).toNatClampNeg) by decide) h_x2 dL_law_387 ?_
  refine z_cVi (As := [.int x1, .int x2]) (rest := []) B cw_L_90 cx_10 dL_law_388 (ci_X9_start_656 l (σ := (ap b (wx_Z σ z) [] [] [])) (b := b) (lyA (lyZ hK)) x1 x2 q1_x1 q2_x1 q1_x2 q2_x2 (rI_at 405 6 (lIZ (fz_I hF 405 6 rfl rfl)))) (lKA (lKZ (hk_K hK 405 rfl rfl))) rfl (by decide) rfl (Nat.le_of_ble_eq_true rfl) (by decide) (fun r u hu => ?_)
  refine z_eqs (σ' := (ap b (wx_Z σ z) [(405, 0, 1)] [] [])) (hu.2.trans ap_ap) ?_
  show zx p l e _ s m _ below meth c g 8 _ _ _ _ 391 [(5, .int 1), (4, .int 0), (3, .ref (b + 431)), (2, .ref (b + 405)), (1, .ref (b + 0)), (0, .ref bS)] _
  refine z_seti (y := 0) hu.1 ?_
  refine z_istore (lv' := [(6, .int 0), (5, .int 1), (4, .int 0), (3, .ref (b + 431)), (2, .ref (b + 405)), (1, .ref (b + 0)), (0, .ref bS)]) B dL_law_391 (by decide) rfl ?_
  refine z_aload_n B dL_law_393 rfl 4 rfl ?_
  refine z_cVi (As := []) (rest := []) B cw_L_80 cx_10 dL_law_394 (ci_X9_thrown_31 l (σ := (ap b (wx_Z σ z) [(405, 0, 1)] [] [])) (b := b) (lyA (lyZ hK)) (rI_at 405 0 rfl)) (lKA (lKZ (hk_K hK 405 rfl rfl))) rfl (by decide) rfl (Nat.le_of_ble_eq_true rfl) (by decide) (fun r u hu => ?_)
  refine z_eqs (σ' := (ap b (wx_Z σ z) [(405, 0, 1)] [] [])) hu.2 ?_
  show zx p l e _ s m _ below meth c g 8 _ _ _ _ 397 [(6, .int 0), (5, .int 1), (4, .int 0), (3, .ref (b + 431)), (2, .ref (b + 405)), (1, .ref (b + 0)), (0, .ref bS)] _
  refine z_seti (y := 1) hu.1 ?_
  refine z_iload B dL_law_397 1 rfl ?_
  refine z_icmp_eq (tgt := 404) B dL_law_399 (by decide) (fun _ => ?_) (fun h => absurd (by decide) h)
  refine z_iload B dL_law_404 1 rfl ?_
  refine z_if_ne (tgt := 421) B dL_law_406 (by decide) (fun _ => ?_) (fun h => absurd h (by decide))
  refine z_goto (tgt := 1395) B dL_law_421 (by decide) ?_
  exact z_widen (Nat.le_of_ble_eq_true rfl) (Nat.le_of_ble_eq_true rfl) (z_sub _ [2, 6] rfl (kk _))
set_option maxRecDepth 100000 in
set_option maxHeartbeats 4000000 in
theorem lf_2_282 {p : Program} {l : Launch} {e : Env} {s : State} {m : MethodId} {args : Array Value} {below : List Frame} {meth : Method} {c : Code} {g : gx_T} {Q : State → Prop} {σ : sx_T} {b t bS : Nat} {xs : Nat → Int32} (hlt : l.stackTraces = false) (B : zx_B p s m args meth c code RL 8 g) (hX : va_X bS 6 xs s s.heap) (hbl : bS < s.heap.size) (hbA : ¬ gx_b g ≤ bS) (hF : fz_P b t σ) {x1 : Int32} (h_x1 : xs 1 = x1) (q1_x1 : (-2147483648 : Int) ≤ x1.toInt) (q2_x1 : x1.toInt ≤ (-1 : Int)) {x2 : Int32} (h_x2 : xs 2 = x2) (q1_x2 : (1000 : Int) ≤ x2.toInt) (q2_x2 : x2.toInt ≤ (2147483647 : Int)) (kk : ∀ σ', zx p l e room_1 s m args below meth c g 8 600002 7302232 Q σ' 1395 [(4, .int 0), (0, .ref bS)] []) : zx p l e room_1 s m args below meth c g 8 500 100000 Q σ 356 [(4, .int 0), (3, .ref (b + 431)), (2, .ref (b + 405)), (1, .ref (b + 0)), (0, .ref bS)] [] := by
  have hK := fz_lay hF
  refine z_eqs (σ' := (ap b σ [] [] [])) rfl ?_
  refine z_aload_n B dL_law_356 rfl 3 rfl ?_
  refine z_aload_n B dL_law_357 rfl 4 rfl ?_
  refine z_iload B dL_law_358 0 rfl ?_
  refine z_iconst (v := 1) B dL_law_360 (by decide) ?_
  refine z_iadd B dL_law_361 ?_
  refine z_seti (y := 1) (by decide) ?_
  refine z_sld (j := 1) (x := x1) B hX hbl hbA (by decide) (show ¬ ((1 : Int32) < 0 ∨ 6 ≤ (1 : Int32).toNatClampNeg) by decide) h_x1 dL_law_362 ?_
  refine z_aload_n B dL_law_363 rfl 4 rfl ?_
  refine z_iload B dL_law_364 0 rfl ?_
  refine z_iconst (v := 2) B dL_law_366 (by decide) ?_
  refine z_iadd B dL_law_367 ?_
  refine z_seti (y := 2) (by decide) ?_
  refine z_sld (j := 2) (x := x2) B hX hbl hbA (by decide) (show ¬ ((2 : Int32) < 0 ∨ 6 ≤ (2 : Int32).toNatClampNeg) by decide) h_x2 dL_law_368 ?_
  refine z_aload_n B dL_law_369 rfl 1 rfl ?_
  refine z_cSWi (As := [.ref (b + 0), .int x1, .int x2, .ref (b + 431)]) (rest := []) B cw_L_87 dL_law_370 (ci_L_start_650 l hlt (σ := (ap b σ [] [] [])) (b := b) (lyA hK) x1 x2 q1_x1 q2_x1) rfl (by decide) rfl (Nat.le_of_ble_eq_true rfl) (by decide) (fun r u hu => ?_)
  obtain ⟨hu1, z, hu⟩ := hu
  refine z_eqs (σ' := (ap b (wx_Z σ z) [] [] [])) (hu.trans az_ap) ?_
  show zx p l e _ s m _ below meth c g 8 _ _ _ _ 373 [(4, .int 0), (3, .ref (b + 431)), (2, .ref (b + 405)), (1, .ref (b + 0)), (0, .ref bS)] _
  refine z_seti (y := 1) hu1 ?_
  refine z_istore (lv' := [(5, .int 1), (4, .int 0), (3, .ref (b + 431)), (2, .ref (b + 405)), (1, .ref (b + 0)), (0, .ref bS)]) B dL_law_373 (by decide) rfl ?_
  refine z_aload_n B dL_law_375 rfl 3 rfl ?_
  refine z_aload_n B dL_law_376 rfl 5 rfl ?_
  refine z_iload B dL_law_377 1 rfl ?_
  refine z_iconst (v := 1) B dL_law_379 (by decide) ?_
  refine z_iadd B dL_law_380 ?_
  refine z_seti (y := 1) (by decide) ?_
  refine z_sld (j := 1) (x := x1) B hX hbl hbA (by decide) (show ¬ ((1 : Int32) < 0 ∨ 6 ≤ (1 : Int32).toNatClampNeg) by decide) h_x1 dL_law_381 ?_
  refine z_aload_n B dL_law_382 rfl 5 rfl ?_
  refine z_iload B dL_law_383 1 rfl ?_
  refine z_iconst (v := 2) B dL_law_385 (by decide) ?_
  refine z_iadd B dL_law_386 ?_
  refine z_seti (y := 2) (by decide) ?_
  refine z_sld (j := 2) (x := x2) B hX hbl hbA (by decide) (show ¬ ((2 : Int32) < 0 ∨ 6 ≤ (2 : Int32).toNatClampNeg) by decide) h_x2 dL_law_387 ?_
  refine z_cVi (As := [.int x1, .int x2]) (rest := []) B cw_L_90 cx_10 dL_law_388 (ci_X9_start_658 l (σ := (ap b (wx_Z σ z) [] [] [])) (b := b) (lyA (lyZ hK)) x1 x2 q1_x1 q2_x1 q1_x2 q2_x2 (rI_at 405 6 (lIZ (fz_I hF 405 6 rfl rfl)))) (lKA (lKZ (hk_K hK 405 rfl rfl))) rfl (by decide) rfl (Nat.le_of_ble_eq_true rfl) (by decide) (fun r u hu => ?_)
  refine z_eqs (σ' := (ap b (wx_Z σ z) [(405, 0, 1)] [] [])) (hu.2.trans ap_ap) ?_
  show zx p l e _ s m _ below meth c g 8 _ _ _ _ 391 [(5, .int 1), (4, .int 0), (3, .ref (b + 431)), (2, .ref (b + 405)), (1, .ref (b + 0)), (0, .ref bS)] _
  refine z_seti (y := 0) hu.1 ?_
  refine z_istore (lv' := [(6, .int 0), (5, .int 1), (4, .int 0), (3, .ref (b + 431)), (2, .ref (b + 405)), (1, .ref (b + 0)), (0, .ref bS)]) B dL_law_391 (by decide) rfl ?_
  refine z_aload_n B dL_law_393 rfl 4 rfl ?_
  refine z_cVi (As := []) (rest := []) B cw_L_80 cx_10 dL_law_394 (ci_X9_thrown_31 l (σ := (ap b (wx_Z σ z) [(405, 0, 1)] [] [])) (b := b) (lyA (lyZ hK)) (rI_at 405 0 rfl)) (lKA (lKZ (hk_K hK 405 rfl rfl))) rfl (by decide) rfl (Nat.le_of_ble_eq_true rfl) (by decide) (fun r u hu => ?_)
  refine z_eqs (σ' := (ap b (wx_Z σ z) [(405, 0, 1)] [] [])) hu.2 ?_
  show zx p l e _ s m _ below meth c g 8 _ _ _ _ 397 [(6, .int 0), (5, .int 1), (4, .int 0), (3, .ref (b + 431)), (2, .ref (b + 405)), (1, .ref (b + 0)), (0, .ref bS)] _
  refine z_seti (y := 1) hu.1 ?_
  refine z_iload B dL_law_397 1 rfl ?_
  refine z_icmp_eq (tgt := 404) B dL_law_399 (by decide) (fun _ => ?_) (fun h => absurd (by decide) h)
  refine z_iload B dL_law_404 1 rfl ?_
  refine z_if_ne (tgt := 421) B dL_law_406 (by decide) (fun _ => ?_) (fun h => absurd h (by decide))
  refine z_goto (tgt := 1395) B dL_law_421 (by decide) ?_
  exact z_widen (Nat.le_of_ble_eq_true rfl) (Nat.le_of_ble_eq_true rfl) (z_sub _ [2, 6] rfl (kk _))
set_option maxRecDepth 100000 in
set_option maxHeartbeats 4000000 in
theorem lf_2_283 {p : Program} {l : Launch} {e : Env} {s : State} {m : MethodId} {args : Array Value} {below : List Frame} {meth : Method} {c : Code} {g : gx_T} {Q : State → Prop} {σ : sx_T} {b t bS : Nat} {xs : Nat → Int32} (hlt : l.stackTraces = false) (B : zx_B p s m args meth c code RL 8 g) (hX : va_X bS 6 xs s s.heap) (hbl : bS < s.heap.size) (hbA : ¬ gx_b g ≤ bS) (hF : fz_P b t σ) (h_x1 : xs 1 = 0) {x2 : Int32} (h_x2 : xs 2 = x2) (q1_x2 : (-2147483648 : Int) ≤ x2.toInt) (q2_x2 : x2.toInt ≤ (-1000 : Int)) (kk : ∀ σ', zx p l e room_1 s m args below meth c g 8 600002 7302232 Q σ' 1395 [(4, .int 0), (0, .ref bS)] []) : zx p l e room_1 s m args below meth c g 8 500 100000 Q σ 356 [(4, .int 0), (3, .ref (b + 431)), (2, .ref (b + 405)), (1, .ref (b + 0)), (0, .ref bS)] [] := by
  have hK := fz_lay hF
  refine z_eqs (σ' := (ap b σ [] [] [])) rfl ?_
  refine z_aload_n B dL_law_356 rfl 3 rfl ?_
  refine z_aload_n B dL_law_357 rfl 4 rfl ?_
  refine z_iload B dL_law_358 0 rfl ?_
  refine z_iconst (v := 1) B dL_law_360 (by decide) ?_
  refine z_iadd B dL_law_361 ?_
  refine z_seti (y := 1) (by decide) ?_
  refine z_sld (j := 1) (x := 0) B hX hbl hbA (by decide) (show ¬ ((1 : Int32) < 0 ∨ 6 ≤ (1 : Int32).toNatClampNeg) by decide) h_x1 dL_law_362 ?_
  refine z_aload_n B dL_law_363 rfl 4 rfl ?_
  refine z_iload B dL_law_364 0 rfl ?_
  refine z_iconst (v := 2) B dL_law_366 (by decide) ?_
  refine z_iadd B dL_law_367 ?_
  refine z_seti (y := 2) (by decide) ?_
  refine z_sld (j := 2) (x := x2) B hX hbl hbA (by decide) (show ¬ ((2 : Int32) < 0 ∨ 6 ≤ (2 : Int32).toNatClampNeg) by decide) h_x2 dL_law_368 ?_
  refine z_aload_n B dL_law_369 rfl 1 rfl ?_
  refine z_cSWi (As := [.ref (b + 0), .int 0, .int x2, .ref (b + 431)]) (rest := []) B cw_L_87 dL_law_370 (ci_L_start_660 l hlt (σ := (ap b σ [] [] [])) (b := b) (lyA hK) x2 q1_x2 q2_x2 (rR_at 0 0 (fz_R hF 0 0 rfl rfl)) (rR_at 1 0 (fz_R hF 1 0 rfl rfl))) rfl (by decide) rfl (Nat.le_of_ble_eq_true rfl) (by decide) (fun r u hu => ?_)
  obtain ⟨hu1, z, hu⟩ := hu
  refine z_eqs (σ' := (ap b (wx_Z σ z) [] [] [])) (hu.trans az_ap) ?_
  show zx p l e _ s m _ below meth c g 8 _ _ _ _ 373 [(4, .int 0), (3, .ref (b + 431)), (2, .ref (b + 405)), (1, .ref (b + 0)), (0, .ref bS)] _
  refine z_seti (y := 2) hu1 ?_
  refine z_istore (lv' := [(5, .int 2), (4, .int 0), (3, .ref (b + 431)), (2, .ref (b + 405)), (1, .ref (b + 0)), (0, .ref bS)]) B dL_law_373 (by decide) rfl ?_
  refine z_aload_n B dL_law_375 rfl 3 rfl ?_
  refine z_aload_n B dL_law_376 rfl 5 rfl ?_
  refine z_iload B dL_law_377 1 rfl ?_
  refine z_iconst (v := 1) B dL_law_379 (by decide) ?_
  refine z_iadd B dL_law_380 ?_
  refine z_seti (y := 1) (by decide) ?_
  refine z_sld (j := 1) (x := 0) B hX hbl hbA (by decide) (show ¬ ((1 : Int32) < 0 ∨ 6 ≤ (1 : Int32).toNatClampNeg) by decide) h_x1 dL_law_381 ?_
  refine z_aload_n B dL_law_382 rfl 5 rfl ?_
  refine z_iload B dL_law_383 1 rfl ?_
  refine z_iconst (v := 2) B dL_law_385 (by decide) ?_
  refine z_iadd B dL_law_386 ?_
  refine z_seti (y := 2) (by decide) ?_
  refine z_sld (j := 2) (x := x2) B hX hbl hbA (by decide) (show ¬ ((2 : Int32) < 0 ∨ 6 ≤ (2 : Int32).toNatClampNeg) by decide) h_x2 dL_law_387 ?_
  refine z_cVi (As := [.int 0, .int x2]) (rest := []) B cw_L_90 cx_10 dL_law_388 (ci_X9_start_662 l (σ := (ap b (wx_Z σ z) [] [] [])) (b := b) (lyA (lyZ hK)) x2 q1_x2 q2_x2 (rI_at 405 6 (lIZ (fz_I hF 405 6 rfl rfl)))) (lKA (lKZ (hk_K hK 405 rfl rfl))) rfl (by decide) rfl (Nat.le_of_ble_eq_true rfl) (by decide) (fun r u hu => ?_)
  refine z_eqs (σ' := (ap b (wx_Z σ z) [(405, 0, 2)] [] [])) (hu.2.trans ap_ap) ?_
  show zx p l e _ s m _ below meth c g 8 _ _ _ _ 391 [(5, .int 2), (4, .int 0), (3, .ref (b + 431)), (2, .ref (b + 405)), (1, .ref (b + 0)), (0, .ref bS)] _
  refine z_seti (y := 0) hu.1 ?_
  refine z_istore (lv' := [(6, .int 0), (5, .int 2), (4, .int 0), (3, .ref (b + 431)), (2, .ref (b + 405)), (1, .ref (b + 0)), (0, .ref bS)]) B dL_law_391 (by decide) rfl ?_
  refine z_aload_n B dL_law_393 rfl 4 rfl ?_
  refine z_cVi (As := []) (rest := []) B cw_L_80 cx_10 dL_law_394 (ci_X9_thrown_73 l (σ := (ap b (wx_Z σ z) [(405, 0, 2)] [] [])) (b := b) (lyA (lyZ hK)) (rI_at 405 0 rfl)) (lKA (lKZ (hk_K hK 405 rfl rfl))) rfl (by decide) rfl (Nat.le_of_ble_eq_true rfl) (by decide) (fun r u hu => ?_)
  refine z_eqs (σ' := (ap b (wx_Z σ z) [(405, 0, 2)] [] [])) hu.2 ?_
  show zx p l e _ s m _ below meth c g 8 _ _ _ _ 397 [(6, .int 0), (5, .int 2), (4, .int 0), (3, .ref (b + 431)), (2, .ref (b + 405)), (1, .ref (b + 0)), (0, .ref bS)] _
  refine z_seti (y := 2) hu.1 ?_
  refine z_iload B dL_law_397 1 rfl ?_
  refine z_icmp_eq (tgt := 404) B dL_law_399 (by decide) (fun _ => ?_) (fun h => absurd (by decide) h)
  refine z_iload B dL_law_404 1 rfl ?_
  refine z_if_ne (tgt := 421) B dL_law_406 (by decide) (fun _ => ?_) (fun h => absurd h (by decide))
  refine z_goto (tgt := 1395) B dL_law_421 (by decide) ?_
  exact z_widen (Nat.le_of_ble_eq_true rfl) (Nat.le_of_ble_eq_true rfl) (z_sub _ [2, 6] rfl (kk _))
set_option maxRecDepth 100000 in
set_option maxHeartbeats 4000000 in
theorem lf_2_284 {p : Program} {l : Launch} {e : Env} {s : State} {m : MethodId} {args : Array Value} {below : List Frame} {meth : Method} {c : Code} {g : gx_T} {Q : State → Prop} {σ : sx_T} {b t bS : Nat} {xs : Nat → Int32} (hlt : l.stackTraces = false) (B : zx_B p s m args meth c code RL 8 g) (hX : va_X bS 6 xs s s.heap) (hbl : bS < s.heap.size) (hbA : ¬ gx_b g ≤ bS) (hF : fz_P b t σ) (h_x1 : xs 1 = 0) {x2 : Int32} (h_x2 : xs 2 = x2) (q1_x2 : (-999 : Int) ≤ x2.toInt) (q2_x2 : x2.toInt ≤ (-1 : Int)) (kk : ∀ σ', zx p l e room_1 s m args below meth c g 8 600002 7302232 Q σ' 1395 [(4, .int 0), (0, .ref bS)] []) : zx p l e room_1 s m args below meth c g 8 500 100000 Q σ 356 [(4, .int 0), (3, .ref (b + 431)), (2, .ref (b + 405)), (1, .ref (b + 0)), (0, .ref bS)] [] := by
  have hK := fz_lay hF
  refine z_eqs (σ' := (ap b σ [] [] [])) rfl ?_
  refine z_aload_n B dL_law_356 rfl 3 rfl ?_
  refine z_aload_n B dL_law_357 rfl 4 rfl ?_
  refine z_iload B dL_law_358 0 rfl ?_
  refine z_iconst (v := 1) B dL_law_360 (by decide) ?_
  refine z_iadd B dL_law_361 ?_
  refine z_seti (y := 1) (by decide) ?_
  refine z_sld (j := 1) (x := 0) B hX hbl hbA (by decide) (show ¬ ((1 : Int32) < 0 ∨ 6 ≤ (1 : Int32).toNatClampNeg) by decide) h_x1 dL_law_362 ?_
  refine z_aload_n B dL_law_363 rfl 4 rfl ?_
  refine z_iload B dL_law_364 0 rfl ?_
  refine z_iconst (v := 2) B dL_law_366 (by decide) ?_
  refine z_iadd B dL_law_367 ?_
  refine z_seti (y := 2) (by decide) ?_
  refine z_sld (j := 2) (x := x2) B hX hbl hbA (by decide) (show ¬ ((2 : Int32) < 0 ∨ 6 ≤ (2 : Int32).toNatClampNeg) by decide) h_x2 dL_law_368 ?_
  refine z_aload_n B dL_law_369 rfl 1 rfl ?_
  refine z_cSWi (As := [.ref (b + 0), .int 0, .int x2, .ref (b + 431)]) (rest := []) B cw_L_87 dL_law_370 (ci_L_start_701 l (σ := (ap b σ [] [] [])) (b := b) (lyA hK) x2 q1_x2 q2_x2 (rI_at 0 7 (fz_I hF 0 7 rfl rfl)) (rI_at 5 1 (fz_I hF 5 1 rfl rfl)) (rI_at 5 2 (fz_I hF 5 2 rfl rfl)) (rI_at 7 1 (fz_I hF 7 1 rfl rfl)) (rI_at 7 2 (fz_I hF 7 2 rfl rfl)) (rI_at 10 0 (fz_I hF 10 0 rfl rfl)) (rI_at 11 0 (fz_I hF 11 0 rfl rfl)) (rI_at 12 0 (fz_I hF 12 0 rfl rfl)) (rI_at 37 2 (fz_I hF 37 2 rfl rfl)) (rI_at 40 0 (fz_I hF 40 0 rfl rfl)) (rI_at 40 8 (fz_I hF 40 8 rfl rfl)) (rR_at 0 0 (fz_R hF 0 0 rfl rfl)) (rR_at 0 2 (fz_R hF 0 2 rfl rfl)) (rR_at 0 4 (fz_R hF 0 4 rfl rfl)) (rR_at 0 5 (fz_R hF 0 5 rfl rfl)) (rR_at 1 0 (fz_R hF 1 0 rfl rfl)) (rR_at 3 0 (fz_R hF 3 0 rfl rfl)) (rR_at 5 0 (fz_R hF 5 0 rfl rfl)) (rR_at 9 1 (fz_R hF 9 1 rfl rfl)) (rR_at 9 2 (fz_R hF 9 2 rfl rfl)) (rR_at 9 3 (fz_R hF 9 3 rfl rfl)) (rR_at 37 0 (fz_R hF 37 0 rfl rfl)) (rR_at 37 1 (fz_R hF 37 1 rfl rfl)) (rR_at 40 1 (fz_R hF 40 1 rfl rfl)) (rR_at 40 2 (fz_R hF 40 2 rfl rfl)) (rR_at 40 7 (fz_R hF 40 7 rfl rfl)) (rR_at 41 0 (fz_R hF 41 0 rfl rfl)) (rR_at 41 1 (fz_R hF 41 1 rfl rfl))) rfl (by decide) rfl (Nat.le_of_ble_eq_true rfl) (by decide) (fun r u hu => ?_)
  refine z_eqs (σ' := (ap b σ [(7, 2, 0), (7, 1, 0), (40, 8, 2), (5, 2, 0), (41, 19, 0), (41, 19, 0), (41, 15, 1), (41, 4, 2), (41, 16, (-1)), (37, 2, 2), (38, 1, 13), (41, 16, 13), (41, 7, 1), (41, 5, 1), (5, 2, 1), (41, 19, 0), (41, 18, (-1)), (41, 16, (-1)), (41, 15, 0), (41, 14, 0), (41, 13, 0), (41, 12, 0), (41, 10, (-1)), (41, 9, (-1)), (41, 8, 0), (41, 7, 0), (41, 6, ((x2.toInt64).toInt32)), (41, 5, 0), (41, 4, 1), (44, 1, 0), (42, 1, 0), (37, 2, 1), (38, 0, 0), (40, 5, 0), (40, 4, (-1)), (0, 7, 1)] [(431, 0, 0), (39, 1, ((10 * (((x2.toInt64).toInt32).toInt64)) + 1)), (41, 17, ((10 * (((x2.toInt64).toInt32).toInt64)) + 1)), (41, 17, 0), (41, 11, 0), (39, 0, (x2.toInt64))] [(6, 0, (some (b + 40))), (41, 3, (some (b + 37))), (41, 2, (some (b + 9))), (40, 3, (some (b + 9)))])) (hu.2.trans ap_ap) ?_
  show zx p l e _ s m _ below meth c g 8 _ _ _ _ 373 [(4, .int 0), (3, .ref (b + 431)), (2, .ref (b + 405)), (1, .ref (b + 0)), (0, .ref bS)] _
  refine z_seti (y := 0) hu.1 ?_
  refine z_istore (lv' := [(5, .int 0), (4, .int 0), (3, .ref (b + 431)), (2, .ref (b + 405)), (1, .ref (b + 0)), (0, .ref bS)]) B dL_law_373 (by decide) rfl ?_
  refine z_aload_n B dL_law_375 rfl 3 rfl ?_
  refine z_aload_n B dL_law_376 rfl 5 rfl ?_
  refine z_iload B dL_law_377 1 rfl ?_
  refine z_iconst (v := 1) B dL_law_379 (by decide) ?_
  refine z_iadd B dL_law_380 ?_
  refine z_seti (y := 1) (by decide) ?_
  refine z_sld (j := 1) (x := 0) B hX hbl hbA (by decide) (show ¬ ((1 : Int32) < 0 ∨ 6 ≤ (1 : Int32).toNatClampNeg) by decide) h_x1 dL_law_381 ?_
  refine z_aload_n B dL_law_382 rfl 5 rfl ?_
  refine z_iload B dL_law_383 1 rfl ?_
  refine z_iconst (v := 2) B dL_law_385 (by decide) ?_
  refine z_iadd B dL_law_386 ?_
  refine z_seti (y := 2) (by decide) ?_
  refine z_sld (j := 2) (x := x2) B hX hbl hbA (by decide) (show ¬ ((2 : Int32) < 0 ∨ 6 ≤ (2 : Int32).toNatClampNeg) by decide) h_x2 dL_law_387 ?_
  refine z_cVi (As := [.int 0, .int x2]) (rest := []) B cw_L_90 cx_10 dL_law_388 (ci_X9_start_715 l (σ := (ap b σ [(7, 2, 0), (7, 1, 0), (40, 8, 2), (5, 2, 0), (41, 19, 0), (41, 19, 0), (41, 15, 1), (41, 4, 2), (41, 16, (-1)), (37, 2, 2), (38, 1, 13), (41, 16, 13), (41, 7, 1), (41, 5, 1), (5, 2, 1), (41, 19, 0), (41, 18, (-1)), (41, 16, (-1)), (41, 15, 0), (41, 14, 0), (41, 13, 0), (41, 12, 0), (41, 10, (-1)), (41, 9, (-1)), (41, 8, 0), (41, 7, 0), (41, 6, ((x2.toInt64).toInt32)), (41, 5, 0), (41, 4, 1), (44, 1, 0), (42, 1, 0), (37, 2, 1), (38, 0, 0), (40, 5, 0), (40, 4, (-1)), (0, 7, 1)] [(431, 0, 0), (39, 1, ((10 * (((x2.toInt64).toInt32).toInt64)) + 1)), (41, 17, ((10 * (((x2.toInt64).toInt32).toInt64)) + 1)), (41, 17, 0), (41, 11, 0), (39, 0, (x2.toInt64))] [(6, 0, (some (b + 40))), (41, 3, (some (b + 37))), (41, 2, (some (b + 9))), (40, 3, (some (b + 9)))])) (b := b) (lyA hK) x2 q1_x2 q2_x2 (rI_at 405 6 (fz_I hF 405 6 rfl rfl)) (rI_at 405 16 (fz_I hF 405 16 rfl rfl)) (rI_at 406 0 (fz_I hF 406 0 rfl rfl)) (rI_at 407 0 (fz_I hF 407 0 rfl rfl)) (rI_at 412 0 (fz_I hF 412 0 rfl rfl)) (rI_at 413 0 (fz_I hF 413 0 rfl rfl)) (rR_at 405 3 (fz_R hF 405 3 rfl rfl)) (rR_at 405 4 (fz_R hF 405 4 rfl rfl)) (rR_at 405 7 (fz_R hF 405 7 rfl rfl)) (rR_at 405 8 (fz_R hF 405 8 rfl rfl)) (rR_at 405 9 (fz_R hF 405 9 rfl rfl)) (rR_at 405 10 (fz_R hF 405 10 rfl rfl)) (rR_at 405 11 (fz_R hF 405 11 rfl rfl)) (rR_at 405 12 (fz_R hF 405 12 rfl rfl)) (rR_at 405 13 (fz_R hF 405 13 rfl rfl)) (rR_at 405 14 (fz_R hF 405 14 rfl rfl)) (rR_at 405 15 (fz_R hF 405 15 rfl rfl)) (rR_at 405 42 (fz_R hF 405 42 rfl rfl))) (lKA (hk_K hK 405 rfl rfl)) rfl (by decide) rfl (Nat.le_of_ble_eq_true rfl) (by decide) (fun r u hu => ?_)
  refine z_eqs (σ' := (ap b σ [(412, 0, 1), (414, 0, 2), (405, 26, 1), (405, 37, 1), (405, 27, 2), (413, 0, 2), (416, 1, 13), (405, 28, 1), (405, 38, 1), (405, 48, (-1)), (405, 27, 1), (405, 29, ((x2.toInt64).toInt32)), (405, 26, 1), (405, 47, 1), (405, 39, 0), (405, 38, 0), (405, 37, 0), (405, 36, 0), (405, 35, 0), (405, 34, 0), (405, 32, 0), (405, 31, 0), (405, 30, 0), (405, 29, 0), (405, 28, 0), (405, 27, 0), (405, 26, 1), (428, 0, 0), (405, 45, 0), (405, 43, 0), (413, 0, 1), (416, 0, 0), (415, 0, (-1)), (411, 0, 0), (410, 0, (-1)), (409, 0, 0), (405, 6, 1), (405, 0, 0), (7, 2, 0), (7, 1, 0), (40, 8, 2), (5, 2, 0), (41, 19, 0), (41, 19, 0), (41, 15, 1), (41, 4, 2), (41, 16, (-1)), (37, 2, 2), (38, 1, 13), (41, 16, 13), (41, 7, 1), (41, 5, 1), (5, 2, 1), (41, 19, 0), (41, 18, (-1)), (41, 16, (-1)), (41, 15, 0), (41, 14, 0), (41, 13, 0), (41, 12, 0), (41, 10, (-1)), (41, 9, (-1)), (41, 8, 0), (41, 7, 0), (41, 6, ((x2.toInt64).toInt32)), (41, 5, 0), (41, 4, 1), (44, 1, 0), (42, 1, 0), (37, 2, 1), (38, 0, 0), (40, 5, 0), (40, 4, (-1)), (0, 7, 1)] [(417, 1, ((10 * (((x2.toInt64).toInt32).toInt64)) + 1)), (417, 0, (x2.toInt64)), (431, 0, 0), (39, 1, ((10 * (((x2.toInt64).toInt32).toInt64)) + 1)), (41, 17, ((10 * (((x2.toInt64).toInt32).toInt64)) + 1)), (41, 17, 0), (41, 11, 0), (39, 0, (x2.toInt64))] [(6, 0, (some (b + 40))), (41, 3, (some (b + 37))), (41, 2, (some (b + 9))), (40, 3, (some (b + 9)))])) (hu.2.trans ap_ap) ?_
  show zx p l e _ s m _ below meth c g 8 _ _ _ _ 391 [(5, .int 0), (4, .int 0), (3, .ref (b + 431)), (2, .ref (b + 405)), (1, .ref (b + 0)), (0, .ref bS)] _
  refine z_seti (y := 0) hu.1 ?_
  refine z_istore (lv' := [(6, .int 0), (5, .int 0), (4, .int 0), (3, .ref (b + 431)), (2, .ref (b + 405)), (1, .ref (b + 0)), (0, .ref bS)]) B dL_law_391 (by decide) rfl ?_
  refine z_aload_n B dL_law_393 rfl 4 rfl ?_
  refine z_cVi (As := []) (rest := []) B cw_L_80 cx_10 dL_law_394 (ci_X9_thrown_95 l (σ := (ap b σ [(412, 0, 1), (414, 0, 2), (405, 26, 1), (405, 37, 1), (405, 27, 2), (413, 0, 2), (416, 1, 13), (405, 28, 1), (405, 38, 1), (405, 48, (-1)), (405, 27, 1), (405, 29, ((x2.toInt64).toInt32)), (405, 26, 1), (405, 47, 1), (405, 39, 0), (405, 38, 0), (405, 37, 0), (405, 36, 0), (405, 35, 0), (405, 34, 0), (405, 32, 0), (405, 31, 0), (405, 30, 0), (405, 29, 0), (405, 28, 0), (405, 27, 0), (405, 26, 1), (428, 0, 0), (405, 45, 0), (405, 43, 0), (413, 0, 1), (416, 0, 0), (415, 0, (-1)), (411, 0, 0), (410, 0, (-1)), (409, 0, 0), (405, 6, 1), (405, 0, 0), (7, 2, 0), (7, 1, 0), (40, 8, 2), (5, 2, 0), (41, 19, 0), (41, 19, 0), (41, 15, 1), (41, 4, 2), (41, 16, (-1)), (37, 2, 2), (38, 1, 13), (41, 16, 13), (41, 7, 1), (41, 5, 1), (5, 2, 1), (41, 19, 0), (41, 18, (-1)), (41, 16, (-1)), (41, 15, 0), (41, 14, 0), (41, 13, 0), (41, 12, 0), (41, 10, (-1)), (41, 9, (-1)), (41, 8, 0), (41, 7, 0), (41, 6, ((x2.toInt64).toInt32)), (41, 5, 0), (41, 4, 1), (44, 1, 0), (42, 1, 0), (37, 2, 1), (38, 0, 0), (40, 5, 0), (40, 4, (-1)), (0, 7, 1)] [(417, 1, ((10 * (((x2.toInt64).toInt32).toInt64)) + 1)), (417, 0, (x2.toInt64)), (431, 0, 0), (39, 1, ((10 * (((x2.toInt64).toInt32).toInt64)) + 1)), (41, 17, ((10 * (((x2.toInt64).toInt32).toInt64)) + 1)), (41, 17, 0), (41, 11, 0), (39, 0, (x2.toInt64))] [(6, 0, (some (b + 40))), (41, 3, (some (b + 37))), (41, 2, (some (b + 9))), (40, 3, (some (b + 9)))])) (b := b) (lyA hK) (rI_at 405 0 rfl)) (lKA (hk_K hK 405 rfl rfl)) rfl (by decide) rfl (Nat.le_of_ble_eq_true rfl) (by decide) (fun r u hu => ?_)
  refine z_eqs (σ' := (ap b σ [(412, 0, 1), (414, 0, 2), (405, 26, 1), (405, 37, 1), (405, 27, 2), (413, 0, 2), (416, 1, 13), (405, 28, 1), (405, 38, 1), (405, 48, (-1)), (405, 27, 1), (405, 29, ((x2.toInt64).toInt32)), (405, 26, 1), (405, 47, 1), (405, 39, 0), (405, 38, 0), (405, 37, 0), (405, 36, 0), (405, 35, 0), (405, 34, 0), (405, 32, 0), (405, 31, 0), (405, 30, 0), (405, 29, 0), (405, 28, 0), (405, 27, 0), (405, 26, 1), (428, 0, 0), (405, 45, 0), (405, 43, 0), (413, 0, 1), (416, 0, 0), (415, 0, (-1)), (411, 0, 0), (410, 0, (-1)), (409, 0, 0), (405, 6, 1), (405, 0, 0), (7, 2, 0), (7, 1, 0), (40, 8, 2), (5, 2, 0), (41, 19, 0), (41, 19, 0), (41, 15, 1), (41, 4, 2), (41, 16, (-1)), (37, 2, 2), (38, 1, 13), (41, 16, 13), (41, 7, 1), (41, 5, 1), (5, 2, 1), (41, 19, 0), (41, 18, (-1)), (41, 16, (-1)), (41, 15, 0), (41, 14, 0), (41, 13, 0), (41, 12, 0), (41, 10, (-1)), (41, 9, (-1)), (41, 8, 0), (41, 7, 0), (41, 6, ((x2.toInt64).toInt32)), (41, 5, 0), (41, 4, 1), (44, 1, 0), (42, 1, 0), (37, 2, 1), (38, 0, 0), (40, 5, 0), (40, 4, (-1)), (0, 7, 1)] [(417, 1, ((10 * (((x2.toInt64).toInt32).toInt64)) + 1)), (417, 0, (x2.toInt64)), (431, 0, 0), (39, 1, ((10 * (((x2.toInt64).toInt32).toInt64)) + 1)), (41, 17, ((10 * (((x2.toInt64).toInt32).toInt64)) + 1)), (41, 17, 0), (41, 11, 0), (39, 0, (x2.toInt64))] [(6, 0, (some (b + 40))), (41, 3, (some (b + 37))), (41, 2, (some (b + 9))), (40, 3, (some (b + 9)))])) hu.2 ?_
  show zx p l e _ s m _ below meth c g 8 _ _ _ _ 397 [(6, .int 0), (5, .int 0), (4, .int 0), (3, .ref (b + 431)), (2, .ref (b + 405)), (1, .ref (b + 0)), (0, .ref bS)] _
  refine z_seti (y := 0) hu.1 ?_
  refine z_iload B dL_law_397 1 rfl ?_
  refine z_icmp_eq (tgt := 404) B dL_law_399 (by decide) (fun _ => ?_) (fun h => absurd (by decide) h)
  refine z_iload B dL_law_404 1 rfl ?_
  refine z_if_ne (tgt := 421) B dL_law_406 (by decide) (fun h => absurd (by decide) h) (fun _ => ?_)
  refine z_aload_n B dL_law_409 rfl 3 rfl ?_
  refine z_iconst (v := 0) B dL_law_410 (by decide) ?_
  refine z_lald (j := 0) (x := 0) B (lKA (hk_K hK 431 rfl rfl)) (by decide) (in_of (lNA (hk_N hK 431 rfl rfl)) (show ¬ ((0 : Int32) < 0 ∨ 1 ≤ (0 : Int32).toNatClampNeg) by decide)) (rJ_at 431 0 rfl) dL_law_411 ?_
  refine z_iload B dL_law_412 0 rfl ?_
  refine z_i2l (v := 0) B dL_law_414 (by decide) ?_
  refine z_lcmp (v := 0) B dL_law_415 (by decide) ?_
  refine z_if_eq (tgt := 421) B dL_law_416 (by decide) (fun _ => ?_) (fun h => absurd (by decide) h)
  refine z_goto (tgt := 1395) B dL_law_421 (by decide) ?_
  exact z_widen (Nat.le_of_ble_eq_true rfl) (Nat.le_of_ble_eq_true rfl) (z_sub _ [2, 6] rfl (kk _))
set_option maxRecDepth 100000 in
set_option maxHeartbeats 4000000 in
theorem lf_2_285 {p : Program} {l : Launch} {e : Env} {s : State} {m : MethodId} {args : Array Value} {below : List Frame} {meth : Method} {c : Code} {g : gx_T} {Q : State → Prop} {σ : sx_T} {b t bS : Nat} {xs : Nat → Int32} (hlt : l.stackTraces = false) (B : zx_B p s m args meth c code RL 8 g) (hX : va_X bS 6 xs s s.heap) (hbl : bS < s.heap.size) (hbA : ¬ gx_b g ≤ bS) (hF : fz_P b t σ) (h_x1 : xs 1 = 0) {x2 : Int32} (h_x2 : xs 2 = x2) (q1_x2 : (0 : Int) ≤ x2.toInt) (q2_x2 : x2.toInt ≤ (999 : Int)) (kk : ∀ σ', zx p l e room_1 s m args below meth c g 8 600002 7302232 Q σ' 1395 [(4, .int 0), (0, .ref bS)] []) : zx p l e room_1 s m args below meth c g 8 500 100000 Q σ 356 [(4, .int 0), (3, .ref (b + 431)), (2, .ref (b + 405)), (1, .ref (b + 0)), (0, .ref bS)] [] := by
  have hK := fz_lay hF
  refine z_eqs (σ' := (ap b σ [] [] [])) rfl ?_
  refine z_aload_n B dL_law_356 rfl 3 rfl ?_
  refine z_aload_n B dL_law_357 rfl 4 rfl ?_
  refine z_iload B dL_law_358 0 rfl ?_
  refine z_iconst (v := 1) B dL_law_360 (by decide) ?_
  refine z_iadd B dL_law_361 ?_
  refine z_seti (y := 1) (by decide) ?_
  refine z_sld (j := 1) (x := 0) B hX hbl hbA (by decide) (show ¬ ((1 : Int32) < 0 ∨ 6 ≤ (1 : Int32).toNatClampNeg) by decide) h_x1 dL_law_362 ?_
  refine z_aload_n B dL_law_363 rfl 4 rfl ?_
  refine z_iload B dL_law_364 0 rfl ?_
  refine z_iconst (v := 2) B dL_law_366 (by decide) ?_
  refine z_iadd B dL_law_367 ?_
  refine z_seti (y := 2) (by decide) ?_
  refine z_sld (j := 2) (x := x2) B hX hbl hbA (by decide) (show ¬ ((2 : Int32) < 0 ∨ 6 ≤ (2 : Int32).toNatClampNeg) by decide) h_x2 dL_law_368 ?_
  refine z_aload_n B dL_law_369 rfl 1 rfl ?_
  refine z_cSWi (As := [.ref (b + 0), .int 0, .int x2, .ref (b + 431)]) (rest := []) B cw_L_87 dL_law_370 (ci_L_start_720 l (σ := (ap b σ [] [] [])) (b := b) (lyA hK) x2 q1_x2 q2_x2 (rI_at 0 7 (fz_I hF 0 7 rfl rfl)) (rI_at 5 1 (fz_I hF 5 1 rfl rfl)) (rI_at 5 2 (fz_I hF 5 2 rfl rfl)) (rI_at 7 1 (fz_I hF 7 1 rfl rfl)) (rI_at 7 2 (fz_I hF 7 2 rfl rfl)) (rI_at 10 0 (fz_I hF 10 0 rfl rfl)) (rI_at 11 0 (fz_I hF 11 0 rfl rfl)) (rI_at 12 0 (fz_I hF 12 0 rfl rfl)) (rI_at 37 2 (fz_I hF 37 2 rfl rfl)) (rI_at 40 0 (fz_I hF 40 0 rfl rfl)) (rI_at 40 8 (fz_I hF 40 8 rfl rfl)) (rR_at 0 0 (fz_R hF 0 0 rfl rfl)) (rR_at 0 2 (fz_R hF 0 2 rfl rfl)) (rR_at 0 4 (fz_R hF 0 4 rfl rfl)) (rR_at 0 5 (fz_R hF 0 5 rfl rfl)) (rR_at 1 0 (fz_R hF 1 0 rfl rfl)) (rR_at 3 0 (fz_R hF 3 0 rfl rfl)) (rR_at 5 0 (fz_R hF 5 0 rfl rfl)) (rR_at 9 1 (fz_R hF 9 1 rfl rfl)) (rR_at 9 2 (fz_R hF 9 2 rfl rfl)) (rR_at 9 3 (fz_R hF 9 3 rfl rfl)) (rR_at 37 0 (fz_R hF 37 0 rfl rfl)) (rR_at 37 1 (fz_R hF 37 1 rfl rfl)) (rR_at 40 1 (fz_R hF 40 1 rfl rfl)) (rR_at 40 2 (fz_R hF 40 2 rfl rfl)) (rR_at 40 7 (fz_R hF 40 7 rfl rfl)) (rR_at 41 0 (fz_R hF 41 0 rfl rfl)) (rR_at 41 1 (fz_R hF 41 1 rfl rfl))) rfl (by decide) rfl (Nat.le_of_ble_eq_true rfl) (by decide) (fun r u hu => ?_)
  refine z_eqs (σ' := (ap b σ [(7, 2, 0), (7, 1, 0), (40, 8, 2), (5, 2, 0), (41, 19, 0), (41, 19, 0), (41, 15, 1), (41, 4, 2), (41, 16, (-1)), (37, 2, 2), (38, 1, 13), (41, 16, 13), (41, 7, 1), (41, 5, 1), (5, 2, 1), (41, 19, 0), (41, 18, (-1)), (41, 16, (-1)), (41, 15, 0), (41, 14, 0), (41, 13, 0), (41, 12, 0), (41, 10, (-1)), (41, 9, (-1)), (41, 8, 0), (41, 7, 0), (41, 6, ((x2.toInt64).toInt32)), (41, 5, 0), (41, 4, 1), (44, 1, 0), (42, 1, 0), (37, 2, 1), (38, 0, 0), (40, 5, 0), (40, 4, (-1)), (0, 7, 1)] [(431, 0, 0), (39, 1, ((10 * (((x2.toInt64).toInt32).toInt64)) + 1)), (41, 17, ((10 * (((x2.toInt64).toInt32).toInt64)) + 1)), (41, 17, 0), (41, 11, 0), (39, 0, (x2.toInt64))] [(6, 0, (some (b + 40))), (41, 3, (some (b + 37))), (41, 2, (some (b + 9))), (40, 3, (some (b + 9)))])) (hu.2.trans ap_ap) ?_
  show zx p l e _ s m _ below meth c g 8 _ _ _ _ 373 [(4, .int 0), (3, .ref (b + 431)), (2, .ref (b + 405)), (1, .ref (b + 0)), (0, .ref bS)] _
  refine z_seti (y := 0) hu.1 ?_
  refine z_istore (lv' := [(5, .int 0), (4, .int 0), (3, .ref (b + 431)), (2, .ref (b + 405)), (1, .ref (b + 0)), (0, .ref bS)]) B dL_law_373 (by decide) rfl ?_
  refine z_aload_n B dL_law_375 rfl 3 rfl ?_
  refine z_aload_n B dL_law_376 rfl 5 rfl ?_
  refine z_iload B dL_law_377 1 rfl ?_
  refine z_iconst (v := 1) B dL_law_379 (by decide) ?_
  refine z_iadd B dL_law_380 ?_
  refine z_seti (y := 1) (by decide) ?_
  refine z_sld (j := 1) (x := 0) B hX hbl hbA (by decide) (show ¬ ((1 : Int32) < 0 ∨ 6 ≤ (1 : Int32).toNatClampNeg) by decide) h_x1 dL_law_381 ?_
  refine z_aload_n B dL_law_382 rfl 5 rfl ?_
  refine z_iload B dL_law_383 1 rfl ?_
  refine z_iconst (v := 2) B dL_law_385 (by decide) ?_
  refine z_iadd B dL_law_386 ?_
  refine z_seti (y := 2) (by decide) ?_
  refine z_sld (j := 2) (x := x2) B hX hbl hbA (by decide) (show ¬ ((2 : Int32) < 0 ∨ 6 ≤ (2 : Int32).toNatClampNeg) by decide) h_x2 dL_law_387 ?_
  refine z_cVi (As := [.int 0, .int x2]) (rest := []) B cw_L_90 cx_10 dL_law_388 (ci_X9_start_722 l (σ := (ap b σ [(7, 2, 0), (7, 1, 0), (40, 8, 2), (5, 2, 0), (41, 19, 0), (41, 19, 0), (41, 15, 1), (41, 4, 2), (41, 16, (-1)), (37, 2, 2), (38, 1, 13), (41, 16, 13), (41, 7, 1), (41, 5, 1), (5, 2, 1), (41, 19, 0), (41, 18, (-1)), (41, 16, (-1)), (41, 15, 0), (41, 14, 0), (41, 13, 0), (41, 12, 0), (41, 10, (-1)), (41, 9, (-1)), (41, 8, 0), (41, 7, 0), (41, 6, ((x2.toInt64).toInt32)), (41, 5, 0), (41, 4, 1), (44, 1, 0), (42, 1, 0), (37, 2, 1), (38, 0, 0), (40, 5, 0), (40, 4, (-1)), (0, 7, 1)] [(431, 0, 0), (39, 1, ((10 * (((x2.toInt64).toInt32).toInt64)) + 1)), (41, 17, ((10 * (((x2.toInt64).toInt32).toInt64)) + 1)), (41, 17, 0), (41, 11, 0), (39, 0, (x2.toInt64))] [(6, 0, (some (b + 40))), (41, 3, (some (b + 37))), (41, 2, (some (b + 9))), (40, 3, (some (b + 9)))])) (b := b) (lyA hK) x2 q1_x2 q2_x2 (rI_at 405 6 (fz_I hF 405 6 rfl rfl)) (rI_at 405 16 (fz_I hF 405 16 rfl rfl)) (rI_at 406 0 (fz_I hF 406 0 rfl rfl)) (rI_at 407 0 (fz_I hF 407 0 rfl rfl)) (rI_at 412 0 (fz_I hF 412 0 rfl rfl)) (rI_at 413 0 (fz_I hF 413 0 rfl rfl)) (rR_at 405 3 (fz_R hF 405 3 rfl rfl)) (rR_at 405 4 (fz_R hF 405 4 rfl rfl)) (rR_at 405 7 (fz_R hF 405 7 rfl rfl)) (rR_at 405 8 (fz_R hF 405 8 rfl rfl)) (rR_at 405 9 (fz_R hF 405 9 rfl rfl)) (rR_at 405 10 (fz_R hF 405 10 rfl rfl)) (rR_at 405 11 (fz_R hF 405 11 rfl rfl)) (rR_at 405 12 (fz_R hF 405 12 rfl rfl)) (rR_at 405 13 (fz_R hF 405 13 rfl rfl)) (rR_at 405 14 (fz_R hF 405 14 rfl rfl)) (rR_at 405 15 (fz_R hF 405 15 rfl rfl)) (rR_at 405 42 (fz_R hF 405 42 rfl rfl))) (lKA (hk_K hK 405 rfl rfl)) rfl (by decide) rfl (Nat.le_of_ble_eq_true rfl) (by decide) (fun r u hu => ?_)
  refine z_eqs (σ' := (ap b σ [(412, 0, 1), (414, 0, 2), (405, 26, 1), (405, 37, 1), (405, 27, 2), (413, 0, 2), (416, 1, 13), (405, 28, 1), (405, 38, 1), (405, 48, (-1)), (405, 27, 1), (405, 29, ((x2.toInt64).toInt32)), (405, 26, 1), (405, 47, 1), (405, 39, 0), (405, 38, 0), (405, 37, 0), (405, 36, 0), (405, 35, 0), (405, 34, 0), (405, 32, 0), (405, 31, 0), (405, 30, 0), (405, 29, 0), (405, 28, 0), (405, 27, 0), (405, 26, 1), (428, 0, 0), (405, 45, 0), (405, 43, 0), (413, 0, 1), (416, 0, 0), (415, 0, (-1)), (411, 0, 0), (410, 0, (-1)), (409, 0, 0), (405, 6, 1), (405, 0, 0), (7, 2, 0), (7, 1, 0), (40, 8, 2), (5, 2, 0), (41, 19, 0), (41, 19, 0), (41, 15, 1), (41, 4, 2), (41, 16, (-1)), (37, 2, 2), (38, 1, 13), (41, 16, 13), (41, 7, 1), (41, 5, 1), (5, 2, 1), (41, 19, 0), (41, 18, (-1)), (41, 16, (-1)), (41, 15, 0), (41, 14, 0), (41, 13, 0), (41, 12, 0), (41, 10, (-1)), (41, 9, (-1)), (41, 8, 0), (41, 7, 0), (41, 6, ((x2.toInt64).toInt32)), (41, 5, 0), (41, 4, 1), (44, 1, 0), (42, 1, 0), (37, 2, 1), (38, 0, 0), (40, 5, 0), (40, 4, (-1)), (0, 7, 1)] [(417, 1, ((10 * (((x2.toInt64).toInt32).toInt64)) + 1)), (417, 0, (x2.toInt64)), (431, 0, 0), (39, 1, ((10 * (((x2.toInt64).toInt32).toInt64)) + 1)), (41, 17, ((10 * (((x2.toInt64).toInt32).toInt64)) + 1)), (41, 17, 0), (41, 11, 0), (39, 0, (x2.toInt64))] [(6, 0, (some (b + 40))), (41, 3, (some (b + 37))), (41, 2, (some (b + 9))), (40, 3, (some (b + 9)))])) (hu.2.trans ap_ap) ?_
  show zx p l e _ s m _ below meth c g 8 _ _ _ _ 391 [(5, .int 0), (4, .int 0), (3, .ref (b + 431)), (2, .ref (b + 405)), (1, .ref (b + 0)), (0, .ref bS)] _
  refine z_seti (y := 0) hu.1 ?_
  refine z_istore (lv' := [(6, .int 0), (5, .int 0), (4, .int 0), (3, .ref (b + 431)), (2, .ref (b + 405)), (1, .ref (b + 0)), (0, .ref bS)]) B dL_law_391 (by decide) rfl ?_
  refine z_aload_n B dL_law_393 rfl 4 rfl ?_
  refine z_cVi (As := []) (rest := []) B cw_L_80 cx_10 dL_law_394 (ci_X9_thrown_95 l (σ := (ap b σ [(412, 0, 1), (414, 0, 2), (405, 26, 1), (405, 37, 1), (405, 27, 2), (413, 0, 2), (416, 1, 13), (405, 28, 1), (405, 38, 1), (405, 48, (-1)), (405, 27, 1), (405, 29, ((x2.toInt64).toInt32)), (405, 26, 1), (405, 47, 1), (405, 39, 0), (405, 38, 0), (405, 37, 0), (405, 36, 0), (405, 35, 0), (405, 34, 0), (405, 32, 0), (405, 31, 0), (405, 30, 0), (405, 29, 0), (405, 28, 0), (405, 27, 0), (405, 26, 1), (428, 0, 0), (405, 45, 0), (405, 43, 0), (413, 0, 1), (416, 0, 0), (415, 0, (-1)), (411, 0, 0), (410, 0, (-1)), (409, 0, 0), (405, 6, 1), (405, 0, 0), (7, 2, 0), (7, 1, 0), (40, 8, 2), (5, 2, 0), (41, 19, 0), (41, 19, 0), (41, 15, 1), (41, 4, 2), (41, 16, (-1)), (37, 2, 2), (38, 1, 13), (41, 16, 13), (41, 7, 1), (41, 5, 1), (5, 2, 1), (41, 19, 0), (41, 18, (-1)), (41, 16, (-1)), (41, 15, 0), (41, 14, 0), (41, 13, 0), (41, 12, 0), (41, 10, (-1)), (41, 9, (-1)), (41, 8, 0), (41, 7, 0), (41, 6, ((x2.toInt64).toInt32)), (41, 5, 0), (41, 4, 1), (44, 1, 0), (42, 1, 0), (37, 2, 1), (38, 0, 0), (40, 5, 0), (40, 4, (-1)), (0, 7, 1)] [(417, 1, ((10 * (((x2.toInt64).toInt32).toInt64)) + 1)), (417, 0, (x2.toInt64)), (431, 0, 0), (39, 1, ((10 * (((x2.toInt64).toInt32).toInt64)) + 1)), (41, 17, ((10 * (((x2.toInt64).toInt32).toInt64)) + 1)), (41, 17, 0), (41, 11, 0), (39, 0, (x2.toInt64))] [(6, 0, (some (b + 40))), (41, 3, (some (b + 37))), (41, 2, (some (b + 9))), (40, 3, (some (b + 9)))])) (b := b) (lyA hK) (rI_at 405 0 rfl)) (lKA (hk_K hK 405 rfl rfl)) rfl (by decide) rfl (Nat.le_of_ble_eq_true rfl) (by decide) (fun r u hu => ?_)
  refine z_eqs (σ' := (ap b σ [(412, 0, 1), (414, 0, 2), (405, 26, 1), (405, 37, 1), (405, 27, 2), (413, 0, 2), (416, 1, 13), (405, 28, 1), (405, 38, 1), (405, 48, (-1)), (405, 27, 1), (405, 29, ((x2.toInt64).toInt32)), (405, 26, 1), (405, 47, 1), (405, 39, 0), (405, 38, 0), (405, 37, 0), (405, 36, 0), (405, 35, 0), (405, 34, 0), (405, 32, 0), (405, 31, 0), (405, 30, 0), (405, 29, 0), (405, 28, 0), (405, 27, 0), (405, 26, 1), (428, 0, 0), (405, 45, 0), (405, 43, 0), (413, 0, 1), (416, 0, 0), (415, 0, (-1)), (411, 0, 0), (410, 0, (-1)), (409, 0, 0), (405, 6, 1), (405, 0, 0), (7, 2, 0), (7, 1, 0), (40, 8, 2), (5, 2, 0), (41, 19, 0), (41, 19, 0), (41, 15, 1), (41, 4, 2), (41, 16, (-1)), (37, 2, 2), (38, 1, 13), (41, 16, 13), (41, 7, 1), (41, 5, 1), (5, 2, 1), (41, 19, 0), (41, 18, (-1)), (41, 16, (-1)), (41, 15, 0), (41, 14, 0), (41, 13, 0), (41, 12, 0), (41, 10, (-1)), (41, 9, (-1)), (41, 8, 0), (41, 7, 0), (41, 6, ((x2.toInt64).toInt32)), (41, 5, 0), (41, 4, 1), (44, 1, 0), (42, 1, 0), (37, 2, 1), (38, 0, 0), (40, 5, 0), (40, 4, (-1)), (0, 7, 1)] [(417, 1, ((10 * (((x2.toInt64).toInt32).toInt64)) + 1)), (417, 0, (x2.toInt64)), (431, 0, 0), (39, 1, ((10 * (((x2.toInt64).toInt32).toInt64)) + 1)), (41, 17, ((10 * (((x2.toInt64).toInt32).toInt64)) + 1)), (41, 17, 0), (41, 11, 0), (39, 0, (x2.toInt64))] [(6, 0, (some (b + 40))), (41, 3, (some (b + 37))), (41, 2, (some (b + 9))), (40, 3, (some (b + 9)))])) hu.2 ?_
  show zx p l e _ s m _ below meth c g 8 _ _ _ _ 397 [(6, .int 0), (5, .int 0), (4, .int 0), (3, .ref (b + 431)), (2, .ref (b + 405)), (1, .ref (b + 0)), (0, .ref bS)] _
  refine z_seti (y := 0) hu.1 ?_
  refine z_iload B dL_law_397 1 rfl ?_
  refine z_icmp_eq (tgt := 404) B dL_law_399 (by decide) (fun _ => ?_) (fun h => absurd (by decide) h)
  refine z_iload B dL_law_404 1 rfl ?_
  refine z_if_ne (tgt := 421) B dL_law_406 (by decide) (fun h => absurd (by decide) h) (fun _ => ?_)
  refine z_aload_n B dL_law_409 rfl 3 rfl ?_
  refine z_iconst (v := 0) B dL_law_410 (by decide) ?_
  refine z_lald (j := 0) (x := 0) B (lKA (hk_K hK 431 rfl rfl)) (by decide) (in_of (lNA (hk_N hK 431 rfl rfl)) (show ¬ ((0 : Int32) < 0 ∨ 1 ≤ (0 : Int32).toNatClampNeg) by decide)) (rJ_at 431 0 rfl) dL_law_411 ?_
  refine z_iload B dL_law_412 0 rfl ?_
  refine z_i2l (v := 0) B dL_law_414 (by decide) ?_
  refine z_lcmp (v := 0) B dL_law_415 (by decide) ?_
  refine z_if_eq (tgt := 421) B dL_law_416 (by decide) (fun _ => ?_) (fun h => absurd (by decide) h)
  refine z_goto (tgt := 1395) B dL_law_421 (by decide) ?_
  exact z_widen (Nat.le_of_ble_eq_true rfl) (Nat.le_of_ble_eq_true rfl) (z_sub _ [2, 6] rfl (kk _))
set_option maxRecDepth 100000 in
set_option maxHeartbeats 4000000 in
theorem lf_2_286 {p : Program} {l : Launch} {e : Env} {s : State} {m : MethodId} {args : Array Value} {below : List Frame} {meth : Method} {c : Code} {g : gx_T} {Q : State → Prop} {σ : sx_T} {b t bS : Nat} {xs : Nat → Int32} (hlt : l.stackTraces = false) (B : zx_B p s m args meth c code RL 8 g) (hX : va_X bS 6 xs s s.heap) (hbl : bS < s.heap.size) (hbA : ¬ gx_b g ≤ bS) (hF : fz_P b t σ) (h_x1 : xs 1 = 0) {x2 : Int32} (h_x2 : xs 2 = x2) (q1_x2 : (1000 : Int) ≤ x2.toInt) (q2_x2 : x2.toInt ≤ (2147483647 : Int)) (kk : ∀ σ', zx p l e room_1 s m args below meth c g 8 600002 7302232 Q σ' 1395 [(4, .int 0), (0, .ref bS)] []) : zx p l e room_1 s m args below meth c g 8 500 100000 Q σ 356 [(4, .int 0), (3, .ref (b + 431)), (2, .ref (b + 405)), (1, .ref (b + 0)), (0, .ref bS)] [] := by
  have hK := fz_lay hF
  refine z_eqs (σ' := (ap b σ [] [] [])) rfl ?_
  refine z_aload_n B dL_law_356 rfl 3 rfl ?_
  refine z_aload_n B dL_law_357 rfl 4 rfl ?_
  refine z_iload B dL_law_358 0 rfl ?_
  refine z_iconst (v := 1) B dL_law_360 (by decide) ?_
  refine z_iadd B dL_law_361 ?_
  refine z_seti (y := 1) (by decide) ?_
  refine z_sld (j := 1) (x := 0) B hX hbl hbA (by decide) (show ¬ ((1 : Int32) < 0 ∨ 6 ≤ (1 : Int32).toNatClampNeg) by decide) h_x1 dL_law_362 ?_
  refine z_aload_n B dL_law_363 rfl 4 rfl ?_
  refine z_iload B dL_law_364 0 rfl ?_
  refine z_iconst (v := 2) B dL_law_366 (by decide) ?_
  refine z_iadd B dL_law_367 ?_
  refine z_seti (y := 2) (by decide) ?_
  refine z_sld (j := 2) (x := x2) B hX hbl hbA (by decide) (show ¬ ((2 : Int32) < 0 ∨ 6 ≤ (2 : Int32).toNatClampNeg) by decide) h_x2 dL_law_368 ?_
  refine z_aload_n B dL_law_369 rfl 1 rfl ?_
  refine z_cSWi (As := [.ref (b + 0), .int 0, .int x2, .ref (b + 431)]) (rest := []) B cw_L_87 dL_law_370 (ci_L_start_724 l hlt (σ := (ap b σ [] [] [])) (b := b) (lyA hK) x2 q1_x2 q2_x2 (rR_at 0 0 (fz_R hF 0 0 rfl rfl)) (rR_at 1 0 (fz_R hF 1 0 rfl rfl))) rfl (by decide) rfl (Nat.le_of_ble_eq_true rfl) (by decide) (fun r u hu => ?_)
  obtain ⟨hu1, z, hu⟩ := hu
  refine z_eqs (σ' := (ap b (wx_Z σ z) [] [] [])) (hu.trans az_ap) ?_
  show zx p l e _ s m _ below meth c g 8 _ _ _ _ 373 [(4, .int 0), (3, .ref (b + 431)), (2, .ref (b + 405)), (1, .ref (b + 0)), (0, .ref bS)] _
  refine z_seti (y := 2) hu1 ?_
  refine z_istore (lv' := [(5, .int 2), (4, .int 0), (3, .ref (b + 431)), (2, .ref (b + 405)), (1, .ref (b + 0)), (0, .ref bS)]) B dL_law_373 (by decide) rfl ?_
  refine z_aload_n B dL_law_375 rfl 3 rfl ?_
  refine z_aload_n B dL_law_376 rfl 5 rfl ?_
  refine z_iload B dL_law_377 1 rfl ?_
  refine z_iconst (v := 1) B dL_law_379 (by decide) ?_
  refine z_iadd B dL_law_380 ?_
  refine z_seti (y := 1) (by decide) ?_
  refine z_sld (j := 1) (x := 0) B hX hbl hbA (by decide) (show ¬ ((1 : Int32) < 0 ∨ 6 ≤ (1 : Int32).toNatClampNeg) by decide) h_x1 dL_law_381 ?_
  refine z_aload_n B dL_law_382 rfl 5 rfl ?_
  refine z_iload B dL_law_383 1 rfl ?_
  refine z_iconst (v := 2) B dL_law_385 (by decide) ?_
  refine z_iadd B dL_law_386 ?_
  refine z_seti (y := 2) (by decide) ?_
  refine z_sld (j := 2) (x := x2) B hX hbl hbA (by decide) (show ¬ ((2 : Int32) < 0 ∨ 6 ≤ (2 : Int32).toNatClampNeg) by decide) h_x2 dL_law_387 ?_
  refine z_cVi (As := [.int 0, .int x2]) (rest := []) B cw_L_90 cx_10 dL_law_388 (ci_X9_start_725 l (σ := (ap b (wx_Z σ z) [] [] [])) (b := b) (lyA (lyZ hK)) x2 q1_x2 q2_x2 (rI_at 405 6 (lIZ (fz_I hF 405 6 rfl rfl)))) (lKA (lKZ (hk_K hK 405 rfl rfl))) rfl (by decide) rfl (Nat.le_of_ble_eq_true rfl) (by decide) (fun r u hu => ?_)
  refine z_eqs (σ' := (ap b (wx_Z σ z) [(405, 0, 2)] [] [])) (hu.2.trans ap_ap) ?_
  show zx p l e _ s m _ below meth c g 8 _ _ _ _ 391 [(5, .int 2), (4, .int 0), (3, .ref (b + 431)), (2, .ref (b + 405)), (1, .ref (b + 0)), (0, .ref bS)] _
  refine z_seti (y := 0) hu.1 ?_
  refine z_istore (lv' := [(6, .int 0), (5, .int 2), (4, .int 0), (3, .ref (b + 431)), (2, .ref (b + 405)), (1, .ref (b + 0)), (0, .ref bS)]) B dL_law_391 (by decide) rfl ?_
  refine z_aload_n B dL_law_393 rfl 4 rfl ?_
  refine z_cVi (As := []) (rest := []) B cw_L_80 cx_10 dL_law_394 (ci_X9_thrown_73 l (σ := (ap b (wx_Z σ z) [(405, 0, 2)] [] [])) (b := b) (lyA (lyZ hK)) (rI_at 405 0 rfl)) (lKA (lKZ (hk_K hK 405 rfl rfl))) rfl (by decide) rfl (Nat.le_of_ble_eq_true rfl) (by decide) (fun r u hu => ?_)
  refine z_eqs (σ' := (ap b (wx_Z σ z) [(405, 0, 2)] [] [])) hu.2 ?_
  show zx p l e _ s m _ below meth c g 8 _ _ _ _ 397 [(6, .int 0), (5, .int 2), (4, .int 0), (3, .ref (b + 431)), (2, .ref (b + 405)), (1, .ref (b + 0)), (0, .ref bS)] _
  refine z_seti (y := 2) hu.1 ?_
  refine z_iload B dL_law_397 1 rfl ?_
  refine z_icmp_eq (tgt := 404) B dL_law_399 (by decide) (fun _ => ?_) (fun h => absurd (by decide) h)
  refine z_iload B dL_law_404 1 rfl ?_
  refine z_if_ne (tgt := 421) B dL_law_406 (by decide) (fun _ => ?_) (fun h => absurd h (by decide))
  refine z_goto (tgt := 1395) B dL_law_421 (by decide) ?_
  exact z_widen (Nat.le_of_ble_eq_true rfl) (Nat.le_of_ble_eq_true rfl) (z_sub _ [2, 6] rfl (kk _))
set_option maxRecDepth 100000 in
set_option maxHeartbeats 4000000 in
theorem lf_2_287 {p : Program} {l : Launch} {e : Env} {s : State} {m : MethodId} {args : Array Value} {below : List Frame} {meth : Method} {c : Code} {g : gx_T} {Q : State → Prop} {σ : sx_T} {b t bS : Nat} {xs : Nat → Int32} (hlt : l.stackTraces = false) (B : zx_B p s m args meth c code RL 8 g) (hX : va_X bS 6 xs s s.heap) (hbl : bS < s.heap.size) (hbA : ¬ gx_b g ≤ bS) (hF : fz_P b t σ) (h_x1 : xs 1 = 1) {x2 : Int32} (h_x2 : xs 2 = x2) (q1_x2 : (-2147483648 : Int) ≤ x2.toInt) (q2_x2 : x2.toInt ≤ (-1000 : Int)) (kk : ∀ σ', zx p l e room_1 s m args below meth c g 8 600002 7302232 Q σ' 1395 [(4, .int 0), (0, .ref bS)] []) : zx p l e room_1 s m args below meth c g 8 500 100000 Q σ 356 [(4, .int 0), (3, .ref (b + 431)), (2, .ref (b + 405)), (1, .ref (b + 0)), (0, .ref bS)] [] := by
  have hK := fz_lay hF
  refine z_eqs (σ' := (ap b σ [] [] [])) rfl ?_
  refine z_aload_n B dL_law_356 rfl 3 rfl ?_
  refine z_aload_n B dL_law_357 rfl 4 rfl ?_
  refine z_iload B dL_law_358 0 rfl ?_
  refine z_iconst (v := 1) B dL_law_360 (by decide) ?_
  refine z_iadd B dL_law_361 ?_
  refine z_seti (y := 1) (by decide) ?_
  refine z_sld (j := 1) (x := 1) B hX hbl hbA (by decide) (show ¬ ((1 : Int32) < 0 ∨ 6 ≤ (1 : Int32).toNatClampNeg) by decide) h_x1 dL_law_362 ?_
  refine z_aload_n B dL_law_363 rfl 4 rfl ?_
  refine z_iload B dL_law_364 0 rfl ?_
  refine z_iconst (v := 2) B dL_law_366 (by decide) ?_
  refine z_iadd B dL_law_367 ?_
  refine z_seti (y := 2) (by decide) ?_
  refine z_sld (j := 2) (x := x2) B hX hbl hbA (by decide) (show ¬ ((2 : Int32) < 0 ∨ 6 ≤ (2 : Int32).toNatClampNeg) by decide) h_x2 dL_law_368 ?_
  refine z_aload_n B dL_law_369 rfl 1 rfl ?_
  refine z_cSWi (As := [.ref (b + 0), .int 1, .int x2, .ref (b + 431)]) (rest := []) B cw_L_87 dL_law_370 (ci_L_start_727 l hlt (σ := (ap b σ [] [] [])) (b := b) (lyA hK) x2 q1_x2 q2_x2 (rR_at 0 0 (fz_R hF 0 0 rfl rfl)) (rR_at 1 1 (fz_R hF 1 1 rfl rfl))) rfl (by decide) rfl (Nat.le_of_ble_eq_true rfl) (by decide) (fun r u hu => ?_)
  obtain ⟨hu1, z, hu⟩ := hu
  refine z_eqs (σ' := (ap b (wx_Z σ z) [] [] [])) (hu.trans az_ap) ?_
  show zx p l e _ s m _ below meth c g 8 _ _ _ _ 373 [(4, .int 0), (3, .ref (b + 431)), (2, .ref (b + 405)), (1, .ref (b + 0)), (0, .ref bS)] _
  refine z_seti (y := 2) hu1 ?_
  refine z_istore (lv' := [(5, .int 2), (4, .int 0), (3, .ref (b + 431)), (2, .ref (b + 405)), (1, .ref (b + 0)), (0, .ref bS)]) B dL_law_373 (by decide) rfl ?_
  refine z_aload_n B dL_law_375 rfl 3 rfl ?_
  refine z_aload_n B dL_law_376 rfl 5 rfl ?_
  refine z_iload B dL_law_377 1 rfl ?_
  refine z_iconst (v := 1) B dL_law_379 (by decide) ?_
  refine z_iadd B dL_law_380 ?_
  refine z_seti (y := 1) (by decide) ?_
  refine z_sld (j := 1) (x := 1) B hX hbl hbA (by decide) (show ¬ ((1 : Int32) < 0 ∨ 6 ≤ (1 : Int32).toNatClampNeg) by decide) h_x1 dL_law_381 ?_
  refine z_aload_n B dL_law_382 rfl 5 rfl ?_
  refine z_iload B dL_law_383 1 rfl ?_
  refine z_iconst (v := 2) B dL_law_385 (by decide) ?_
  refine z_iadd B dL_law_386 ?_
  refine z_seti (y := 2) (by decide) ?_
  refine z_sld (j := 2) (x := x2) B hX hbl hbA (by decide) (show ¬ ((2 : Int32) < 0 ∨ 6 ≤ (2 : Int32).toNatClampNeg) by decide) h_x2 dL_law_387 ?_
  refine z_cVi (As := [.int 1, .int x2]) (rest := []) B cw_L_90 cx_10 dL_law_388 (ci_X9_start_728 l (σ := (ap b (wx_Z σ z) [] [] [])) (b := b) (lyA (lyZ hK)) x2 q1_x2 q2_x2 (rI_at 405 6 (lIZ (fz_I hF 405 6 rfl rfl)))) (lKA (lKZ (hk_K hK 405 rfl rfl))) rfl (by decide) rfl (Nat.le_of_ble_eq_true rfl) (by decide) (fun r u hu => ?_)
  refine z_eqs (σ' := (ap b (wx_Z σ z) [(405, 0, 2)] [] [])) (hu.2.trans ap_ap) ?_
  show zx p l e _ s m _ below meth c g 8 _ _ _ _ 391 [(5, .int 2), (4, .int 0), (3, .ref (b + 431)), (2, .ref (b + 405)), (1, .ref (b + 0)), (0, .ref bS)] _
  refine z_seti (y := 0) hu.1 ?_
  refine z_istore (lv' := [(6, .int 0), (5, .int 2), (4, .int 0), (3, .ref (b + 431)), (2, .ref (b + 405)), (1, .ref (b + 0)), (0, .ref bS)]) B dL_law_391 (by decide) rfl ?_
  refine z_aload_n B dL_law_393 rfl 4 rfl ?_
  refine z_cVi (As := []) (rest := []) B cw_L_80 cx_10 dL_law_394 (ci_X9_thrown_73 l (σ := (ap b (wx_Z σ z) [(405, 0, 2)] [] [])) (b := b) (lyA (lyZ hK)) (rI_at 405 0 rfl)) (lKA (lKZ (hk_K hK 405 rfl rfl))) rfl (by decide) rfl (Nat.le_of_ble_eq_true rfl) (by decide) (fun r u hu => ?_)
  refine z_eqs (σ' := (ap b (wx_Z σ z) [(405, 0, 2)] [] [])) hu.2 ?_
  show zx p l e _ s m _ below meth c g 8 _ _ _ _ 397 [(6, .int 0), (5, .int 2), (4, .int 0), (3, .ref (b + 431)), (2, .ref (b + 405)), (1, .ref (b + 0)), (0, .ref bS)] _
  refine z_seti (y := 2) hu.1 ?_
  refine z_iload B dL_law_397 1 rfl ?_
  refine z_icmp_eq (tgt := 404) B dL_law_399 (by decide) (fun _ => ?_) (fun h => absurd (by decide) h)
  refine z_iload B dL_law_404 1 rfl ?_
  refine z_if_ne (tgt := 421) B dL_law_406 (by decide) (fun _ => ?_) (fun h => absurd h (by decide))
  refine z_goto (tgt := 1395) B dL_law_421 (by decide) ?_
  exact z_widen (Nat.le_of_ble_eq_true rfl) (Nat.le_of_ble_eq_true rfl) (z_sub _ [2, 6] rfl (kk _))
set_option maxRecDepth 100000 in
set_option maxHeartbeats 4000000 in
theorem lf_2_288 {p : Program} {l : Launch} {e : Env} {s : State} {m : MethodId} {args : Array Value} {below : List Frame} {meth : Method} {c : Code} {g : gx_T} {Q : State → Prop} {σ : sx_T} {b t bS : Nat} {xs : Nat → Int32} (hlt : l.stackTraces = false) (B : zx_B p s m args meth c code RL 8 g) (hX : va_X bS 6 xs s s.heap) (hbl : bS < s.heap.size) (hbA : ¬ gx_b g ≤ bS) (hF : fz_P b t σ) (h_x1 : xs 1 = 1) {x2 : Int32} (h_x2 : xs 2 = x2) (q1_x2 : (-999 : Int) ≤ x2.toInt) (q2_x2 : x2.toInt ≤ (-1 : Int)) (kk : ∀ σ', zx p l e room_1 s m args below meth c g 8 600002 7302232 Q σ' 1395 [(4, .int 0), (0, .ref bS)] []) : zx p l e room_1 s m args below meth c g 8 500 100000 Q σ 356 [(4, .int 0), (3, .ref (b + 431)), (2, .ref (b + 405)), (1, .ref (b + 0)), (0, .ref bS)] [] := by
  have hK := fz_lay hF
  refine z_eqs (σ' := (ap b σ [] [] [])) rfl ?_
  refine z_aload_n B dL_law_356 rfl 3 rfl ?_
  refine z_aload_n B dL_law_357 rfl 4 rfl ?_
  refine z_iload B dL_law_358 0 rfl ?_
  refine z_iconst (v := 1) B dL_law_360 (by decide) ?_
  refine z_iadd B dL_law_361 ?_
  refine z_seti (y := 1) (by decide) ?_
  refine z_sld (j := 1) (x := 1) B hX hbl hbA (by decide) (show ¬ ((1 : Int32) < 0 ∨ 6 ≤ (1 : Int32).toNatClampNeg) by decide) h_x1 dL_law_362 ?_
  refine z_aload_n B dL_law_363 rfl 4 rfl ?_
  refine z_iload B dL_law_364 0 rfl ?_
  refine z_iconst (v := 2) B dL_law_366 (by decide) ?_
  refine z_iadd B dL_law_367 ?_
  refine z_seti (y := 2) (by decide) ?_
  refine z_sld (j := 2) (x := x2) B hX hbl hbA (by decide) (show ¬ ((2 : Int32) < 0 ∨ 6 ≤ (2 : Int32).toNatClampNeg) by decide) h_x2 dL_law_368 ?_
  refine z_aload_n B dL_law_369 rfl 1 rfl ?_
  refine z_cSWi (As := [.ref (b + 0), .int 1, .int x2, .ref (b + 431)]) (rest := []) B cw_L_87 dL_law_370 (ci_L_start_738 l (σ := (ap b σ [] [] [])) (b := b) (lyA hK) x2 q1_x2 q2_x2 (rI_at 0 7 (fz_I hF 0 7 rfl rfl)) (rI_at 5 1 (fz_I hF 5 1 rfl rfl)) (rI_at 5 2 (fz_I hF 5 2 rfl rfl)) (rI_at 7 1 (fz_I hF 7 1 rfl rfl)) (rI_at 7 2 (fz_I hF 7 2 rfl rfl)) (rI_at 14 0 (fz_I hF 14 0 rfl rfl)) (rI_at 15 0 (fz_I hF 15 0 rfl rfl)) (rI_at 16 0 (fz_I hF 16 0 rfl rfl)) (rI_at 37 2 (fz_I hF 37 2 rfl rfl)) (rI_at 40 0 (fz_I hF 40 0 rfl rfl)) (rI_at 40 8 (fz_I hF 40 8 rfl rfl)) (rR_at 0 0 (fz_R hF 0 0 rfl rfl)) (rR_at 0 2 (fz_R hF 0 2 rfl rfl)) (rR_at 0 4 (fz_R hF 0 4 rfl rfl)) (rR_at 0 5 (fz_R hF 0 5 rfl rfl)) (rR_at 1 1 (fz_R hF 1 1 rfl rfl)) (rR_at 3 0 (fz_R hF 3 0 rfl rfl)) (rR_at 5 0 (fz_R hF 5 0 rfl rfl)) (rR_at 13 1 (fz_R hF 13 1 rfl rfl)) (rR_at 13 2 (fz_R hF 13 2 rfl rfl)) (rR_at 13 3 (fz_R hF 13 3 rfl rfl)) (rR_at 37 0 (fz_R hF 37 0 rfl rfl)) (rR_at 37 1 (fz_R hF 37 1 rfl rfl)) (rR_at 40 1 (fz_R hF 40 1 rfl rfl)) (rR_at 40 2 (fz_R hF 40 2 rfl rfl)) (rR_at 40 7 (fz_R hF 40 7 rfl rfl)) (rR_at 41 0 (fz_R hF 41 0 rfl rfl)) (rR_at 41 1 (fz_R hF 41 1 rfl rfl))) rfl (by decide) rfl (Nat.le_of_ble_eq_true rfl) (by decide) (fun r u hu => ?_)
  refine z_eqs (σ' := (ap b σ [(7, 2, 0), (7, 1, 0), (40, 8, 2), (5, 2, 0), (41, 19, 0), (41, 19, 0), (41, 15, 1), (41, 4, 2), (41, 16, (-1)), (37, 2, 2), (38, 1, 13), (41, 16, 13), (41, 7, 1), (41, 5, 1), (5, 2, 1), (41, 19, 0), (41, 18, (-1)), (41, 16, (-1)), (41, 15, 0), (41, 14, 0), (41, 13, 0), (41, 12, 0), (41, 10, (-1)), (41, 9, (-1)), (41, 8, 0), (41, 7, 0), (41, 6, ((x2.toInt64).toInt32)), (41, 5, 0), (41, 4, 1), (44, 1, 0), (42, 1, 0), (37, 2, 1), (38, 0, 0), (40, 5, 0), (40, 4, (-1)), (0, 7, 1)] [(431, 0, 0), (39, 1, ((10 * (((x2.toInt64).toInt32).toInt64)) + 1)), (41, 17, ((10 * (((x2.toInt64).toInt32).toInt64)) + 1)), (41, 17, 0), (41, 11, 0), (39, 0, (x2.toInt64))] [(6, 0, (some (b + 40))), (41, 3, (some (b + 37))), (41, 2, (some (b + 13))), (40, 3, (some (b + 13)))])) (hu.2.trans ap_ap) ?_
  show zx p l e _ s m _ below meth c g 8 _ _ _ _ 373 [(4, .int 0), (3, .ref (b + 431)), (2, .ref (b + 405)), (1, .ref (b + 0)), (0, .ref bS)] _
  refine z_seti (y := 0) hu.1 ?_
  refine z_istore (lv' := [(5, .int 0), (4, .int 0), (3, .ref (b + 431)), (2, .ref (b + 405)), (1, .ref (b + 0)), (0, .ref bS)]) B dL_law_373 (by decide) rfl ?_
  refine z_aload_n B dL_law_375 rfl 3 rfl ?_
  refine z_aload_n B dL_law_376 rfl 5 rfl ?_
  refine z_iload B dL_law_377 1 rfl ?_
  refine z_iconst (v := 1) B dL_law_379 (by decide) ?_
  refine z_iadd B dL_law_380 ?_
  refine z_seti (y := 1) (by decide) ?_
  refine z_sld (j := 1) (x := 1) B hX hbl hbA (by decide) (show ¬ ((1 : Int32) < 0 ∨ 6 ≤ (1 : Int32).toNatClampNeg) by decide) h_x1 dL_law_381 ?_
  refine z_aload_n B dL_law_382 rfl 5 rfl ?_
  refine z_iload B dL_law_383 1 rfl ?_
  refine z_iconst (v := 2) B dL_law_385 (by decide) ?_
  refine z_iadd B dL_law_386 ?_
  refine z_seti (y := 2) (by decide) ?_
  refine z_sld (j := 2) (x := x2) B hX hbl hbA (by decide) (show ¬ ((2 : Int32) < 0 ∨ 6 ≤ (2 : Int32).toNatClampNeg) by decide) h_x2 dL_law_387 ?_
  refine z_cVi (As := [.int 1, .int x2]) (rest := []) B cw_L_90 cx_10 dL_law_388 (ci_X9_start_744 l (σ := (ap b σ [(7, 2, 0), (7, 1, 0), (40, 8, 2), (5, 2, 0), (41, 19, 0), (41, 19, 0), (41, 15, 1), (41, 4, 2), (41, 16, (-1)), (37, 2, 2), (38, 1, 13), (41, 16, 13), (41, 7, 1), (41, 5, 1), (5, 2, 1), (41, 19, 0), (41, 18, (-1)), (41, 16, (-1)), (41, 15, 0), (41, 14, 0), (41, 13, 0), (41, 12, 0), (41, 10, (-1)), (41, 9, (-1)), (41, 8, 0), (41, 7, 0), (41, 6, ((x2.toInt64).toInt32)), (41, 5, 0), (41, 4, 1), (44, 1, 0), (42, 1, 0), (37, 2, 1), (38, 0, 0), (40, 5, 0), (40, 4, (-1)), (0, 7, 1)] [(431, 0, 0), (39, 1, ((10 * (((x2.toInt64).toInt32).toInt64)) + 1)), (41, 17, ((10 * (((x2.toInt64).toInt32).toInt64)) + 1)), (41, 17, 0), (41, 11, 0), (39, 0, (x2.toInt64))] [(6, 0, (some (b + 40))), (41, 3, (some (b + 37))), (41, 2, (some (b + 13))), (40, 3, (some (b + 13)))])) (b := b) (lyA hK) x2 q1_x2 q2_x2 (rI_at 405 6 (fz_I hF 405 6 rfl rfl)) (rI_at 405 16 (fz_I hF 405 16 rfl rfl)) (rI_at 406 20 (fz_I hF 406 20 rfl rfl)) (rI_at 407 20 (fz_I hF 407 20 rfl rfl)) (rI_at 412 0 (fz_I hF 412 0 rfl rfl)) (rI_at 413 0 (fz_I hF 413 0 rfl rfl)) (rR_at 405 3 (fz_R hF 405 3 rfl rfl)) (rR_at 405 4 (fz_R hF 405 4 rfl rfl)) (rR_at 405 7 (fz_R hF 405 7 rfl rfl)) (rR_at 405 8 (fz_R hF 405 8 rfl rfl)) (rR_at 405 9 (fz_R hF 405 9 rfl rfl)) (rR_at 405 10 (fz_R hF 405 10 rfl rfl)) (rR_at 405 11 (fz_R hF 405 11 rfl rfl)) (rR_at 405 12 (fz_R hF 405 12 rfl rfl)) (rR_at 405 13 (fz_R hF 405 13 rfl rfl)) (rR_at 405 14 (fz_R hF 405 14 rfl rfl)) (rR_at 405 15 (fz_R hF 405 15 rfl rfl)) (rR_at 405 42 (fz_R hF 405 42 rfl rfl))) (lKA (hk_K hK 405 rfl rfl)) rfl (by decide) rfl (Nat.le_of_ble_eq_true rfl) (by decide) (fun r u hu => ?_)
  refine z_eqs (σ' := (ap b σ [(412, 0, 1), (414, 0, 2), (405, 26, 1), (405, 37, 1), (405, 27, 2), (413, 0, 2), (416, 1, 13), (405, 28, 1), (405, 38, 1), (405, 48, (-1)), (405, 27, 1), (405, 29, ((x2.toInt64).toInt32)), (405, 26, 1), (405, 47, 1), (405, 39, 0), (405, 38, 0), (405, 37, 0), (405, 36, 0), (405, 35, 0), (405, 34, 0), (405, 32, 0), (405, 31, 0), (405, 30, 0), (405, 29, 0), (405, 28, 0), (405, 27, 0), (405, 26, 1), (428, 0, 0), (405, 45, 0), (405, 43, 0), (413, 0, 1), (416, 0, 0), (415, 0, (-1)), (411, 0, 0), (410, 0, (-1)), (409, 0, 1), (405, 6, 1), (405, 0, 0), (7, 2, 0), (7, 1, 0), (40, 8, 2), (5, 2, 0), (41, 19, 0), (41, 19, 0), (41, 15, 1), (41, 4, 2), (41, 16, (-1)), (37, 2, 2), (38, 1, 13), (41, 16, 13), (41, 7, 1), (41, 5, 1), (5, 2, 1), (41, 19, 0), (41, 18, (-1)), (41, 16, (-1)), (41, 15, 0), (41, 14, 0), (41, 13, 0), (41, 12, 0), (41, 10, (-1)), (41, 9, (-1)), (41, 8, 0), (41, 7, 0), (41, 6, ((x2.toInt64).toInt32)), (41, 5, 0), (41, 4, 1), (44, 1, 0), (42, 1, 0), (37, 2, 1), (38, 0, 0), (40, 5, 0), (40, 4, (-1)), (0, 7, 1)] [(417, 1, ((10 * (((x2.toInt64).toInt32).toInt64)) + 1)), (417, 0, (x2.toInt64)), (431, 0, 0), (39, 1, ((10 * (((x2.toInt64).toInt32).toInt64)) + 1)), (41, 17, ((10 * (((x2.toInt64).toInt32).toInt64)) + 1)), (41, 17, 0), (41, 11, 0), (39, 0, (x2.toInt64))] [(6, 0, (some (b + 40))), (41, 3, (some (b + 37))), (41, 2, (some (b + 13))), (40, 3, (some (b + 13)))])) (hu.2.trans ap_ap) ?_
  show zx p l e _ s m _ below meth c g 8 _ _ _ _ 391 [(5, .int 0), (4, .int 0), (3, .ref (b + 431)), (2, .ref (b + 405)), (1, .ref (b + 0)), (0, .ref bS)] _
  refine z_seti (y := 0) hu.1 ?_
  refine z_istore (lv' := [(6, .int 0), (5, .int 0), (4, .int 0), (3, .ref (b + 431)), (2, .ref (b + 405)), (1, .ref (b + 0)), (0, .ref bS)]) B dL_law_391 (by decide) rfl ?_
  refine z_aload_n B dL_law_393 rfl 4 rfl ?_
  refine z_cVi (As := []) (rest := []) B cw_L_80 cx_10 dL_law_394 (ci_X9_thrown_95 l (σ := (ap b σ [(412, 0, 1), (414, 0, 2), (405, 26, 1), (405, 37, 1), (405, 27, 2), (413, 0, 2), (416, 1, 13), (405, 28, 1), (405, 38, 1), (405, 48, (-1)), (405, 27, 1), (405, 29, ((x2.toInt64).toInt32)), (405, 26, 1), (405, 47, 1), (405, 39, 0), (405, 38, 0), (405, 37, 0), (405, 36, 0), (405, 35, 0), (405, 34, 0), (405, 32, 0), (405, 31, 0), (405, 30, 0), (405, 29, 0), (405, 28, 0), (405, 27, 0), (405, 26, 1), (428, 0, 0), (405, 45, 0), (405, 43, 0), (413, 0, 1), (416, 0, 0), (415, 0, (-1)), (411, 0, 0), (410, 0, (-1)), (409, 0, 1), (405, 6, 1), (405, 0, 0), (7, 2, 0), (7, 1, 0), (40, 8, 2), (5, 2, 0), (41, 19, 0), (41, 19, 0), (41, 15, 1), (41, 4, 2), (41, 16, (-1)), (37, 2, 2), (38, 1, 13), (41, 16, 13), (41, 7, 1), (41, 5, 1), (5, 2, 1), (41, 19, 0), (41, 18, (-1)), (41, 16, (-1)), (41, 15, 0), (41, 14, 0), (41, 13, 0), (41, 12, 0), (41, 10, (-1)), (41, 9, (-1)), (41, 8, 0), (41, 7, 0), (41, 6, ((x2.toInt64).toInt32)), (41, 5, 0), (41, 4, 1), (44, 1, 0), (42, 1, 0), (37, 2, 1), (38, 0, 0), (40, 5, 0), (40, 4, (-1)), (0, 7, 1)] [(417, 1, ((10 * (((x2.toInt64).toInt32).toInt64)) + 1)), (417, 0, (x2.toInt64)), (431, 0, 0), (39, 1, ((10 * (((x2.toInt64).toInt32).toInt64)) + 1)), (41, 17, ((10 * (((x2.toInt64).toInt32).toInt64)) + 1)), (41, 17, 0), (41, 11, 0), (39, 0, (x2.toInt64))] [(6, 0, (some (b + 40))), (41, 3, (some (b + 37))), (41, 2, (some (b + 13))), (40, 3, (some (b + 13)))])) (b := b) (lyA hK) (rI_at 405 0 rfl)) (lKA (hk_K hK 405 rfl rfl)) rfl (by decide) rfl (Nat.le_of_ble_eq_true rfl) (by decide) (fun r u hu => ?_)
  refine z_eqs (σ' := (ap b σ [(412, 0, 1), (414, 0, 2), (405, 26, 1), (405, 37, 1), (405, 27, 2), (413, 0, 2), (416, 1, 13), (405, 28, 1), (405, 38, 1), (405, 48, (-1)), (405, 27, 1), (405, 29, ((x2.toInt64).toInt32)), (405, 26, 1), (405, 47, 1), (405, 39, 0), (405, 38, 0), (405, 37, 0), (405, 36, 0), (405, 35, 0), (405, 34, 0), (405, 32, 0), (405, 31, 0), (405, 30, 0), (405, 29, 0), (405, 28, 0), (405, 27, 0), (405, 26, 1), (428, 0, 0), (405, 45, 0), (405, 43, 0), (413, 0, 1), (416, 0, 0), (415, 0, (-1)), (411, 0, 0), (410, 0, (-1)), (409, 0, 1), (405, 6, 1), (405, 0, 0), (7, 2, 0), (7, 1, 0), (40, 8, 2), (5, 2, 0), (41, 19, 0), (41, 19, 0), (41, 15, 1), (41, 4, 2), (41, 16, (-1)), (37, 2, 2), (38, 1, 13), (41, 16, 13), (41, 7, 1), (41, 5, 1), (5, 2, 1), (41, 19, 0), (41, 18, (-1)), (41, 16, (-1)), (41, 15, 0), (41, 14, 0), (41, 13, 0), (41, 12, 0), (41, 10, (-1)), (41, 9, (-1)), (41, 8, 0), (41, 7, 0), (41, 6, ((x2.toInt64).toInt32)), (41, 5, 0), (41, 4, 1), (44, 1, 0), (42, 1, 0), (37, 2, 1), (38, 0, 0), (40, 5, 0), (40, 4, (-1)), (0, 7, 1)] [(417, 1, ((10 * (((x2.toInt64).toInt32).toInt64)) + 1)), (417, 0, (x2.toInt64)), (431, 0, 0), (39, 1, ((10 * (((x2.toInt64).toInt32).toInt64)) + 1)), (41, 17, ((10 * (((x2.toInt64).toInt32).toInt64)) + 1)), (41, 17, 0), (41, 11, 0), (39, 0, (x2.toInt64))] [(6, 0, (some (b + 40))), (41, 3, (some (b + 37))), (41, 2, (some (b + 13))), (40, 3, (some (b + 13)))])) hu.2 ?_
  show zx p l e _ s m _ below meth c g 8 _ _ _ _ 397 [(6, .int 0), (5, .int 0), (4, .int 0), (3, .ref (b + 431)), (2, .ref (b + 405)), (1, .ref (b + 0)), (0, .ref bS)] _
  refine z_seti (y := 0) hu.1 ?_
  refine z_iload B dL_law_397 1 rfl ?_
  refine z_icmp_eq (tgt := 404) B dL_law_399 (by decide) (fun _ => ?_) (fun h => absurd (by decide) h)
  refine z_iload B dL_law_404 1 rfl ?_
  refine z_if_ne (tgt := 421) B dL_law_406 (by decide) (fun h => absurd (by decide) h) (fun _ => ?_)
  refine z_aload_n B dL_law_409 rfl 3 rfl ?_
  refine z_iconst (v := 0) B dL_law_410 (by decide) ?_
  refine z_lald (j := 0) (x := 0) B (lKA (hk_K hK 431 rfl rfl)) (by decide) (in_of (lNA (hk_N hK 431 rfl rfl)) (show ¬ ((0 : Int32) < 0 ∨ 1 ≤ (0 : Int32).toNatClampNeg) by decide)) (rJ_at 431 0 rfl) dL_law_411 ?_
  refine z_iload B dL_law_412 0 rfl ?_
  refine z_i2l (v := 0) B dL_law_414 (by decide) ?_
  refine z_lcmp (v := 0) B dL_law_415 (by decide) ?_
  refine z_if_eq (tgt := 421) B dL_law_416 (by decide) (fun _ => ?_) (fun h => absurd (by decide) h)
  refine z_goto (tgt := 1395) B dL_law_421 (by decide) ?_
  exact z_widen (Nat.le_of_ble_eq_true rfl) (Nat.le_of_ble_eq_true rfl) (z_sub _ [2, 6] rfl (kk _))
set_option maxRecDepth 100000 in
set_option maxHeartbeats 4000000 in
theorem lf_2_289 {p : Program} {l : Launch} {e : Env} {s : State} {m : MethodId} {args : Array Value} {below : List Frame} {meth : Method} {c : Code} {g : gx_T} {Q : State → Prop} {σ : sx_T} {b t bS : Nat} {xs : Nat → Int32} (hlt : l.stackTraces = false) (B : zx_B p s m args meth c code RL 8 g) (hX : va_X bS 6 xs s s.heap) (hbl : bS < s.heap.size) (hbA : ¬ gx_b g ≤ bS) (hF : fz_P b t σ) (h_x1 : xs 1 = 1) {x2 : Int32} (h_x2 : xs 2 = x2) (q1_x2 : (0 : Int) ≤ x2.toInt) (q2_x2 : x2.toInt ≤ (999 : Int)) (kk : ∀ σ', zx p l e room_1 s m args below meth c g 8 600002 7302232 Q σ' 1395 [(4, .int 0), (0, .ref bS)] []) : zx p l e room_1 s m args below meth c g 8 500 100000 Q σ 356 [(4, .int 0), (3, .ref (b + 431)), (2, .ref (b + 405)), (1, .ref (b + 0)), (0, .ref bS)] [] := by
  have hK := fz_lay hF
  refine z_eqs (σ' := (ap b σ [] [] [])) rfl ?_
  refine z_aload_n B dL_law_356 rfl 3 rfl ?_
  refine z_aload_n B dL_law_357 rfl 4 rfl ?_
  refine z_iload B dL_law_358 0 rfl ?_
  refine z_iconst (v := 1) B dL_law_360 (by decide) ?_
  refine z_iadd B dL_law_361 ?_
  refine z_seti (y := 1) (by decide) ?_
  refine z_sld (j := 1) (x := 1) B hX hbl hbA (by decide) (show ¬ ((1 : Int32) < 0 ∨ 6 ≤ (1 : Int32).toNatClampNeg) by decide) h_x1 dL_law_362 ?_
  refine z_aload_n B dL_law_363 rfl 4 rfl ?_
  refine z_iload B dL_law_364 0 rfl ?_
  refine z_iconst (v := 2) B dL_law_366 (by decide) ?_
  refine z_iadd B dL_law_367 ?_
  refine z_seti (y := 2) (by decide) ?_
  refine z_sld (j := 2) (x := x2) B hX hbl hbA (by decide) (show ¬ ((2 : Int32) < 0 ∨ 6 ≤ (2 : Int32).toNatClampNeg) by decide) h_x2 dL_law_368 ?_
  refine z_aload_n B dL_law_369 rfl 1 rfl ?_
  refine z_cSWi (As := [.ref (b + 0), .int 1, .int x2, .ref (b + 431)]) (rest := []) B cw_L_87 dL_law_370 (ci_L_start_747 l (σ := (ap b σ [] [] [])) (b := b) (lyA hK) x2 q1_x2 q2_x2 (rI_at 0 7 (fz_I hF 0 7 rfl rfl)) (rI_at 5 1 (fz_I hF 5 1 rfl rfl)) (rI_at 5 2 (fz_I hF 5 2 rfl rfl)) (rI_at 7 1 (fz_I hF 7 1 rfl rfl)) (rI_at 7 2 (fz_I hF 7 2 rfl rfl)) (rI_at 14 0 (fz_I hF 14 0 rfl rfl)) (rI_at 15 0 (fz_I hF 15 0 rfl rfl)) (rI_at 16 0 (fz_I hF 16 0 rfl rfl)) (rI_at 37 2 (fz_I hF 37 2 rfl rfl)) (rI_at 40 0 (fz_I hF 40 0 rfl rfl)) (rI_at 40 8 (fz_I hF 40 8 rfl rfl)) (rR_at 0 0 (fz_R hF 0 0 rfl rfl)) (rR_at 0 2 (fz_R hF 0 2 rfl rfl)) (rR_at 0 4 (fz_R hF 0 4 rfl rfl)) (rR_at 0 5 (fz_R hF 0 5 rfl rfl)) (rR_at 1 1 (fz_R hF 1 1 rfl rfl)) (rR_at 3 0 (fz_R hF 3 0 rfl rfl)) (rR_at 5 0 (fz_R hF 5 0 rfl rfl)) (rR_at 13 1 (fz_R hF 13 1 rfl rfl)) (rR_at 13 2 (fz_R hF 13 2 rfl rfl)) (rR_at 13 3 (fz_R hF 13 3 rfl rfl)) (rR_at 37 0 (fz_R hF 37 0 rfl rfl)) (rR_at 37 1 (fz_R hF 37 1 rfl rfl)) (rR_at 40 1 (fz_R hF 40 1 rfl rfl)) (rR_at 40 2 (fz_R hF 40 2 rfl rfl)) (rR_at 40 7 (fz_R hF 40 7 rfl rfl)) (rR_at 41 0 (fz_R hF 41 0 rfl rfl)) (rR_at 41 1 (fz_R hF 41 1 rfl rfl))) rfl (by decide) rfl (Nat.le_of_ble_eq_true rfl) (by decide) (fun r u hu => ?_)
  refine z_eqs (σ' := (ap b σ [(7, 2, 0), (7, 1, 0), (40, 8, 2), (5, 2, 0), (41, 19, 0), (41, 19, 0), (41, 15, 1), (41, 4, 2), (41, 16, (-1)), (37, 2, 2), (38, 1, 13), (41, 16, 13), (41, 7, 1), (41, 5, 1), (5, 2, 1), (41, 19, 0), (41, 18, (-1)), (41, 16, (-1)), (41, 15, 0), (41, 14, 0), (41, 13, 0), (41, 12, 0), (41, 10, (-1)), (41, 9, (-1)), (41, 8, 0), (41, 7, 0), (41, 6, ((x2.toInt64).toInt32)), (41, 5, 0), (41, 4, 1), (44, 1, 0), (42, 1, 0), (37, 2, 1), (38, 0, 0), (40, 5, 0), (40, 4, (-1)), (0, 7, 1)] [(431, 0, 0), (39, 1, ((10 * (((x2.toInt64).toInt32).toInt64)) + 1)), (41, 17, ((10 * (((x2.toInt64).toInt32).toInt64)) + 1)), (41, 17, 0), (41, 11, 0), (39, 0, (x2.toInt64))] [(6, 0, (some (b + 40))), (41, 3, (some (b + 37))), (41, 2, (some (b + 13))), (40, 3, (some (b + 13)))])) (hu.2.trans ap_ap) ?_
  show zx p l e _ s m _ below meth c g 8 _ _ _ _ 373 [(4, .int 0), (3, .ref (b + 431)), (2, .ref (b + 405)), (1, .ref (b + 0)), (0, .ref bS)] _
  refine z_seti (y := 0) hu.1 ?_
  refine z_istore (lv' := [(5, .int 0), (4, .int 0), (3, .ref (b + 431)), (2, .ref (b + 405)), (1, .ref (b + 0)), (0, .ref bS)]) B dL_law_373 (by decide) rfl ?_
  refine z_aload_n B dL_law_375 rfl 3 rfl ?_
  refine z_aload_n B dL_law_376 rfl 5 rfl ?_
  refine z_iload B dL_law_377 1 rfl ?_
  refine z_iconst (v := 1) B dL_law_379 (by decide) ?_
  refine z_iadd B dL_law_380 ?_
  refine z_seti (y := 1) (by decide) ?_
  refine z_sld (j := 1) (x := 1) B hX hbl hbA (by decide) (show ¬ ((1 : Int32) < 0 ∨ 6 ≤ (1 : Int32).toNatClampNeg) by decide) h_x1 dL_law_381 ?_
  refine z_aload_n B dL_law_382 rfl 5 rfl ?_
  refine z_iload B dL_law_383 1 rfl ?_
  refine z_iconst (v := 2) B dL_law_385 (by decide) ?_
  refine z_iadd B dL_law_386 ?_
  refine z_seti (y := 2) (by decide) ?_
  refine z_sld (j := 2) (x := x2) B hX hbl hbA (by decide) (show ¬ ((2 : Int32) < 0 ∨ 6 ≤ (2 : Int32).toNatClampNeg) by decide) h_x2 dL_law_387 ?_
  refine z_cVi (As := [.int 1, .int x2]) (rest := []) B cw_L_90 cx_10 dL_law_388 (ci_X9_start_748 l (σ := (ap b σ [(7, 2, 0), (7, 1, 0), (40, 8, 2), (5, 2, 0), (41, 19, 0), (41, 19, 0), (41, 15, 1), (41, 4, 2), (41, 16, (-1)), (37, 2, 2), (38, 1, 13), (41, 16, 13), (41, 7, 1), (41, 5, 1), (5, 2, 1), (41, 19, 0), (41, 18, (-1)), (41, 16, (-1)), (41, 15, 0), (41, 14, 0), (41, 13, 0), (41, 12, 0), (41, 10, (-1)), (41, 9, (-1)), (41, 8, 0), (41, 7, 0), (41, 6, ((x2.toInt64).toInt32)), (41, 5, 0), (41, 4, 1), (44, 1, 0), (42, 1, 0), (37, 2, 1), (38, 0, 0), (40, 5, 0), (40, 4, (-1)), (0, 7, 1)] [(431, 0, 0), (39, 1, ((10 * (((x2.toInt64).toInt32).toInt64)) + 1)), (41, 17, ((10 * (((x2.toInt64).toInt32).toInt64)) + 1)), (41, 17, 0), (41, 11, 0), (39, 0, (x2.toInt64))] [(6, 0, (some (b + 40))), (41, 3, (some (b + 37))), (41, 2, (some (b + 13))), (40, 3, (some (b + 13)))])) (b := b) (lyA hK) x2 q1_x2 q2_x2 (rI_at 405 6 (fz_I hF 405 6 rfl rfl)) (rI_at 405 16 (fz_I hF 405 16 rfl rfl)) (rI_at 406 20 (fz_I hF 406 20 rfl rfl)) (rI_at 407 20 (fz_I hF 407 20 rfl rfl)) (rI_at 412 0 (fz_I hF 412 0 rfl rfl)) (rI_at 413 0 (fz_I hF 413 0 rfl rfl)) (rR_at 405 3 (fz_R hF 405 3 rfl rfl)) (rR_at 405 4 (fz_R hF 405 4 rfl rfl)) (rR_at 405 7 (fz_R hF 405 7 rfl rfl)) (rR_at 405 8 (fz_R hF 405 8 rfl rfl)) (rR_at 405 9 (fz_R hF 405 9 rfl rfl)) (rR_at 405 10 (fz_R hF 405 10 rfl rfl)) (rR_at 405 11 (fz_R hF 405 11 rfl rfl)) (rR_at 405 12 (fz_R hF 405 12 rfl rfl)) (rR_at 405 13 (fz_R hF 405 13 rfl rfl)) (rR_at 405 14 (fz_R hF 405 14 rfl rfl)) (rR_at 405 15 (fz_R hF 405 15 rfl rfl)) (rR_at 405 42 (fz_R hF 405 42 rfl rfl))) (lKA (hk_K hK 405 rfl rfl)) rfl (by decide) rfl (Nat.le_of_ble_eq_true rfl) (by decide) (fun r u hu => ?_)
  refine z_eqs (σ' := (ap b σ [(412, 0, 1), (414, 0, 2), (405, 26, 1), (405, 37, 1), (405, 27, 2), (413, 0, 2), (416, 1, 13), (405, 28, 1), (405, 38, 1), (405, 48, (-1)), (405, 27, 1), (405, 29, ((x2.toInt64).toInt32)), (405, 26, 1), (405, 47, 1), (405, 39, 0), (405, 38, 0), (405, 37, 0), (405, 36, 0), (405, 35, 0), (405, 34, 0), (405, 32, 0), (405, 31, 0), (405, 30, 0), (405, 29, 0), (405, 28, 0), (405, 27, 0), (405, 26, 1), (428, 0, 0), (405, 45, 0), (405, 43, 0), (413, 0, 1), (416, 0, 0), (415, 0, (-1)), (411, 0, 0), (410, 0, (-1)), (409, 0, 1), (405, 6, 1), (405, 0, 0), (7, 2, 0), (7, 1, 0), (40, 8, 2), (5, 2, 0), (41, 19, 0), (41, 19, 0), (41, 15, 1), (41, 4, 2), (41, 16, (-1)), (37, 2, 2), (38, 1, 13), (41, 16, 13), (41, 7, 1), (41, 5, 1), (5, 2, 1), (41, 19, 0), (41, 18, (-1)), (41, 16, (-1)), (41, 15, 0), (41, 14, 0), (41, 13, 0), (41, 12, 0), (41, 10, (-1)), (41, 9, (-1)), (41, 8, 0), (41, 7, 0), (41, 6, ((x2.toInt64).toInt32)), (41, 5, 0), (41, 4, 1), (44, 1, 0), (42, 1, 0), (37, 2, 1), (38, 0, 0), (40, 5, 0), (40, 4, (-1)), (0, 7, 1)] [(417, 1, ((10 * (((x2.toInt64).toInt32).toInt64)) + 1)), (417, 0, (x2.toInt64)), (431, 0, 0), (39, 1, ((10 * (((x2.toInt64).toInt32).toInt64)) + 1)), (41, 17, ((10 * (((x2.toInt64).toInt32).toInt64)) + 1)), (41, 17, 0), (41, 11, 0), (39, 0, (x2.toInt64))] [(6, 0, (some (b + 40))), (41, 3, (some (b + 37))), (41, 2, (some (b + 13))), (40, 3, (some (b + 13)))])) (hu.2.trans ap_ap) ?_
  show zx p l e _ s m _ below meth c g 8 _ _ _ _ 391 [(5, .int 0), (4, .int 0), (3, .ref (b + 431)), (2, .ref (b + 405)), (1, .ref (b + 0)), (0, .ref bS)] _
  refine z_seti (y := 0) hu.1 ?_
  refine z_istore (lv' := [(6, .int 0), (5, .int 0), (4, .int 0), (3, .ref (b + 431)), (2, .ref (b + 405)), (1, .ref (b + 0)), (0, .ref bS)]) B dL_law_391 (by decide) rfl ?_
  refine z_aload_n B dL_law_393 rfl 4 rfl ?_
  refine z_cVi (As := []) (rest := []) B cw_L_80 cx_10 dL_law_394 (ci_X9_thrown_95 l (σ := (ap b σ [(412, 0, 1), (414, 0, 2), (405, 26, 1), (405, 37, 1), (405, 27, 2), (413, 0, 2), (416, 1, 13), (405, 28, 1), (405, 38, 1), (405, 48, (-1)), (405, 27, 1), (405, 29, ((x2.toInt64).toInt32)), (405, 26, 1), (405, 47, 1), (405, 39, 0), (405, 38, 0), (405, 37, 0), (405, 36, 0), (405, 35, 0), (405, 34, 0), (405, 32, 0), (405, 31, 0), (405, 30, 0), (405, 29, 0), (405, 28, 0), (405, 27, 0), (405, 26, 1), (428, 0, 0), (405, 45, 0), (405, 43, 0), (413, 0, 1), (416, 0, 0), (415, 0, (-1)), (411, 0, 0), (410, 0, (-1)), (409, 0, 1), (405, 6, 1), (405, 0, 0), (7, 2, 0), (7, 1, 0), (40, 8, 2), (5, 2, 0), (41, 19, 0), (41, 19, 0), (41, 15, 1), (41, 4, 2), (41, 16, (-1)), (37, 2, 2), (38, 1, 13), (41, 16, 13), (41, 7, 1), (41, 5, 1), (5, 2, 1), (41, 19, 0), (41, 18, (-1)), (41, 16, (-1)), (41, 15, 0), (41, 14, 0), (41, 13, 0), (41, 12, 0), (41, 10, (-1)), (41, 9, (-1)), (41, 8, 0), (41, 7, 0), (41, 6, ((x2.toInt64).toInt32)), (41, 5, 0), (41, 4, 1), (44, 1, 0), (42, 1, 0), (37, 2, 1), (38, 0, 0), (40, 5, 0), (40, 4, (-1)), (0, 7, 1)] [(417, 1, ((10 * (((x2.toInt64).toInt32).toInt64)) + 1)), (417, 0, (x2.toInt64)), (431, 0, 0), (39, 1, ((10 * (((x2.toInt64).toInt32).toInt64)) + 1)), (41, 17, ((10 * (((x2.toInt64).toInt32).toInt64)) + 1)), (41, 17, 0), (41, 11, 0), (39, 0, (x2.toInt64))] [(6, 0, (some (b + 40))), (41, 3, (some (b + 37))), (41, 2, (some (b + 13))), (40, 3, (some (b + 13)))])) (b := b) (lyA hK) (rI_at 405 0 rfl)) (lKA (hk_K hK 405 rfl rfl)) rfl (by decide) rfl (Nat.le_of_ble_eq_true rfl) (by decide) (fun r u hu => ?_)
  refine z_eqs (σ' := (ap b σ [(412, 0, 1), (414, 0, 2), (405, 26, 1), (405, 37, 1), (405, 27, 2), (413, 0, 2), (416, 1, 13), (405, 28, 1), (405, 38, 1), (405, 48, (-1)), (405, 27, 1), (405, 29, ((x2.toInt64).toInt32)), (405, 26, 1), (405, 47, 1), (405, 39, 0), (405, 38, 0), (405, 37, 0), (405, 36, 0), (405, 35, 0), (405, 34, 0), (405, 32, 0), (405, 31, 0), (405, 30, 0), (405, 29, 0), (405, 28, 0), (405, 27, 0), (405, 26, 1), (428, 0, 0), (405, 45, 0), (405, 43, 0), (413, 0, 1), (416, 0, 0), (415, 0, (-1)), (411, 0, 0), (410, 0, (-1)), (409, 0, 1), (405, 6, 1), (405, 0, 0), (7, 2, 0), (7, 1, 0), (40, 8, 2), (5, 2, 0), (41, 19, 0), (41, 19, 0), (41, 15, 1), (41, 4, 2), (41, 16, (-1)), (37, 2, 2), (38, 1, 13), (41, 16, 13), (41, 7, 1), (41, 5, 1), (5, 2, 1), (41, 19, 0), (41, 18, (-1)), (41, 16, (-1)), (41, 15, 0), (41, 14, 0), (41, 13, 0), (41, 12, 0), (41, 10, (-1)), (41, 9, (-1)), (41, 8, 0), (41, 7, 0), (41, 6, ((x2.toInt64).toInt32)), (41, 5, 0), (41, 4, 1), (44, 1, 0), (42, 1, 0), (37, 2, 1), (38, 0, 0), (40, 5, 0), (40, 4, (-1)), (0, 7, 1)] [(417, 1, ((10 * (((x2.toInt64).toInt32).toInt64)) + 1)), (417, 0, (x2.toInt64)), (431, 0, 0), (39, 1, ((10 * (((x2.toInt64).toInt32).toInt64)) + 1)), (41, 17, ((10 * (((x2.toInt64).toInt32).toInt64)) + 1)), (41, 17, 0), (41, 11, 0), (39, 0, (x2.toInt64))] [(6, 0, (some (b + 40))), (41, 3, (some (b + 37))), (41, 2, (some (b + 13))), (40, 3, (some (b + 13)))])) hu.2 ?_
  show zx p l e _ s m _ below meth c g 8 _ _ _ _ 397 [(6, .int 0), (5, .int 0), (4, .int 0), (3, .ref (b + 431)), (2, .ref (b + 405)), (1, .ref (b + 0)), (0, .ref bS)] _
  refine z_seti (y := 0) hu.1 ?_
  refine z_iload B dL_law_397 1 rfl ?_
  refine z_icmp_eq (tgt := 404) B dL_law_399 (by decide) (fun _ => ?_) (fun h => absurd (by decide) h)
  refine z_iload B dL_law_404 1 rfl ?_
  refine z_if_ne (tgt := 421) B dL_law_406 (by decide) (fun h => absurd (by decide) h) (fun _ => ?_)
  refine z_aload_n B dL_law_409 rfl 3 rfl ?_
  refine z_iconst (v := 0) B dL_law_410 (by decide) ?_
  refine z_lald (j := 0) (x := 0) B (lKA (hk_K hK 431 rfl rfl)) (by decide) (in_of (lNA (hk_N hK 431 rfl rfl)) (show ¬ ((0 : Int32) < 0 ∨ 1 ≤ (0 : Int32).toNatClampNeg) by decide)) (rJ_at 431 0 rfl) dL_law_411 ?_
  refine z_iload B dL_law_412 0 rfl ?_
  refine z_i2l (v := 0) B dL_law_414 (by decide) ?_
  refine z_lcmp (v := 0) B dL_law_415 (by decide) ?_
  refine z_if_eq (tgt := 421) B dL_law_416 (by decide) (fun _ => ?_) (fun h => absurd (by decide) h)
  refine z_goto (tgt := 1395) B dL_law_421 (by decide) ?_
  exact z_widen (Nat.le_of_ble_eq_true rfl) (Nat.le_of_ble_eq_true rfl) (z_sub _ [2, 6] rfl (kk _))
set_option maxRecDepth 100000 in
set_option maxHeartbeats 4000000 in
theorem lf_2_290 {p : Program} {l : Launch} {e : Env} {s : State} {m : MethodId} {args : Array Value} {below : List Frame} {meth : Method} {c : Code} {g : gx_T} {Q : State → Prop} {σ : sx_T} {b t bS : Nat} {xs : Nat → Int32} (hlt : l.stackTraces = false) (B : zx_B p s m args meth c code RL 8 g) (hX : va_X bS 6 xs s s.heap) (hbl : bS < s.heap.size) (hbA : ¬ gx_b g ≤ bS) (hF : fz_P b t σ) (h_x1 : xs 1 = 1) {x2 : Int32} (h_x2 : xs 2 = x2) (q1_x2 : (1000 : Int) ≤ x2.toInt) (q2_x2 : x2.toInt ≤ (2147483647 : Int)) (kk : ∀ σ', zx p l e room_1 s m args below meth c g 8 600002 7302232 Q σ' 1395 [(4, .int 0), (0, .ref bS)] []) : zx p l e room_1 s m args below meth c g 8 500 100000 Q σ 356 [(4, .int 0), (3, .ref (b + 431)), (2, .ref (b + 405)), (1, .ref (b + 0)), (0, .ref bS)] [] := by
  have hK := fz_lay hF
  refine z_eqs (σ' := (ap b σ [] [] [])) rfl ?_
  refine z_aload_n B dL_law_356 rfl 3 rfl ?_
  refine z_aload_n B dL_law_357 rfl 4 rfl ?_
  refine z_iload B dL_law_358 0 rfl ?_
  refine z_iconst (v := 1) B dL_law_360 (by decide) ?_
  refine z_iadd B dL_law_361 ?_
  refine z_seti (y := 1) (by decide) ?_
  refine z_sld (j := 1) (x := 1) B hX hbl hbA (by decide) (show ¬ ((1 : Int32) < 0 ∨ 6 ≤ (1 : Int32).toNatClampNeg) by decide) h_x1 dL_law_362 ?_
  refine z_aload_n B dL_law_363 rfl 4 rfl ?_
  refine z_iload B dL_law_364 0 rfl ?_
  refine z_iconst (v := 2) B dL_law_366 (by decide) ?_
  refine z_iadd B dL_law_367 ?_
  refine z_seti (y := 2) (by decide) ?_
  refine z_sld (j := 2) (x := x2) B hX hbl hbA (by decide) (show ¬ ((2 : Int32) < 0 ∨ 6 ≤ (2 : Int32).toNatClampNeg) by decide) h_x2 dL_law_368 ?_
  refine z_aload_n B dL_law_369 rfl 1 rfl ?_
  refine z_cSWi (As := [.ref (b + 0), .int 1, .int x2, .ref (b + 431)]) (rest := []) B cw_L_87 dL_law_370 (ci_L_start_750 l hlt (σ := (ap b σ [] [] [])) (b := b) (lyA hK) x2 q1_x2 q2_x2 (rR_at 0 0 (fz_R hF 0 0 rfl rfl)) (rR_at 1 1 (fz_R hF 1 1 rfl rfl))) rfl (by decide) rfl (Nat.le_of_ble_eq_true rfl) (by decide) (fun r u hu => ?_)
  obtain ⟨hu1, z, hu⟩ := hu
  refine z_eqs (σ' := (ap b (wx_Z σ z) [] [] [])) (hu.trans az_ap) ?_
  show zx p l e _ s m _ below meth c g 8 _ _ _ _ 373 [(4, .int 0), (3, .ref (b + 431)), (2, .ref (b + 405)), (1, .ref (b + 0)), (0, .ref bS)] _
  refine z_seti (y := 2) hu1 ?_
  refine z_istore (lv' := [(5, .int 2), (4, .int 0), (3, .ref (b + 431)), (2, .ref (b + 405)), (1, .ref (b + 0)), (0, .ref bS)]) B dL_law_373 (by decide) rfl ?_
  refine z_aload_n B dL_law_375 rfl 3 rfl ?_
  refine z_aload_n B dL_law_376 rfl 5 rfl ?_
  refine z_iload B dL_law_377 1 rfl ?_
  refine z_iconst (v := 1) B dL_law_379 (by decide) ?_
  refine z_iadd B dL_law_380 ?_
  refine z_seti (y := 1) (by decide) ?_
  refine z_sld (j := 1) (x := 1) B hX hbl hbA (by decide) (show ¬ ((1 : Int32) < 0 ∨ 6 ≤ (1 : Int32).toNatClampNeg) by decide) h_x1 dL_law_381 ?_
  refine z_aload_n B dL_law_382 rfl 5 rfl ?_
  refine z_iload B dL_law_383 1 rfl ?_
  refine z_iconst (v := 2) B dL_law_385 (by decide) ?_
  refine z_iadd B dL_law_386 ?_
  refine z_seti (y := 2) (by decide) ?_
  refine z_sld (j := 2) (x := x2) B hX hbl hbA (by decide) (show ¬ ((2 : Int32) < 0 ∨ 6 ≤ (2 : Int32).toNatClampNeg) by decide) h_x2 dL_law_387 ?_
  refine z_cVi (As := [.int 1, .int x2]) (rest := []) B cw_L_90 cx_10 dL_law_388 (ci_X9_start_751 l (σ := (ap b (wx_Z σ z) [] [] [])) (b := b) (lyA (lyZ hK)) x2 q1_x2 q2_x2 (rI_at 405 6 (lIZ (fz_I hF 405 6 rfl rfl)))) (lKA (lKZ (hk_K hK 405 rfl rfl))) rfl (by decide) rfl (Nat.le_of_ble_eq_true rfl) (by decide) (fun r u hu => ?_)
  refine z_eqs (σ' := (ap b (wx_Z σ z) [(405, 0, 2)] [] [])) (hu.2.trans ap_ap) ?_
  show zx p l e _ s m _ below meth c g 8 _ _ _ _ 391 [(5, .int 2), (4, .int 0), (3, .ref (b + 431)), (2, .ref (b + 405)), (1, .ref (b + 0)), (0, .ref bS)] _
  refine z_seti (y := 0) hu.1 ?_
  refine z_istore (lv' := [(6, .int 0), (5, .int 2), (4, .int 0), (3, .ref (b + 431)), (2, .ref (b + 405)), (1, .ref (b + 0)), (0, .ref bS)]) B dL_law_391 (by decide) rfl ?_
  refine z_aload_n B dL_law_393 rfl 4 rfl ?_
  refine z_cVi (As := []) (rest := []) B cw_L_80 cx_10 dL_law_394 (ci_X9_thrown_73 l (σ := (ap b (wx_Z σ z) [(405, 0, 2)] [] [])) (b := b) (lyA (lyZ hK)) (rI_at 405 0 rfl)) (lKA (lKZ (hk_K hK 405 rfl rfl))) rfl (by decide) rfl (Nat.le_of_ble_eq_true rfl) (by decide) (fun r u hu => ?_)
  refine z_eqs (σ' := (ap b (wx_Z σ z) [(405, 0, 2)] [] [])) hu.2 ?_
  show zx p l e _ s m _ below meth c g 8 _ _ _ _ 397 [(6, .int 0), (5, .int 2), (4, .int 0), (3, .ref (b + 431)), (2, .ref (b + 405)), (1, .ref (b + 0)), (0, .ref bS)] _
  refine z_seti (y := 2) hu.1 ?_
  refine z_iload B dL_law_397 1 rfl ?_
  refine z_icmp_eq (tgt := 404) B dL_law_399 (by decide) (fun _ => ?_) (fun h => absurd (by decide) h)
  refine z_iload B dL_law_404 1 rfl ?_
  refine z_if_ne (tgt := 421) B dL_law_406 (by decide) (fun _ => ?_) (fun h => absurd h (by decide))
  refine z_goto (tgt := 1395) B dL_law_421 (by decide) ?_
  exact z_widen (Nat.le_of_ble_eq_true rfl) (Nat.le_of_ble_eq_true rfl) (z_sub _ [2, 6] rfl (kk _))
set_option maxRecDepth 100000 in
set_option maxHeartbeats 4000000 in
theorem lf_2_291 {p : Program} {l : Launch} {e : Env} {s : State} {m : MethodId} {args : Array Value} {below : List Frame} {meth : Method} {c : Code} {g : gx_T} {Q : State → Prop} {σ : sx_T} {b t bS : Nat} {xs : Nat → Int32} (hlt : l.stackTraces = false) (B : zx_B p s m args meth c code RL 8 g) (hX : va_X bS 6 xs s s.heap) (hbl : bS < s.heap.size) (hbA : ¬ gx_b g ≤ bS) (hF : fz_P b t σ) (h_x1 : xs 1 = 2) {x2 : Int32} (h_x2 : xs 2 = x2) (q1_x2 : (-2147483648 : Int) ≤ x2.toInt) (q2_x2 : x2.toInt ≤ (-1000 : Int)) (kk : ∀ σ', zx p l e room_1 s m args below meth c g 8 600002 7302232 Q σ' 1395 [(4, .int 0), (0, .ref bS)] []) : zx p l e room_1 s m args below meth c g 8 500 100000 Q σ 356 [(4, .int 0), (3, .ref (b + 431)), (2, .ref (b + 405)), (1, .ref (b + 0)), (0, .ref bS)] [] := by
  have hK := fz_lay hF
  refine z_eqs (σ' := (ap b σ [] [] [])) rfl ?_
  refine z_aload_n B dL_law_356 rfl 3 rfl ?_
  refine z_aload_n B dL_law_357 rfl 4 rfl ?_
  refine z_iload B dL_law_358 0 rfl ?_
  refine z_iconst (v := 1) B dL_law_360 (by decide) ?_
  refine z_iadd B dL_law_361 ?_
  refine z_seti (y := 1) (by decide) ?_
  refine z_sld (j := 1) (x := 2) B hX hbl hbA (by decide) (show ¬ ((1 : Int32) < 0 ∨ 6 ≤ (1 : Int32).toNatClampNeg) by decide) h_x1 dL_law_362 ?_
  refine z_aload_n B dL_law_363 rfl 4 rfl ?_
  refine z_iload B dL_law_364 0 rfl ?_
  refine z_iconst (v := 2) B dL_law_366 (by decide) ?_
  refine z_iadd B dL_law_367 ?_
  refine z_seti (y := 2) (by decide) ?_
  refine z_sld (j := 2) (x := x2) B hX hbl hbA (by decide) (show ¬ ((2 : Int32) < 0 ∨ 6 ≤ (2 : Int32).toNatClampNeg) by decide) h_x2 dL_law_368 ?_
  refine z_aload_n B dL_law_369 rfl 1 rfl ?_
  refine z_cSWi (As := [.ref (b + 0), .int 2, .int x2, .ref (b + 431)]) (rest := []) B cw_L_87 dL_law_370 (ci_L_start_753 l hlt (σ := (ap b σ [] [] [])) (b := b) (lyA hK) x2 q1_x2 q2_x2 (rR_at 0 0 (fz_R hF 0 0 rfl rfl)) (rR_at 1 2 (fz_R hF 1 2 rfl rfl))) rfl (by decide) rfl (Nat.le_of_ble_eq_true rfl) (by decide) (fun r u hu => ?_)
  obtain ⟨hu1, z, hu⟩ := hu
  refine z_eqs (σ' := (ap b (wx_Z σ z) [] [] [])) (hu.trans az_ap) ?_
  show zx p l e _ s m _ below meth c g 8 _ _ _ _ 373 [(4, .int 0), (3, .ref (b + 431)), (2, .ref (b + 405)), (1, .ref (b + 0)), (0, .ref bS)] _
  refine z_seti (y := 2) hu1 ?_
  refine z_istore (lv' := [(5, .int 2), (4, .int 0), (3, .ref (b + 431)), (2, .ref (b + 405)), (1, .ref (b + 0)), (0, .ref bS)]) B dL_law_373 (by decide) rfl ?_
  refine z_aload_n B dL_law_375 rfl 3 rfl ?_
  refine z_aload_n B dL_law_376 rfl 5 rfl ?_
  refine z_iload B dL_law_377 1 rfl ?_
  refine z_iconst (v := 1) B dL_law_379 (by decide) ?_
  refine z_iadd B dL_law_380 ?_
  refine z_seti (y := 1) (by decide) ?_
  refine z_sld (j := 1) (x := 2) B hX hbl hbA (by decide) (show ¬ ((1 : Int32) < 0 ∨ 6 ≤ (1 : Int32).toNatClampNeg) by decide) h_x1 dL_law_381 ?_
  refine z_aload_n B dL_law_382 rfl 5 rfl ?_
  refine z_iload B dL_law_383 1 rfl ?_
  refine z_iconst (v := 2) B dL_law_385 (by decide) ?_
  refine z_iadd B dL_law_386 ?_
  refine z_seti (y := 2) (by decide) ?_
  refine z_sld (j := 2) (x := x2) B hX hbl hbA (by decide) (show ¬ ((2 : Int32) < 0 ∨ 6 ≤ (2 : Int32).toNatClampNeg) by decide) h_x2 dL_law_387 ?_
  refine z_cVi (As := [.int 2, .int x2]) (rest := []) B cw_L_90 cx_10 dL_law_388 (ci_X9_start_754 l (σ := (ap b (wx_Z σ z) [] [] [])) (b := b) (lyA (lyZ hK)) x2 q1_x2 q2_x2 (rI_at 405 6 (lIZ (fz_I hF 405 6 rfl rfl)))) (lKA (lKZ (hk_K hK 405 rfl rfl))) rfl (by decide) rfl (Nat.le_of_ble_eq_true rfl) (by decide) (fun r u hu => ?_)
  refine z_eqs (σ' := (ap b (wx_Z σ z) [(405, 0, 2)] [] [])) (hu.2.trans ap_ap) ?_
  show zx p l e _ s m _ below meth c g 8 _ _ _ _ 391 [(5, .int 2), (4, .int 0), (3, .ref (b + 431)), (2, .ref (b + 405)), (1, .ref (b + 0)), (0, .ref bS)] _
  refine z_seti (y := 0) hu.1 ?_
  refine z_istore (lv' := [(6, .int 0), (5, .int 2), (4, .int 0), (3, .ref (b + 431)), (2, .ref (b + 405)), (1, .ref (b + 0)), (0, .ref bS)]) B dL_law_391 (by decide) rfl ?_
  refine z_aload_n B dL_law_393 rfl 4 rfl ?_
  refine z_cVi (As := []) (rest := []) B cw_L_80 cx_10 dL_law_394 (ci_X9_thrown_73 l (σ := (ap b (wx_Z σ z) [(405, 0, 2)] [] [])) (b := b) (lyA (lyZ hK)) (rI_at 405 0 rfl)) (lKA (lKZ (hk_K hK 405 rfl rfl))) rfl (by decide) rfl (Nat.le_of_ble_eq_true rfl) (by decide) (fun r u hu => ?_)
  refine z_eqs (σ' := (ap b (wx_Z σ z) [(405, 0, 2)] [] [])) hu.2 ?_
  show zx p l e _ s m _ below meth c g 8 _ _ _ _ 397 [(6, .int 0), (5, .int 2), (4, .int 0), (3, .ref (b + 431)), (2, .ref (b + 405)), (1, .ref (b + 0)), (0, .ref bS)] _
  refine z_seti (y := 2) hu.1 ?_
  refine z_iload B dL_law_397 1 rfl ?_
  refine z_icmp_eq (tgt := 404) B dL_law_399 (by decide) (fun _ => ?_) (fun h => absurd (by decide) h)
  refine z_iload B dL_law_404 1 rfl ?_
  refine z_if_ne (tgt := 421) B dL_law_406 (by decide) (fun _ => ?_) (fun h => absurd h (by decide))
  refine z_goto (tgt := 1395) B dL_law_421 (by decide) ?_
  exact z_widen (Nat.le_of_ble_eq_true rfl) (Nat.le_of_ble_eq_true rfl) (z_sub _ [2, 6] rfl (kk _))
set_option maxRecDepth 100000 in
set_option maxHeartbeats 4000000 in
theorem lf_2_292 {p : Program} {l : Launch} {e : Env} {s : State} {m : MethodId} {args : Array Value} {below : List Frame} {meth : Method} {c : Code} {g : gx_T} {Q : State → Prop} {σ : sx_T} {b t bS : Nat} {xs : Nat → Int32} (hlt : l.stackTraces = false) (B : zx_B p s m args meth c code RL 8 g) (hX : va_X bS 6 xs s s.heap) (hbl : bS < s.heap.size) (hbA : ¬ gx_b g ≤ bS) (hF : fz_P b t σ) (h_x1 : xs 1 = 2) {x2 : Int32} (h_x2 : xs 2 = x2) (q1_x2 : (-999 : Int) ≤ x2.toInt) (q2_x2 : x2.toInt ≤ (-1 : Int)) (kk : ∀ σ', zx p l e room_1 s m args below meth c g 8 600002 7302232 Q σ' 1395 [(4, .int 0), (0, .ref bS)] []) : zx p l e room_1 s m args below meth c g 8 500 100000 Q σ 356 [(4, .int 0), (3, .ref (b + 431)), (2, .ref (b + 405)), (1, .ref (b + 0)), (0, .ref bS)] [] := by
  have hK := fz_lay hF
  refine z_eqs (σ' := (ap b σ [] [] [])) rfl ?_
  refine z_aload_n B dL_law_356 rfl 3 rfl ?_
  refine z_aload_n B dL_law_357 rfl 4 rfl ?_
  refine z_iload B dL_law_358 0 rfl ?_
  refine z_iconst (v := 1) B dL_law_360 (by decide) ?_
  refine z_iadd B dL_law_361 ?_
  refine z_seti (y := 1) (by decide) ?_
  refine z_sld (j := 1) (x := 2) B hX hbl hbA (by decide) (show ¬ ((1 : Int32) < 0 ∨ 6 ≤ (1 : Int32).toNatClampNeg) by decide) h_x1 dL_law_362 ?_
  refine z_aload_n B dL_law_363 rfl 4 rfl ?_
  refine z_iload B dL_law_364 0 rfl ?_
  refine z_iconst (v := 2) B dL_law_366 (by decide) ?_
  refine z_iadd B dL_law_367 ?_
  refine z_seti (y := 2) (by decide) ?_
  refine z_sld (j := 2) (x := x2) B hX hbl hbA (by decide) (show ¬ ((2 : Int32) < 0 ∨ 6 ≤ (2 : Int32).toNatClampNeg) by decide) h_x2 dL_law_368 ?_
  refine z_aload_n B dL_law_369 rfl 1 rfl ?_
  refine z_cSWi (As := [.ref (b + 0), .int 2, .int x2, .ref (b + 431)]) (rest := []) B cw_L_87 dL_law_370 (ci_L_start_764 l (σ := (ap b σ [] [] [])) (b := b) (lyA hK) x2 q1_x2 q2_x2 (rI_at 0 7 (fz_I hF 0 7 rfl rfl)) (rI_at 5 1 (fz_I hF 5 1 rfl rfl)) (rI_at 5 2 (fz_I hF 5 2 rfl rfl)) (rI_at 7 1 (fz_I hF 7 1 rfl rfl)) (rI_at 7 2 (fz_I hF 7 2 rfl rfl)) (rI_at 18 0 (fz_I hF 18 0 rfl rfl)) (rI_at 19 0 (fz_I hF 19 0 rfl rfl)) (rI_at 20 0 (fz_I hF 20 0 rfl rfl)) (rI_at 37 2 (fz_I hF 37 2 rfl rfl)) (rI_at 40 0 (fz_I hF 40 0 rfl rfl)) (rI_at 40 8 (fz_I hF 40 8 rfl rfl)) (rR_at 0 0 (fz_R hF 0 0 rfl rfl)) (rR_at 0 2 (fz_R hF 0 2 rfl rfl)) (rR_at 0 4 (fz_R hF 0 4 rfl rfl)) (rR_at 0 5 (fz_R hF 0 5 rfl rfl)) (rR_at 1 2 (fz_R hF 1 2 rfl rfl)) (rR_at 3 0 (fz_R hF 3 0 rfl rfl)) (rR_at 5 0 (fz_R hF 5 0 rfl rfl)) (rR_at 17 1 (fz_R hF 17 1 rfl rfl)) (rR_at 17 2 (fz_R hF 17 2 rfl rfl)) (rR_at 17 3 (fz_R hF 17 3 rfl rfl)) (rR_at 37 0 (fz_R hF 37 0 rfl rfl)) (rR_at 37 1 (fz_R hF 37 1 rfl rfl)) (rR_at 40 1 (fz_R hF 40 1 rfl rfl)) (rR_at 40 2 (fz_R hF 40 2 rfl rfl)) (rR_at 40 7 (fz_R hF 40 7 rfl rfl)) (rR_at 41 0 (fz_R hF 41 0 rfl rfl)) (rR_at 41 1 (fz_R hF 41 1 rfl rfl))) rfl (by decide) rfl (Nat.le_of_ble_eq_true rfl) (by decide) (fun r u hu => ?_)
  refine z_eqs (σ' := (ap b σ [(7, 2, 0), (7, 1, 0), (40, 8, 2), (5, 2, 0), (41, 19, 0), (41, 19, 0), (41, 15, 1), (41, 4, 2), (41, 16, (-1)), (37, 2, 2), (38, 1, 13), (41, 16, 13), (41, 7, 1), (41, 5, 1), (5, 2, 1), (41, 19, 0), (41, 18, (-1)), (41, 16, (-1)), (41, 15, 0), (41, 14, 0), (41, 13, 0), (41, 12, 0), (41, 10, (-1)), (41, 9, (-1)), (41, 8, 0), (41, 7, 0), (41, 6, ((x2.toInt64).toInt32)), (41, 5, 0), (41, 4, 1), (44, 1, 0), (42, 1, 0), (37, 2, 1), (38, 0, 0), (40, 5, 0), (40, 4, (-1)), (0, 7, 1)] [(431, 0, 0), (39, 1, ((10 * (((x2.toInt64).toInt32).toInt64)) + 1)), (41, 17, ((10 * (((x2.toInt64).toInt32).toInt64)) + 1)), (41, 17, 0), (41, 11, 0), (39, 0, (x2.toInt64))] [(6, 0, (some (b + 40))), (41, 3, (some (b + 37))), (41, 2, (some (b + 17))), (40, 3, (some (b + 17)))])) (hu.2.trans ap_ap) ?_
  show zx p l e _ s m _ below meth c g 8 _ _ _ _ 373 [(4, .int 0), (3, .ref (b + 431)), (2, .ref (b + 405)), (1, .ref (b + 0)), (0, .ref bS)] _
  refine z_seti (y := 0) hu.1 ?_
  refine z_istore (lv' := [(5, .int 0), (4, .int 0), (3, .ref (b + 431)), (2, .ref (b + 405)), (1, .ref (b + 0)), (0, .ref bS)]) B dL_law_373 (by decide) rfl ?_
  refine z_aload_n B dL_law_375 rfl 3 rfl ?_
  refine z_aload_n B dL_law_376 rfl 5 rfl ?_
  refine z_iload B dL_law_377 1 rfl ?_
  refine z_iconst (v := 1) B dL_law_379 (by decide) ?_
  refine z_iadd B dL_law_380 ?_
  refine z_seti (y := 1) (by decide) ?_
  refine z_sld (j := 1) (x := 2) B hX hbl hbA (by decide) (show ¬ ((1 : Int32) < 0 ∨ 6 ≤ (1 : Int32).toNatClampNeg) by decide) h_x1 dL_law_381 ?_
  refine z_aload_n B dL_law_382 rfl 5 rfl ?_
  refine z_iload B dL_law_383 1 rfl ?_
  refine z_iconst (v := 2) B dL_law_385 (by decide) ?_
  refine z_iadd B dL_law_386 ?_
  refine z_seti (y := 2) (by decide) ?_
  refine z_sld (j := 2) (x := x2) B hX hbl hbA (by decide) (show ¬ ((2 : Int32) < 0 ∨ 6 ≤ (2 : Int32).toNatClampNeg) by decide) h_x2 dL_law_387 ?_
  refine z_cVi (As := [.int 2, .int x2]) (rest := []) B cw_L_90 cx_10 dL_law_388 (ci_X9_start_770 l (σ := (ap b σ [(7, 2, 0), (7, 1, 0), (40, 8, 2), (5, 2, 0), (41, 19, 0), (41, 19, 0), (41, 15, 1), (41, 4, 2), (41, 16, (-1)), (37, 2, 2), (38, 1, 13), (41, 16, 13), (41, 7, 1), (41, 5, 1), (5, 2, 1), (41, 19, 0), (41, 18, (-1)), (41, 16, (-1)), (41, 15, 0), (41, 14, 0), (41, 13, 0), (41, 12, 0), (41, 10, (-1)), (41, 9, (-1)), (41, 8, 0), (41, 7, 0), (41, 6, ((x2.toInt64).toInt32)), (41, 5, 0), (41, 4, 1), (44, 1, 0), (42, 1, 0), (37, 2, 1), (38, 0, 0), (40, 5, 0), (40, 4, (-1)), (0, 7, 1)] [(431, 0, 0), (39, 1, ((10 * (((x2.toInt64).toInt32).toInt64)) + 1)), (41, 17, ((10 * (((x2.toInt64).toInt32).toInt64)) + 1)), (41, 17, 0), (41, 11, 0), (39, 0, (x2.toInt64))] [(6, 0, (some (b + 40))), (41, 3, (some (b + 37))), (41, 2, (some (b + 17))), (40, 3, (some (b + 17)))])) (b := b) (lyA hK) x2 q1_x2 q2_x2 (rI_at 405 6 (fz_I hF 405 6 rfl rfl)) (rI_at 405 16 (fz_I hF 405 16 rfl rfl)) (rI_at 406 40 (fz_I hF 406 40 rfl rfl)) (rI_at 407 40 (fz_I hF 407 40 rfl rfl)) (rI_at 412 0 (fz_I hF 412 0 rfl rfl)) (rI_at 413 0 (fz_I hF 413 0 rfl rfl)) (rR_at 405 3 (fz_R hF 405 3 rfl rfl)) (rR_at 405 4 (fz_R hF 405 4 rfl rfl)) (rR_at 405 7 (fz_R hF 405 7 rfl rfl)) (rR_at 405 8 (fz_R hF 405 8 rfl rfl)) (rR_at 405 9 (fz_R hF 405 9 rfl rfl)) (rR_at 405 10 (fz_R hF 405 10 rfl rfl)) (rR_at 405 11 (fz_R hF 405 11 rfl rfl)) (rR_at 405 12 (fz_R hF 405 12 rfl rfl)) (rR_at 405 13 (fz_R hF 405 13 rfl rfl)) (rR_at 405 14 (fz_R hF 405 14 rfl rfl)) (rR_at 405 15 (fz_R hF 405 15 rfl rfl)) (rR_at 405 42 (fz_R hF 405 42 rfl rfl))) (lKA (hk_K hK 405 rfl rfl)) rfl (by decide) rfl (Nat.le_of_ble_eq_true rfl) (by decide) (fun r u hu => ?_)
  refine z_eqs (σ' := (ap b σ [(412, 0, 1), (414, 0, 2), (405, 26, 1), (405, 37, 1), (405, 27, 2), (413, 0, 2), (416, 1, 13), (405, 28, 1), (405, 38, 1), (405, 48, (-1)), (405, 27, 1), (405, 29, ((x2.toInt64).toInt32)), (405, 26, 1), (405, 47, 1), (405, 39, 0), (405, 38, 0), (405, 37, 0), (405, 36, 0), (405, 35, 0), (405, 34, 0), (405, 32, 0), (405, 31, 0), (405, 30, 0), (405, 29, 0), (405, 28, 0), (405, 27, 0), (405, 26, 1), (428, 0, 0), (405, 45, 0), (405, 43, 0), (413, 0, 1), (416, 0, 0), (415, 0, (-1)), (411, 0, 0), (410, 0, (-1)), (409, 0, 2), (405, 6, 1), (405, 0, 0), (7, 2, 0), (7, 1, 0), (40, 8, 2), (5, 2, 0), (41, 19, 0), (41, 19, 0), (41, 15, 1), (41, 4, 2), (41, 16, (-1)), (37, 2, 2), (38, 1, 13), (41, 16, 13), (41, 7, 1), (41, 5, 1), (5, 2, 1), (41, 19, 0), (41, 18, (-1)), (41, 16, (-1)), (41, 15, 0), (41, 14, 0), (41, 13, 0), (41, 12, 0), (41, 10, (-1)), (41, 9, (-1)), (41, 8, 0), (41, 7, 0), (41, 6, ((x2.toInt64).toInt32)), (41, 5, 0), (41, 4, 1), (44, 1, 0), (42, 1, 0), (37, 2, 1), (38, 0, 0), (40, 5, 0), (40, 4, (-1)), (0, 7, 1)] [(417, 1, ((10 * (((x2.toInt64).toInt32).toInt64)) + 1)), (417, 0, (x2.toInt64)), (431, 0, 0), (39, 1, ((10 * (((x2.toInt64).toInt32).toInt64)) + 1)), (41, 17, ((10 * (((x2.toInt64).toInt32).toInt64)) + 1)), (41, 17, 0), (41, 11, 0), (39, 0, (x2.toInt64))] [(6, 0, (some (b + 40))), (41, 3, (some (b + 37))), (41, 2, (some (b + 17))), (40, 3, (some (b + 17)))])) (hu.2.trans ap_ap) ?_
  show zx p l e _ s m _ below meth c g 8 _ _ _ _ 391 [(5, .int 0), (4, .int 0), (3, .ref (b + 431)), (2, .ref (b + 405)), (1, .ref (b + 0)), (0, .ref bS)] _
  refine z_seti (y := 0) hu.1 ?_
  refine z_istore (lv' := [(6, .int 0), (5, .int 0), (4, .int 0), (3, .ref (b + 431)), (2, .ref (b + 405)), (1, .ref (b + 0)), (0, .ref bS)]) B dL_law_391 (by decide) rfl ?_
  refine z_aload_n B dL_law_393 rfl 4 rfl ?_
  refine z_cVi (As := []) (rest := []) B cw_L_80 cx_10 dL_law_394 (ci_X9_thrown_95 l (σ := (ap b σ [(412, 0, 1), (414, 0, 2), (405, 26, 1), (405, 37, 1), (405, 27, 2), (413, 0, 2), (416, 1, 13), (405, 28, 1), (405, 38, 1), (405, 48, (-1)), (405, 27, 1), (405, 29, ((x2.toInt64).toInt32)), (405, 26, 1), (405, 47, 1), (405, 39, 0), (405, 38, 0), (405, 37, 0), (405, 36, 0), (405, 35, 0), (405, 34, 0), (405, 32, 0), (405, 31, 0), (405, 30, 0), (405, 29, 0), (405, 28, 0), (405, 27, 0), (405, 26, 1), (428, 0, 0), (405, 45, 0), (405, 43, 0), (413, 0, 1), (416, 0, 0), (415, 0, (-1)), (411, 0, 0), (410, 0, (-1)), (409, 0, 2), (405, 6, 1), (405, 0, 0), (7, 2, 0), (7, 1, 0), (40, 8, 2), (5, 2, 0), (41, 19, 0), (41, 19, 0), (41, 15, 1), (41, 4, 2), (41, 16, (-1)), (37, 2, 2), (38, 1, 13), (41, 16, 13), (41, 7, 1), (41, 5, 1), (5, 2, 1), (41, 19, 0), (41, 18, (-1)), (41, 16, (-1)), (41, 15, 0), (41, 14, 0), (41, 13, 0), (41, 12, 0), (41, 10, (-1)), (41, 9, (-1)), (41, 8, 0), (41, 7, 0), (41, 6, ((x2.toInt64).toInt32)), (41, 5, 0), (41, 4, 1), (44, 1, 0), (42, 1, 0), (37, 2, 1), (38, 0, 0), (40, 5, 0), (40, 4, (-1)), (0, 7, 1)] [(417, 1, ((10 * (((x2.toInt64).toInt32).toInt64)) + 1)), (417, 0, (x2.toInt64)), (431, 0, 0), (39, 1, ((10 * (((x2.toInt64).toInt32).toInt64)) + 1)), (41, 17, ((10 * (((x2.toInt64).toInt32).toInt64)) + 1)), (41, 17, 0), (41, 11, 0), (39, 0, (x2.toInt64))] [(6, 0, (some (b + 40))), (41, 3, (some (b + 37))), (41, 2, (some (b + 17))), (40, 3, (some (b + 17)))])) (b := b) (lyA hK) (rI_at 405 0 rfl)) (lKA (hk_K hK 405 rfl rfl)) rfl (by decide) rfl (Nat.le_of_ble_eq_true rfl) (by decide) (fun r u hu => ?_)
  refine z_eqs (σ' := (ap b σ [(412, 0, 1), (414, 0, 2), (405, 26, 1), (405, 37, 1), (405, 27, 2), (413, 0, 2), (416, 1, 13), (405, 28, 1), (405, 38, 1), (405, 48, (-1)), (405, 27, 1), (405, 29, ((x2.toInt64).toInt32)), (405, 26, 1), (405, 47, 1), (405, 39, 0), (405, 38, 0), (405, 37, 0), (405, 36, 0), (405, 35, 0), (405, 34, 0), (405, 32, 0), (405, 31, 0), (405, 30, 0), (405, 29, 0), (405, 28, 0), (405, 27, 0), (405, 26, 1), (428, 0, 0), (405, 45, 0), (405, 43, 0), (413, 0, 1), (416, 0, 0), (415, 0, (-1)), (411, 0, 0), (410, 0, (-1)), (409, 0, 2), (405, 6, 1), (405, 0, 0), (7, 2, 0), (7, 1, 0), (40, 8, 2), (5, 2, 0), (41, 19, 0), (41, 19, 0), (41, 15, 1), (41, 4, 2), (41, 16, (-1)), (37, 2, 2), (38, 1, 13), (41, 16, 13), (41, 7, 1), (41, 5, 1), (5, 2, 1), (41, 19, 0), (41, 18, (-1)), (41, 16, (-1)), (41, 15, 0), (41, 14, 0), (41, 13, 0), (41, 12, 0), (41, 10, (-1)), (41, 9, (-1)), (41, 8, 0), (41, 7, 0), (41, 6, ((x2.toInt64).toInt32)), (41, 5, 0), (41, 4, 1), (44, 1, 0), (42, 1, 0), (37, 2, 1), (38, 0, 0), (40, 5, 0), (40, 4, (-1)), (0, 7, 1)] [(417, 1, ((10 * (((x2.toInt64).toInt32).toInt64)) + 1)), (417, 0, (x2.toInt64)), (431, 0, 0), (39, 1, ((10 * (((x2.toInt64).toInt32).toInt64)) + 1)), (41, 17, ((10 * (((x2.toInt64).toInt32).toInt64)) + 1)), (41, 17, 0), (41, 11, 0), (39, 0, (x2.toInt64))] [(6, 0, (some (b + 40))), (41, 3, (some (b + 37))), (41, 2, (some (b + 17))), (40, 3, (some (b + 17)))])) hu.2 ?_
  show zx p l e _ s m _ below meth c g 8 _ _ _ _ 397 [(6, .int 0), (5, .int 0), (4, .int 0), (3, .ref (b + 431)), (2, .ref (b + 405)), (1, .ref (b + 0)), (0, .ref bS)] _
  refine z_seti (y := 0) hu.1 ?_
  refine z_iload B dL_law_397 1 rfl ?_
  refine z_icmp_eq (tgt := 404) B dL_law_399 (by decide) (fun _ => ?_) (fun h => absurd (by decide) h)
  refine z_iload B dL_law_404 1 rfl ?_
  refine z_if_ne (tgt := 421) B dL_law_406 (by decide) (fun h => absurd (by decide) h) (fun _ => ?_)
  refine z_aload_n B dL_law_409 rfl 3 rfl ?_
  refine z_iconst (v := 0) B dL_law_410 (by decide) ?_
  refine z_lald (j := 0) (x := 0) B (lKA (hk_K hK 431 rfl rfl)) (by decide) (in_of (lNA (hk_N hK 431 rfl rfl)) (show ¬ ((0 : Int32) < 0 ∨ 1 ≤ (0 : Int32).toNatClampNeg) by decide)) (rJ_at 431 0 rfl) dL_law_411 ?_
  refine z_iload B dL_law_412 0 rfl ?_
  refine z_i2l (v := 0) B dL_law_414 (by decide) ?_
  refine z_lcmp (v := 0) B dL_law_415 (by decide) ?_
  refine z_if_eq (tgt := 421) B dL_law_416 (by decide) (fun _ => ?_) (fun h => absurd (by decide) h)
  refine z_goto (tgt := 1395) B dL_law_421 (by decide) ?_
  exact z_widen (Nat.le_of_ble_eq_true rfl) (Nat.le_of_ble_eq_true rfl) (z_sub _ [2, 6] rfl (kk _))
set_option maxRecDepth 100000 in
set_option maxHeartbeats 4000000 in
theorem lf_2_293 {p : Program} {l : Launch} {e : Env} {s : State} {m : MethodId} {args : Array Value} {below : List Frame} {meth : Method} {c : Code} {g : gx_T} {Q : State → Prop} {σ : sx_T} {b t bS : Nat} {xs : Nat → Int32} (hlt : l.stackTraces = false) (B : zx_B p s m args meth c code RL 8 g) (hX : va_X bS 6 xs s s.heap) (hbl : bS < s.heap.size) (hbA : ¬ gx_b g ≤ bS) (hF : fz_P b t σ) (h_x1 : xs 1 = 2) {x2 : Int32} (h_x2 : xs 2 = x2) (q1_x2 : (0 : Int) ≤ x2.toInt) (q2_x2 : x2.toInt ≤ (999 : Int)) (kk : ∀ σ', zx p l e room_1 s m args below meth c g 8 600002 7302232 Q σ' 1395 [(4, .int 0), (0, .ref bS)] []) : zx p l e room_1 s m args below meth c g 8 500 100000 Q σ 356 [(4, .int 0), (3, .ref (b + 431)), (2, .ref (b + 405)), (1, .ref (b + 0)), (0, .ref bS)] [] := by
  have hK := fz_lay hF
  refine z_eqs (σ' := (ap b σ [] [] [])) rfl ?_
  refine z_aload_n B dL_law_356 rfl 3 rfl ?_
  refine z_aload_n B dL_law_357 rfl 4 rfl ?_
  refine z_iload B dL_law_358 0 rfl ?_
  refine z_iconst (v := 1) B dL_law_360 (by decide) ?_
  refine z_iadd B dL_law_361 ?_
  refine z_seti (y := 1) (by decide) ?_
  refine z_sld (j := 1) (x := 2) B hX hbl hbA (by decide) (show ¬ ((1 : Int32) < 0 ∨ 6 ≤ (1 : Int32).toNatClampNeg) by decide) h_x1 dL_law_362 ?_
  refine z_aload_n B dL_law_363 rfl 4 rfl ?_
  refine z_iload B dL_law_364 0 rfl ?_
  refine z_iconst (v := 2) B dL_law_366 (by decide) ?_
  refine z_iadd B dL_law_367 ?_
  refine z_seti (y := 2) (by decide) ?_
  refine z_sld (j := 2) (x := x2) B hX hbl hbA (by decide) (show ¬ ((2 : Int32) < 0 ∨ 6 ≤ (2 : Int32).toNatClampNeg) by decide) h_x2 dL_law_368 ?_
  refine z_aload_n B dL_law_369 rfl 1 rfl ?_
  refine z_cSWi (As := [.ref (b + 0), .int 2, .int x2, .ref (b + 431)]) (rest := []) B cw_L_87 dL_law_370 (ci_L_start_773 l (σ := (ap b σ [] [] [])) (b := b) (lyA hK) x2 q1_x2 q2_x2 (rI_at 0 7 (fz_I hF 0 7 rfl rfl)) (rI_at 5 1 (fz_I hF 5 1 rfl rfl)) (rI_at 5 2 (fz_I hF 5 2 rfl rfl)) (rI_at 7 1 (fz_I hF 7 1 rfl rfl)) (rI_at 7 2 (fz_I hF 7 2 rfl rfl)) (rI_at 18 0 (fz_I hF 18 0 rfl rfl)) (rI_at 19 0 (fz_I hF 19 0 rfl rfl)) (rI_at 20 0 (fz_I hF 20 0 rfl rfl)) (rI_at 37 2 (fz_I hF 37 2 rfl rfl)) (rI_at 40 0 (fz_I hF 40 0 rfl rfl)) (rI_at 40 8 (fz_I hF 40 8 rfl rfl)) (rR_at 0 0 (fz_R hF 0 0 rfl rfl)) (rR_at 0 2 (fz_R hF 0 2 rfl rfl)) (rR_at 0 4 (fz_R hF 0 4 rfl rfl)) (rR_at 0 5 (fz_R hF 0 5 rfl rfl)) (rR_at 1 2 (fz_R hF 1 2 rfl rfl)) (rR_at 3 0 (fz_R hF 3 0 rfl rfl)) (rR_at 5 0 (fz_R hF 5 0 rfl rfl)) (rR_at 17 1 (fz_R hF 17 1 rfl rfl)) (rR_at 17 2 (fz_R hF 17 2 rfl rfl)) (rR_at 17 3 (fz_R hF 17 3 rfl rfl)) (rR_at 37 0 (fz_R hF 37 0 rfl rfl)) (rR_at 37 1 (fz_R hF 37 1 rfl rfl)) (rR_at 40 1 (fz_R hF 40 1 rfl rfl)) (rR_at 40 2 (fz_R hF 40 2 rfl rfl)) (rR_at 40 7 (fz_R hF 40 7 rfl rfl)) (rR_at 41 0 (fz_R hF 41 0 rfl rfl)) (rR_at 41 1 (fz_R hF 41 1 rfl rfl))) rfl (by decide) rfl (Nat.le_of_ble_eq_true rfl) (by decide) (fun r u hu => ?_)
  refine z_eqs (σ' := (ap b σ [(7, 2, 0), (7, 1, 0), (40, 8, 2), (5, 2, 0), (41, 19, 0), (41, 19, 0), (41, 15, 1), (41, 4, 2), (41, 16, (-1)), (37, 2, 2), (38, 1, 13), (41, 16, 13), (41, 7, 1), (41, 5, 1), (5, 2, 1), (41, 19, 0), (41, 18, (-1)), (41, 16, (-1)), (41, 15, 0), (41, 14, 0), (41, 13, 0), (41, 12, 0), (41, 10, (-1)), (41, 9, (-1)), (41, 8, 0), (41, 7, 0), (41, 6, ((x2.toInt64).toInt32)), (41, 5, 0), (41, 4, 1), (44, 1, 0), (42, 1, 0), (37, 2, 1), (38, 0, 0), (40, 5, 0), (40, 4, (-1)), (0, 7, 1)] [(431, 0, 0), (39, 1, ((10 * (((x2.toInt64).toInt32).toInt64)) + 1)), (41, 17, ((10 * (((x2.toInt64).toInt32).toInt64)) + 1)), (41, 17, 0), (41, 11, 0), (39, 0, (x2.toInt64))] [(6, 0, (some (b + 40))), (41, 3, (some (b + 37))), (41, 2, (some (b + 17))), (40, 3, (some (b + 17)))])) (hu.2.trans ap_ap) ?_
  show zx p l e _ s m _ below meth c g 8 _ _ _ _ 373 [(4, .int 0), (3, .ref (b + 431)), (2, .ref (b + 405)), (1, .ref (b + 0)), (0, .ref bS)] _
  refine z_seti (y := 0) hu.1 ?_
  refine z_istore (lv' := [(5, .int 0), (4, .int 0), (3, .ref (b + 431)), (2, .ref (b + 405)), (1, .ref (b + 0)), (0, .ref bS)]) B dL_law_373 (by decide) rfl ?_
  refine z_aload_n B dL_law_375 rfl 3 rfl ?_
  refine z_aload_n B dL_law_376 rfl 5 rfl ?_
  refine z_iload B dL_law_377 1 rfl ?_
  refine z_iconst (v := 1) B dL_law_379 (by decide) ?_
  refine z_iadd B dL_law_380 ?_
  refine z_seti (y := 1) (by decide) ?_
  refine z_sld (j := 1) (x := 2) B hX hbl hbA (by decide) (show ¬ ((1 : Int32) < 0 ∨ 6 ≤ (1 : Int32).toNatClampNeg) by decide) h_x1 dL_law_381 ?_
  refine z_aload_n B dL_law_382 rfl 5 rfl ?_
  refine z_iload B dL_law_383 1 rfl ?_
  refine z_iconst (v := 2) B dL_law_385 (by decide) ?_
  refine z_iadd B dL_law_386 ?_
  refine z_seti (y := 2) (by decide) ?_
  refine z_sld (j := 2) (x := x2) B hX hbl hbA (by decide) (show ¬ ((2 : Int32) < 0 ∨ 6 ≤ (2 : Int32).toNatClampNeg) by decide) h_x2 dL_law_387 ?_
  refine z_cVi (As := [.int 2, .int x2]) (rest := []) B cw_L_90 cx_10 dL_law_388 (ci_X9_start_774 l (σ := (ap b σ [(7, 2, 0), (7, 1, 0), (40, 8, 2), (5, 2, 0), (41, 19, 0), (41, 19, 0), (41, 15, 1), (41, 4, 2), (41, 16, (-1)), (37, 2, 2), (38, 1, 13), (41, 16, 13), (41, 7, 1), (41, 5, 1), (5, 2, 1), (41, 19, 0), (41, 18, (-1)), (41, 16, (-1)), (41, 15, 0), (41, 14, 0), (41, 13, 0), (41, 12, 0), (41, 10, (-1)), (41, 9, (-1)), (41, 8, 0), (41, 7, 0), (41, 6, ((x2.toInt64).toInt32)), (41, 5, 0), (41, 4, 1), (44, 1, 0), (42, 1, 0), (37, 2, 1), (38, 0, 0), (40, 5, 0), (40, 4, (-1)), (0, 7, 1)] [(431, 0, 0), (39, 1, ((10 * (((x2.toInt64).toInt32).toInt64)) + 1)), (41, 17, ((10 * (((x2.toInt64).toInt32).toInt64)) + 1)), (41, 17, 0), (41, 11, 0), (39, 0, (x2.toInt64))] [(6, 0, (some (b + 40))), (41, 3, (some (b + 37))), (41, 2, (some (b + 17))), (40, 3, (some (b + 17)))])) (b := b) (lyA hK) x2 q1_x2 q2_x2 (rI_at 405 6 (fz_I hF 405 6 rfl rfl)) (rI_at 405 16 (fz_I hF 405 16 rfl rfl)) (rI_at 406 40 (fz_I hF 406 40 rfl rfl)) (rI_at 407 40 (fz_I hF 407 40 rfl rfl)) (rI_at 412 0 (fz_I hF 412 0 rfl rfl)) (rI_at 413 0 (fz_I hF 413 0 rfl rfl)) (rR_at 405 3 (fz_R hF 405 3 rfl rfl)) (rR_at 405 4 (fz_R hF 405 4 rfl rfl)) (rR_at 405 7 (fz_R hF 405 7 rfl rfl)) (rR_at 405 8 (fz_R hF 405 8 rfl rfl)) (rR_at 405 9 (fz_R hF 405 9 rfl rfl)) (rR_at 405 10 (fz_R hF 405 10 rfl rfl)) (rR_at 405 11 (fz_R hF 405 11 rfl rfl)) (rR_at 405 12 (fz_R hF 405 12 rfl rfl)) (rR_at 405 13 (fz_R hF 405 13 rfl rfl)) (rR_at 405 14 (fz_R hF 405 14 rfl rfl)) (rR_at 405 15 (fz_R hF 405 15 rfl rfl)) (rR_at 405 42 (fz_R hF 405 42 rfl rfl))) (lKA (hk_K hK 405 rfl rfl)) rfl (by decide) rfl (Nat.le_of_ble_eq_true rfl) (by decide) (fun r u hu => ?_)
  refine z_eqs (σ' := (ap b σ [(412, 0, 1), (414, 0, 2), (405, 26, 1), (405, 37, 1), (405, 27, 2), (413, 0, 2), (416, 1, 13), (405, 28, 1), (405, 38, 1), (405, 48, (-1)), (405, 27, 1), (405, 29, ((x2.toInt64).toInt32)), (405, 26, 1), (405, 47, 1), (405, 39, 0), (405, 38, 0), (405, 37, 0), (405, 36, 0), (405, 35, 0), (405, 34, 0), (405, 32, 0), (405, 31, 0), (405, 30, 0), (405, 29, 0), (405, 28, 0), (405, 27, 0), (405, 26, 1), (428, 0, 0), (405, 45, 0), (405, 43, 0), (413, 0, 1), (416, 0, 0), (415, 0, (-1)), (411, 0, 0), (410, 0, (-1)), (409, 0, 2), (405, 6, 1), (405, 0, 0), (7, 2, 0), (7, 1, 0), (40, 8, 2), (5, 2, 0), (41, 19, 0), (41, 19, 0), (41, 15, 1), (41, 4, 2), (41, 16, (-1)), (37, 2, 2), (38, 1, 13), (41, 16, 13), (41, 7, 1), (41, 5, 1), (5, 2, 1), (41, 19, 0), (41, 18, (-1)), (41, 16, (-1)), (41, 15, 0), (41, 14, 0), (41, 13, 0), (41, 12, 0), (41, 10, (-1)), (41, 9, (-1)), (41, 8, 0), (41, 7, 0), (41, 6, ((x2.toInt64).toInt32)), (41, 5, 0), (41, 4, 1), (44, 1, 0), (42, 1, 0), (37, 2, 1), (38, 0, 0), (40, 5, 0), (40, 4, (-1)), (0, 7, 1)] [(417, 1, ((10 * (((x2.toInt64).toInt32).toInt64)) + 1)), (417, 0, (x2.toInt64)), (431, 0, 0), (39, 1, ((10 * (((x2.toInt64).toInt32).toInt64)) + 1)), (41, 17, ((10 * (((x2.toInt64).toInt32).toInt64)) + 1)), (41, 17, 0), (41, 11, 0), (39, 0, (x2.toInt64))] [(6, 0, (some (b + 40))), (41, 3, (some (b + 37))), (41, 2, (some (b + 17))), (40, 3, (some (b + 17)))])) (hu.2.trans ap_ap) ?_
  show zx p l e _ s m _ below meth c g 8 _ _ _ _ 391 [(5, .int 0), (4, .int 0), (3, .ref (b + 431)), (2, .ref (b + 405)), (1, .ref (b + 0)), (0, .ref bS)] _
  refine z_seti (y := 0) hu.1 ?_
  refine z_istore (lv' := [(6, .int 0), (5, .int 0), (4, .int 0), (3, .ref (b + 431)), (2, .ref (b + 405)), (1, .ref (b + 0)), (0, .ref bS)]) B dL_law_391 (by decide) rfl ?_
  refine z_aload_n B dL_law_393 rfl 4 rfl ?_
  refine z_cVi (As := []) (rest := []) B cw_L_80 cx_10 dL_law_394 (ci_X9_thrown_95 l (σ := (ap b σ [(412, 0, 1), (414, 0, 2), (405, 26, 1), (405, 37, 1), (405, 27, 2), (413, 0, 2), (416, 1, 13), (405, 28, 1), (405, 38, 1), (405, 48, (-1)), (405, 27, 1), (405, 29, ((x2.toInt64).toInt32)), (405, 26, 1), (405, 47, 1), (405, 39, 0), (405, 38, 0), (405, 37, 0), (405, 36, 0), (405, 35, 0), (405, 34, 0), (405, 32, 0), (405, 31, 0), (405, 30, 0), (405, 29, 0), (405, 28, 0), (405, 27, 0), (405, 26, 1), (428, 0, 0), (405, 45, 0), (405, 43, 0), (413, 0, 1), (416, 0, 0), (415, 0, (-1)), (411, 0, 0), (410, 0, (-1)), (409, 0, 2), (405, 6, 1), (405, 0, 0), (7, 2, 0), (7, 1, 0), (40, 8, 2), (5, 2, 0), (41, 19, 0), (41, 19, 0), (41, 15, 1), (41, 4, 2), (41, 16, (-1)), (37, 2, 2), (38, 1, 13), (41, 16, 13), (41, 7, 1), (41, 5, 1), (5, 2, 1), (41, 19, 0), (41, 18, (-1)), (41, 16, (-1)), (41, 15, 0), (41, 14, 0), (41, 13, 0), (41, 12, 0), (41, 10, (-1)), (41, 9, (-1)), (41, 8, 0), (41, 7, 0), (41, 6, ((x2.toInt64).toInt32)), (41, 5, 0), (41, 4, 1), (44, 1, 0), (42, 1, 0), (37, 2, 1), (38, 0, 0), (40, 5, 0), (40, 4, (-1)), (0, 7, 1)] [(417, 1, ((10 * (((x2.toInt64).toInt32).toInt64)) + 1)), (417, 0, (x2.toInt64)), (431, 0, 0), (39, 1, ((10 * (((x2.toInt64).toInt32).toInt64)) + 1)), (41, 17, ((10 * (((x2.toInt64).toInt32).toInt64)) + 1)), (41, 17, 0), (41, 11, 0), (39, 0, (x2.toInt64))] [(6, 0, (some (b + 40))), (41, 3, (some (b + 37))), (41, 2, (some (b + 17))), (40, 3, (some (b + 17)))])) (b := b) (lyA hK) (rI_at 405 0 rfl)) (lKA (hk_K hK 405 rfl rfl)) rfl (by decide) rfl (Nat.le_of_ble_eq_true rfl) (by decide) (fun r u hu => ?_)
  refine z_eqs (σ' := (ap b σ [(412, 0, 1), (414, 0, 2), (405, 26, 1), (405, 37, 1), (405, 27, 2), (413, 0, 2), (416, 1, 13), (405, 28, 1), (405, 38, 1), (405, 48, (-1)), (405, 27, 1), (405, 29, ((x2.toInt64).toInt32)), (405, 26, 1), (405, 47, 1), (405, 39, 0), (405, 38, 0), (405, 37, 0), (405, 36, 0), (405, 35, 0), (405, 34, 0), (405, 32, 0), (405, 31, 0), (405, 30, 0), (405, 29, 0), (405, 28, 0), (405, 27, 0), (405, 26, 1), (428, 0, 0), (405, 45, 0), (405, 43, 0), (413, 0, 1), (416, 0, 0), (415, 0, (-1)), (411, 0, 0), (410, 0, (-1)), (409, 0, 2), (405, 6, 1), (405, 0, 0), (7, 2, 0), (7, 1, 0), (40, 8, 2), (5, 2, 0), (41, 19, 0), (41, 19, 0), (41, 15, 1), (41, 4, 2), (41, 16, (-1)), (37, 2, 2), (38, 1, 13), (41, 16, 13), (41, 7, 1), (41, 5, 1), (5, 2, 1), (41, 19, 0), (41, 18, (-1)), (41, 16, (-1)), (41, 15, 0), (41, 14, 0), (41, 13, 0), (41, 12, 0), (41, 10, (-1)), (41, 9, (-1)), (41, 8, 0), (41, 7, 0), (41, 6, ((x2.toInt64).toInt32)), (41, 5, 0), (41, 4, 1), (44, 1, 0), (42, 1, 0), (37, 2, 1), (38, 0, 0), (40, 5, 0), (40, 4, (-1)), (0, 7, 1)] [(417, 1, ((10 * (((x2.toInt64).toInt32).toInt64)) + 1)), (417, 0, (x2.toInt64)), (431, 0, 0), (39, 1, ((10 * (((x2.toInt64).toInt32).toInt64)) + 1)), (41, 17, ((10 * (((x2.toInt64).toInt32).toInt64)) + 1)), (41, 17, 0), (41, 11, 0), (39, 0, (x2.toInt64))] [(6, 0, (some (b + 40))), (41, 3, (some (b + 37))), (41, 2, (some (b + 17))), (40, 3, (some (b + 17)))])) hu.2 ?_
  show zx p l e _ s m _ below meth c g 8 _ _ _ _ 397 [(6, .int 0), (5, .int 0), (4, .int 0), (3, .ref (b + 431)), (2, .ref (b + 405)), (1, .ref (b + 0)), (0, .ref bS)] _
  refine z_seti (y := 0) hu.1 ?_
  refine z_iload B dL_law_397 1 rfl ?_
  refine z_icmp_eq (tgt := 404) B dL_law_399 (by decide) (fun _ => ?_) (fun h => absurd (by decide) h)
  refine z_iload B dL_law_404 1 rfl ?_
  refine z_if_ne (tgt := 421) B dL_law_406 (by decide) (fun h => absurd (by decide) h) (fun _ => ?_)
  refine z_aload_n B dL_law_409 rfl 3 rfl ?_
  refine z_iconst (v := 0) B dL_law_410 (by decide) ?_
  refine z_lald (j := 0) (x := 0) B (lKA (hk_K hK 431 rfl rfl)) (by decide) (in_of (lNA (hk_N hK 431 rfl rfl)) (show ¬ ((0 : Int32) < 0 ∨ 1 ≤ (0 : Int32).toNatClampNeg) by decide)) (rJ_at 431 0 rfl) dL_law_411 ?_
  refine z_iload B dL_law_412 0 rfl ?_
  refine z_i2l (v := 0) B dL_law_414 (by decide) ?_
  refine z_lcmp (v := 0) B dL_law_415 (by decide) ?_
  refine z_if_eq (tgt := 421) B dL_law_416 (by decide) (fun _ => ?_) (fun h => absurd (by decide) h)
  refine z_goto (tgt := 1395) B dL_law_421 (by decide) ?_
  exact z_widen (Nat.le_of_ble_eq_true rfl) (Nat.le_of_ble_eq_true rfl) (z_sub _ [2, 6] rfl (kk _))
set_option maxRecDepth 100000 in
set_option maxHeartbeats 4000000 in
theorem lf_2_294 {p : Program} {l : Launch} {e : Env} {s : State} {m : MethodId} {args : Array Value} {below : List Frame} {meth : Method} {c : Code} {g : gx_T} {Q : State → Prop} {σ : sx_T} {b t bS : Nat} {xs : Nat → Int32} (hlt : l.stackTraces = false) (B : zx_B p s m args meth c code RL 8 g) (hX : va_X bS 6 xs s s.heap) (hbl : bS < s.heap.size) (hbA : ¬ gx_b g ≤ bS) (hF : fz_P b t σ) (h_x1 : xs 1 = 2) {x2 : Int32} (h_x2 : xs 2 = x2) (q1_x2 : (1000 : Int) ≤ x2.toInt) (q2_x2 : x2.toInt ≤ (2147483647 : Int)) (kk : ∀ σ', zx p l e room_1 s m args below meth c g 8 600002 7302232 Q σ' 1395 [(4, .int 0), (0, .ref bS)] []) : zx p l e room_1 s m args below meth c g 8 500 100000 Q σ 356 [(4, .int 0), (3, .ref (b + 431)), (2, .ref (b + 405)), (1, .ref (b + 0)), (0, .ref bS)] [] := by
  have hK := fz_lay hF
  refine z_eqs (σ' := (ap b σ [] [] [])) rfl ?_
  refine z_aload_n B dL_law_356 rfl 3 rfl ?_
  refine z_aload_n B dL_law_357 rfl 4 rfl ?_
  refine z_iload B dL_law_358 0 rfl ?_
  refine z_iconst (v := 1) B dL_law_360 (by decide) ?_
  refine z_iadd B dL_law_361 ?_
  refine z_seti (y := 1) (by decide) ?_
  refine z_sld (j := 1) (x := 2) B hX hbl hbA (by decide) (show ¬ ((1 : Int32) < 0 ∨ 6 ≤ (1 : Int32).toNatClampNeg) by decide) h_x1 dL_law_362 ?_
  refine z_aload_n B dL_law_363 rfl 4 rfl ?_
  refine z_iload B dL_law_364 0 rfl ?_
  refine z_iconst (v := 2) B dL_law_366 (by decide) ?_
  refine z_iadd B dL_law_367 ?_
  refine z_seti (y := 2) (by decide) ?_
  refine z_sld (j := 2) (x := x2) B hX hbl hbA (by decide) (show ¬ ((2 : Int32) < 0 ∨ 6 ≤ (2 : Int32).toNatClampNeg) by decide) h_x2 dL_law_368 ?_
  refine z_aload_n B dL_law_369 rfl 1 rfl ?_
  refine z_cSWi (As := [.ref (b + 0), .int 2, .int x2, .ref (b + 431)]) (rest := []) B cw_L_87 dL_law_370 (ci_L_start_776 l hlt (σ := (ap b σ [] [] [])) (b := b) (lyA hK) x2 q1_x2 q2_x2 (rR_at 0 0 (fz_R hF 0 0 rfl rfl)) (rR_at 1 2 (fz_R hF 1 2 rfl rfl))) rfl (by decide) rfl (Nat.le_of_ble_eq_true rfl) (by decide) (fun r u hu => ?_)
  obtain ⟨hu1, z, hu⟩ := hu
  refine z_eqs (σ' := (ap b (wx_Z σ z) [] [] [])) (hu.trans az_ap) ?_
  show zx p l e _ s m _ below meth c g 8 _ _ _ _ 373 [(4, .int 0), (3, .ref (b + 431)), (2, .ref (b + 405)), (1, .ref (b + 0)), (0, .ref bS)] _
  refine z_seti (y := 2) hu1 ?_
  refine z_istore (lv' := [(5, .int 2), (4, .int 0), (3, .ref (b + 431)), (2, .ref (b + 405)), (1, .ref (b + 0)), (0, .ref bS)]) B dL_law_373 (by decide) rfl ?_
  refine z_aload_n B dL_law_375 rfl 3 rfl ?_
  refine z_aload_n B dL_law_376 rfl 5 rfl ?_
  refine z_iload B dL_law_377 1 rfl ?_
  refine z_iconst (v := 1) B dL_law_379 (by decide) ?_
  refine z_iadd B dL_law_380 ?_
  refine z_seti (y := 1) (by decide) ?_
  refine z_sld (j := 1) (x := 2) B hX hbl hbA (by decide) (show ¬ ((1 : Int32) < 0 ∨ 6 ≤ (1 : Int32).toNatClampNeg) by decide) h_x1 dL_law_381 ?_
  refine z_aload_n B dL_law_382 rfl 5 rfl ?_
  refine z_iload B dL_law_383 1 rfl ?_
  refine z_iconst (v := 2) B dL_law_385 (by decide) ?_
  refine z_iadd B dL_law_386 ?_
  refine z_seti (y := 2) (by decide) ?_
  refine z_sld (j := 2) (x := x2) B hX hbl hbA (by decide) (show ¬ ((2 : Int32) < 0 ∨ 6 ≤ (2 : Int32).toNatClampNeg) by decide) h_x2 dL_law_387 ?_
  refine z_cVi (As := [.int 2, .int x2]) (rest := []) B cw_L_90 cx_10 dL_law_388 (ci_X9_start_777 l (σ := (ap b (wx_Z σ z) [] [] [])) (b := b) (lyA (lyZ hK)) x2 q1_x2 q2_x2 (rI_at 405 6 (lIZ (fz_I hF 405 6 rfl rfl)))) (lKA (lKZ (hk_K hK 405 rfl rfl))) rfl (by decide) rfl (Nat.le_of_ble_eq_true rfl) (by decide) (fun r u hu => ?_)
  refine z_eqs (σ' := (ap b (wx_Z σ z) [(405, 0, 2)] [] [])) (hu.2.trans ap_ap) ?_
  show zx p l e _ s m _ below meth c g 8 _ _ _ _ 391 [(5, .int 2), (4, .int 0), (3, .ref (b + 431)), (2, .ref (b + 405)), (1, .ref (b + 0)), (0, .ref bS)] _
  refine z_seti (y := 0) hu.1 ?_
  refine z_istore (lv' := [(6, .int 0), (5, .int 2), (4, .int 0), (3, .ref (b + 431)), (2, .ref (b + 405)), (1, .ref (b + 0)), (0, .ref bS)]) B dL_law_391 (by decide) rfl ?_
  refine z_aload_n B dL_law_393 rfl 4 rfl ?_
  refine z_cVi (As := []) (rest := []) B cw_L_80 cx_10 dL_law_394 (ci_X9_thrown_73 l (σ := (ap b (wx_Z σ z) [(405, 0, 2)] [] [])) (b := b) (lyA (lyZ hK)) (rI_at 405 0 rfl)) (lKA (lKZ (hk_K hK 405 rfl rfl))) rfl (by decide) rfl (Nat.le_of_ble_eq_true rfl) (by decide) (fun r u hu => ?_)
  refine z_eqs (σ' := (ap b (wx_Z σ z) [(405, 0, 2)] [] [])) hu.2 ?_
  show zx p l e _ s m _ below meth c g 8 _ _ _ _ 397 [(6, .int 0), (5, .int 2), (4, .int 0), (3, .ref (b + 431)), (2, .ref (b + 405)), (1, .ref (b + 0)), (0, .ref bS)] _
  refine z_seti (y := 2) hu.1 ?_
  refine z_iload B dL_law_397 1 rfl ?_
  refine z_icmp_eq (tgt := 404) B dL_law_399 (by decide) (fun _ => ?_) (fun h => absurd (by decide) h)
  refine z_iload B dL_law_404 1 rfl ?_
  refine z_if_ne (tgt := 421) B dL_law_406 (by decide) (fun _ => ?_) (fun h => absurd h (by decide))
  refine z_goto (tgt := 1395) B dL_law_421 (by decide) ?_
  exact z_widen (Nat.le_of_ble_eq_true rfl) (Nat.le_of_ble_eq_true rfl) (z_sub _ [2, 6] rfl (kk _))
set_option maxRecDepth 100000 in
set_option maxHeartbeats 4000000 in
theorem lf_2_295 {p : Program} {l : Launch} {e : Env} {s : State} {m : MethodId} {args : Array Value} {below : List Frame} {meth : Method} {c : Code} {g : gx_T} {Q : State → Prop} {σ : sx_T} {b t bS : Nat} {xs : Nat → Int32} (hlt : l.stackTraces = false) (B : zx_B p s m args meth c code RL 8 g) (hX : va_X bS 6 xs s s.heap) (hbl : bS < s.heap.size) (hbA : ¬ gx_b g ≤ bS) (hF : fz_P b t σ) (h_x1 : xs 1 = 3) {x2 : Int32} (h_x2 : xs 2 = x2) (q1_x2 : (-2147483648 : Int) ≤ x2.toInt) (q2_x2 : x2.toInt ≤ (-1000 : Int)) (kk : ∀ σ', zx p l e room_1 s m args below meth c g 8 600002 7302232 Q σ' 1395 [(4, .int 0), (0, .ref bS)] []) : zx p l e room_1 s m args below meth c g 8 500 100000 Q σ 356 [(4, .int 0), (3, .ref (b + 431)), (2, .ref (b + 405)), (1, .ref (b + 0)), (0, .ref bS)] [] := by
  have hK := fz_lay hF
  refine z_eqs (σ' := (ap b σ [] [] [])) rfl ?_
  refine z_aload_n B dL_law_356 rfl 3 rfl ?_
  refine z_aload_n B dL_law_357 rfl 4 rfl ?_
  refine z_iload B dL_law_358 0 rfl ?_
  refine z_iconst (v := 1) B dL_law_360 (by decide) ?_
  refine z_iadd B dL_law_361 ?_
  refine z_seti (y := 1) (by decide) ?_
  refine z_sld (j := 1) (x := 3) B hX hbl hbA (by decide) (show ¬ ((1 : Int32) < 0 ∨ 6 ≤ (1 : Int32).toNatClampNeg) by decide) h_x1 dL_law_362 ?_
  refine z_aload_n B dL_law_363 rfl 4 rfl ?_
  refine z_iload B dL_law_364 0 rfl ?_
  refine z_iconst (v := 2) B dL_law_366 (by decide) ?_
  refine z_iadd B dL_law_367 ?_
  refine z_seti (y := 2) (by decide) ?_
  refine z_sld (j := 2) (x := x2) B hX hbl hbA (by decide) (show ¬ ((2 : Int32) < 0 ∨ 6 ≤ (2 : Int32).toNatClampNeg) by decide) h_x2 dL_law_368 ?_
  refine z_aload_n B dL_law_369 rfl 1 rfl ?_
  refine z_cSWi (As := [.ref (b + 0), .int 3, .int x2, .ref (b + 431)]) (rest := []) B cw_L_87 dL_law_370 (ci_L_start_779 l hlt (σ := (ap b σ [] [] [])) (b := b) (lyA hK) x2 q1_x2 q2_x2 (rR_at 0 0 (fz_R hF 0 0 rfl rfl)) (rR_at 1 3 (fz_R hF 1 3 rfl rfl))) rfl (by decide) rfl (Nat.le_of_ble_eq_true rfl) (by decide) (fun r u hu => ?_)
  obtain ⟨hu1, z, hu⟩ := hu
  refine z_eqs (σ' := (ap b (wx_Z σ z) [] [] [])) (hu.trans az_ap) ?_
  show zx p l e _ s m _ below meth c g 8 _ _ _ _ 373 [(4, .int 0), (3, .ref (b + 431)), (2, .ref (b + 405)), (1, .ref (b + 0)), (0, .ref bS)] _
  refine z_seti (y := 2) hu1 ?_
  refine z_istore (lv' := [(5, .int 2), (4, .int 0), (3, .ref (b + 431)), (2, .ref (b + 405)), (1, .ref (b + 0)), (0, .ref bS)]) B dL_law_373 (by decide) rfl ?_
  refine z_aload_n B dL_law_375 rfl 3 rfl ?_
  refine z_aload_n B dL_law_376 rfl 5 rfl ?_
  refine z_iload B dL_law_377 1 rfl ?_
  refine z_iconst (v := 1) B dL_law_379 (by decide) ?_
  refine z_iadd B dL_law_380 ?_
  refine z_seti (y := 1) (by decide) ?_
  refine z_sld (j := 1) (x := 3) B hX hbl hbA (by decide) (show ¬ ((1 : Int32) < 0 ∨ 6 ≤ (1 : Int32).toNatClampNeg) by decide) h_x1 dL_law_381 ?_
  refine z_aload_n B dL_law_382 rfl 5 rfl ?_
  refine z_iload B dL_law_383 1 rfl ?_
  refine z_iconst (v := 2) B dL_law_385 (by decide) ?_
  refine z_iadd B dL_law_386 ?_
  refine z_seti (y := 2) (by decide) ?_
  refine z_sld (j := 2) (x := x2) B hX hbl hbA (by decide) (show ¬ ((2 : Int32) < 0 ∨ 6 ≤ (2 : Int32).toNatClampNeg) by decide) h_x2 dL_law_387 ?_
  refine z_cVi (As := [.int 3, .int x2]) (rest := []) B cw_L_90 cx_10 dL_law_388 (ci_X9_start_780 l (σ := (ap b (wx_Z σ z) [] [] [])) (b := b) (lyA (lyZ hK)) x2 q1_x2 q2_x2 (rI_at 405 6 (lIZ (fz_I hF 405 6 rfl rfl)))) (lKA (lKZ (hk_K hK 405 rfl rfl))) rfl (by decide) rfl (Nat.le_of_ble_eq_true rfl) (by decide) (fun r u hu => ?_)
  refine z_eqs (σ' := (ap b (wx_Z σ z) [(405, 0, 2)] [] [])) (hu.2.trans ap_ap) ?_
  show zx p l e _ s m _ below meth c g 8 _ _ _ _ 391 [(5, .int 2), (4, .int 0), (3, .ref (b + 431)), (2, .ref (b + 405)), (1, .ref (b + 0)), (0, .ref bS)] _
  refine z_seti (y := 0) hu.1 ?_
  refine z_istore (lv' := [(6, .int 0), (5, .int 2), (4, .int 0), (3, .ref (b + 431)), (2, .ref (b + 405)), (1, .ref (b + 0)), (0, .ref bS)]) B dL_law_391 (by decide) rfl ?_
  refine z_aload_n B dL_law_393 rfl 4 rfl ?_
  refine z_cVi (As := []) (rest := []) B cw_L_80 cx_10 dL_law_394 (ci_X9_thrown_73 l (σ := (ap b (wx_Z σ z) [(405, 0, 2)] [] [])) (b := b) (lyA (lyZ hK)) (rI_at 405 0 rfl)) (lKA (lKZ (hk_K hK 405 rfl rfl))) rfl (by decide) rfl (Nat.le_of_ble_eq_true rfl) (by decide) (fun r u hu => ?_)
  refine z_eqs (σ' := (ap b (wx_Z σ z) [(405, 0, 2)] [] [])) hu.2 ?_
  show zx p l e _ s m _ below meth c g 8 _ _ _ _ 397 [(6, .int 0), (5, .int 2), (4, .int 0), (3, .ref (b + 431)), (2, .ref (b + 405)), (1, .ref (b + 0)), (0, .ref bS)] _
  refine z_seti (y := 2) hu.1 ?_
  refine z_iload B dL_law_397 1 rfl ?_
  refine z_icmp_eq (tgt := 404) B dL_law_399 (by decide) (fun _ => ?_) (fun h => absurd (by decide) h)
  refine z_iload B dL_law_404 1 rfl ?_
  refine z_if_ne (tgt := 421) B dL_law_406 (by decide) (fun _ => ?_) (fun h => absurd h (by decide))
  refine z_goto (tgt := 1395) B dL_law_421 (by decide) ?_
  exact z_widen (Nat.le_of_ble_eq_true rfl) (Nat.le_of_ble_eq_true rfl) (z_sub _ [2, 6] rfl (kk _))
set_option maxRecDepth 100000 in
set_option maxHeartbeats 4000000 in
theorem lf_2_296 {p : Program} {l : Launch} {e : Env} {s : State} {m : MethodId} {args : Array Value} {below : List Frame} {meth : Method} {c : Code} {g : gx_T} {Q : State → Prop} {σ : sx_T} {b t bS : Nat} {xs : Nat → Int32} (hlt : l.stackTraces = false) (B : zx_B p s m args meth c code RL 8 g) (hX : va_X bS 6 xs s s.heap) (hbl : bS < s.heap.size) (hbA : ¬ gx_b g ≤ bS) (hF : fz_P b t σ) (h_x1 : xs 1 = 3) {x2 : Int32} (h_x2 : xs 2 = x2) (q1_x2 : (-999 : Int) ≤ x2.toInt) (q2_x2 : x2.toInt ≤ (-1 : Int)) (kk : ∀ σ', zx p l e room_1 s m args below meth c g 8 600002 7302232 Q σ' 1395 [(4, .int 0), (0, .ref bS)] []) : zx p l e room_1 s m args below meth c g 8 500 100000 Q σ 356 [(4, .int 0), (3, .ref (b + 431)), (2, .ref (b + 405)), (1, .ref (b + 0)), (0, .ref bS)] [] := by
  have hK := fz_lay hF
  refine z_eqs (σ' := (ap b σ [] [] [])) rfl ?_
  refine z_aload_n B dL_law_356 rfl 3 rfl ?_
  refine z_aload_n B dL_law_357 rfl 4 rfl ?_
  refine z_iload B dL_law_358 0 rfl ?_
  refine z_iconst (v := 1) B dL_law_360 (by decide) ?_
  refine z_iadd B dL_law_361 ?_
  refine z_seti (y := 1) (by decide) ?_
  refine z_sld (j := 1) (x := 3) B hX hbl hbA (by decide) (show ¬ ((1 : Int32) < 0 ∨ 6 ≤ (1 : Int32).toNatClampNeg) by decide) h_x1 dL_law_362 ?_
  refine z_aload_n B dL_law_363 rfl 4 rfl ?_
  refine z_iload B dL_law_364 0 rfl ?_
  refine z_iconst (v := 2) B dL_law_366 (by decide) ?_
  refine z_iadd B dL_law_367 ?_
  refine z_seti (y := 2) (by decide) ?_
  refine z_sld (j := 2) (x := x2) B hX hbl hbA (by decide) (show ¬ ((2 : Int32) < 0 ∨ 6 ≤ (2 : Int32).toNatClampNeg) by decide) h_x2 dL_law_368 ?_
  refine z_aload_n B dL_law_369 rfl 1 rfl ?_
  refine z_cSWi (As := [.ref (b + 0), .int 3, .int x2, .ref (b + 431)]) (rest := []) B cw_L_87 dL_law_370 (ci_L_start_790 l (σ := (ap b σ [] [] [])) (b := b) (lyA hK) x2 q1_x2 q2_x2 (rI_at 0 7 (fz_I hF 0 7 rfl rfl)) (rI_at 5 1 (fz_I hF 5 1 rfl rfl)) (rI_at 5 2 (fz_I hF 5 2 rfl rfl)) (rI_at 7 1 (fz_I hF 7 1 rfl rfl)) (rI_at 7 2 (fz_I hF 7 2 rfl rfl)) (rI_at 22 0 (fz_I hF 22 0 rfl rfl)) (rI_at 23 0 (fz_I hF 23 0 rfl rfl)) (rI_at 24 0 (fz_I hF 24 0 rfl rfl)) (rI_at 37 2 (fz_I hF 37 2 rfl rfl)) (rI_at 40 0 (fz_I hF 40 0 rfl rfl)) (rI_at 40 8 (fz_I hF 40 8 rfl rfl)) (rR_at 0 0 (fz_R hF 0 0 rfl rfl)) (rR_at 0 2 (fz_R hF 0 2 rfl rfl)) (rR_at 0 4 (fz_R hF 0 4 rfl rfl)) (rR_at 0 5 (fz_R hF 0 5 rfl rfl)) (rR_at 1 3 (fz_R hF 1 3 rfl rfl)) (rR_at 3 0 (fz_R hF 3 0 rfl rfl)) (rR_at 5 0 (fz_R hF 5 0 rfl rfl)) (rR_at 21 1 (fz_R hF 21 1 rfl rfl)) (rR_at 21 2 (fz_R hF 21 2 rfl rfl)) (rR_at 21 3 (fz_R hF 21 3 rfl rfl)) (rR_at 37 0 (fz_R hF 37 0 rfl rfl)) (rR_at 37 1 (fz_R hF 37 1 rfl rfl)) (rR_at 40 1 (fz_R hF 40 1 rfl rfl)) (rR_at 40 2 (fz_R hF 40 2 rfl rfl)) (rR_at 40 7 (fz_R hF 40 7 rfl rfl)) (rR_at 41 0 (fz_R hF 41 0 rfl rfl)) (rR_at 41 1 (fz_R hF 41 1 rfl rfl))) rfl (by decide) rfl (Nat.le_of_ble_eq_true rfl) (by decide) (fun r u hu => ?_)
  refine z_eqs (σ' := (ap b σ [(7, 2, 0), (7, 1, 0), (40, 8, 2), (5, 2, 0), (41, 19, 0), (41, 19, 0), (41, 15, 1), (41, 4, 2), (41, 16, (-1)), (37, 2, 2), (38, 1, 13), (41, 16, 13), (41, 7, 1), (41, 5, 1), (5, 2, 1), (41, 19, 0), (41, 18, (-1)), (41, 16, (-1)), (41, 15, 0), (41, 14, 0), (41, 13, 0), (41, 12, 0), (41, 10, (-1)), (41, 9, (-1)), (41, 8, 0), (41, 7, 0), (41, 6, ((x2.toInt64).toInt32)), (41, 5, 0), (41, 4, 1), (44, 1, 0), (42, 1, 0), (37, 2, 1), (38, 0, 0), (40, 5, 0), (40, 4, (-1)), (0, 7, 1)] [(431, 0, 0), (39, 1, ((10 * (((x2.toInt64).toInt32).toInt64)) + 1)), (41, 17, ((10 * (((x2.toInt64).toInt32).toInt64)) + 1)), (41, 17, 0), (41, 11, 0), (39, 0, (x2.toInt64))] [(6, 0, (some (b + 40))), (41, 3, (some (b + 37))), (41, 2, (some (b + 21))), (40, 3, (some (b + 21)))])) (hu.2.trans ap_ap) ?_
  show zx p l e _ s m _ below meth c g 8 _ _ _ _ 373 [(4, .int 0), (3, .ref (b + 431)), (2, .ref (b + 405)), (1, .ref (b + 0)), (0, .ref bS)] _
  refine z_seti (y := 0) hu.1 ?_
  refine z_istore (lv' := [(5, .int 0), (4, .int 0), (3, .ref (b + 431)), (2, .ref (b + 405)), (1, .ref (b + 0)), (0, .ref bS)]) B dL_law_373 (by decide) rfl ?_
  refine z_aload_n B dL_law_375 rfl 3 rfl ?_
  refine z_aload_n B dL_law_376 rfl 5 rfl ?_
  refine z_iload B dL_law_377 1 rfl ?_
  refine z_iconst (v := 1) B dL_law_379 (by decide) ?_
  refine z_iadd B dL_law_380 ?_
  refine z_seti (y := 1) (by decide) ?_
  refine z_sld (j := 1) (x := 3) B hX hbl hbA (by decide) (show ¬ ((1 : Int32) < 0 ∨ 6 ≤ (1 : Int32).toNatClampNeg) by decide) h_x1 dL_law_381 ?_
  refine z_aload_n B dL_law_382 rfl 5 rfl ?_
  refine z_iload B dL_law_383 1 rfl ?_
  refine z_iconst (v := 2) B dL_law_385 (by decide) ?_
  refine z_iadd B dL_law_386 ?_
  refine z_seti (y := 2) (by decide) ?_
  refine z_sld (j := 2) (x := x2) B hX hbl hbA (by decide) (show ¬ ((2 : Int32) < 0 ∨ 6 ≤ (2 : Int32).toNatClampNeg) by decide) h_x2 dL_law_387 ?_
  refine z_cVi (As := [.int 3, .int x2]) (rest := []) B cw_L_90 cx_10 dL_law_388 (ci_X9_start_796 l (σ := (ap b σ [(7, 2, 0), (7, 1, 0), (40, 8, 2), (5, 2, 0), (41, 19, 0), (41, 19, 0), (41, 15, 1), (41, 4, 2), (41, 16, (-1)), (37, 2, 2), (38, 1, 13), (41, 16, 13), (41, 7, 1), (41, 5, 1), (5, 2, 1), (41, 19, 0), (41, 18, (-1)), (41, 16, (-1)), (41, 15, 0), (41, 14, 0), (41, 13, 0), (41, 12, 0), (41, 10, (-1)), (41, 9, (-1)), (41, 8, 0), (41, 7, 0), (41, 6, ((x2.toInt64).toInt32)), (41, 5, 0), (41, 4, 1), (44, 1, 0), (42, 1, 0), (37, 2, 1), (38, 0, 0), (40, 5, 0), (40, 4, (-1)), (0, 7, 1)] [(431, 0, 0), (39, 1, ((10 * (((x2.toInt64).toInt32).toInt64)) + 1)), (41, 17, ((10 * (((x2.toInt64).toInt32).toInt64)) + 1)), (41, 17, 0), (41, 11, 0), (39, 0, (x2.toInt64))] [(6, 0, (some (b + 40))), (41, 3, (some (b + 37))), (41, 2, (some (b + 21))), (40, 3, (some (b + 21)))])) (b := b) (lyA hK) x2 q1_x2 q2_x2 (rI_at 405 6 (fz_I hF 405 6 rfl rfl)) (rI_at 405 16 (fz_I hF 405 16 rfl rfl)) (rI_at 406 60 (fz_I hF 406 60 rfl rfl)) (rI_at 407 60 (fz_I hF 407 60 rfl rfl)) (rI_at 412 0 (fz_I hF 412 0 rfl rfl)) (rI_at 413 0 (fz_I hF 413 0 rfl rfl)) (rR_at 405 3 (fz_R hF 405 3 rfl rfl)) (rR_at 405 4 (fz_R hF 405 4 rfl rfl)) (rR_at 405 7 (fz_R hF 405 7 rfl rfl)) (rR_at 405 8 (fz_R hF 405 8 rfl rfl)) (rR_at 405 9 (fz_R hF 405 9 rfl rfl)) (rR_at 405 10 (fz_R hF 405 10 rfl rfl)) (rR_at 405 11 (fz_R hF 405 11 rfl rfl)) (rR_at 405 12 (fz_R hF 405 12 rfl rfl)) (rR_at 405 13 (fz_R hF 405 13 rfl rfl)) (rR_at 405 14 (fz_R hF 405 14 rfl rfl)) (rR_at 405 15 (fz_R hF 405 15 rfl rfl)) (rR_at 405 42 (fz_R hF 405 42 rfl rfl))) (lKA (hk_K hK 405 rfl rfl)) rfl (by decide) rfl (Nat.le_of_ble_eq_true rfl) (by decide) (fun r u hu => ?_)
  refine z_eqs (σ' := (ap b σ [(412, 0, 1), (414, 0, 2), (405, 26, 1), (405, 37, 1), (405, 27, 2), (413, 0, 2), (416, 1, 13), (405, 28, 1), (405, 38, 1), (405, 48, (-1)), (405, 27, 1), (405, 29, ((x2.toInt64).toInt32)), (405, 26, 1), (405, 47, 1), (405, 39, 0), (405, 38, 0), (405, 37, 0), (405, 36, 0), (405, 35, 0), (405, 34, 0), (405, 32, 0), (405, 31, 0), (405, 30, 0), (405, 29, 0), (405, 28, 0), (405, 27, 0), (405, 26, 1), (428, 0, 0), (405, 45, 0), (405, 43, 0), (413, 0, 1), (416, 0, 0), (415, 0, (-1)), (411, 0, 0), (410, 0, (-1)), (409, 0, 3), (405, 6, 1), (405, 0, 0), (7, 2, 0), (7, 1, 0), (40, 8, 2), (5, 2, 0), (41, 19, 0), (41, 19, 0), (41, 15, 1), (41, 4, 2), (41, 16, (-1)), (37, 2, 2), (38, 1, 13), (41, 16, 13), (41, 7, 1), (41, 5, 1), (5, 2, 1), (41, 19, 0), (41, 18, (-1)), (41, 16, (-1)), (41, 15, 0), (41, 14, 0), (41, 13, 0), (41, 12, 0), (41, 10, (-1)), (41, 9, (-1)), (41, 8, 0), (41, 7, 0), (41, 6, ((x2.toInt64).toInt32)), (41, 5, 0), (41, 4, 1), (44, 1, 0), (42, 1, 0), (37, 2, 1), (38, 0, 0), (40, 5, 0), (40, 4, (-1)), (0, 7, 1)] [(417, 1, ((10 * (((x2.toInt64).toInt32).toInt64)) + 1)), (417, 0, (x2.toInt64)), (431, 0, 0), (39, 1, ((10 * (((x2.toInt64).toInt32).toInt64)) + 1)), (41, 17, ((10 * (((x2.toInt64).toInt32).toInt64)) + 1)), (41, 17, 0), (41, 11, 0), (39, 0, (x2.toInt64))] [(6, 0, (some (b + 40))), (41, 3, (some (b + 37))), (41, 2, (some (b + 21))), (40, 3, (some (b + 21)))])) (hu.2.trans ap_ap) ?_
  show zx p l e _ s m _ below meth c g 8 _ _ _ _ 391 [(5, .int 0), (4, .int 0), (3, .ref (b + 431)), (2, .ref (b + 405)), (1, .ref (b + 0)), (0, .ref bS)] _
  refine z_seti (y := 0) hu.1 ?_
  refine z_istore (lv' := [(6, .int 0), (5, .int 0), (4, .int 0), (3, .ref (b + 431)), (2, .ref (b + 405)), (1, .ref (b + 0)), (0, .ref bS)]) B dL_law_391 (by decide) rfl ?_
  refine z_aload_n B dL_law_393 rfl 4 rfl ?_
  refine z_cVi (As := []) (rest := []) B cw_L_80 cx_10 dL_law_394 (ci_X9_thrown_95 l (σ := (ap b σ [(412, 0, 1), (414, 0, 2), (405, 26, 1), (405, 37, 1), (405, 27, 2), (413, 0, 2), (416, 1, 13), (405, 28, 1), (405, 38, 1), (405, 48, (-1)), (405, 27, 1), (405, 29, ((x2.toInt64).toInt32)), (405, 26, 1), (405, 47, 1), (405, 39, 0), (405, 38, 0), (405, 37, 0), (405, 36, 0), (405, 35, 0), (405, 34, 0), (405, 32, 0), (405, 31, 0), (405, 30, 0), (405, 29, 0), (405, 28, 0), (405, 27, 0), (405, 26, 1), (428, 0, 0), (405, 45, 0), (405, 43, 0), (413, 0, 1), (416, 0, 0), (415, 0, (-1)), (411, 0, 0), (410, 0, (-1)), (409, 0, 3), (405, 6, 1), (405, 0, 0), (7, 2, 0), (7, 1, 0), (40, 8, 2), (5, 2, 0), (41, 19, 0), (41, 19, 0), (41, 15, 1), (41, 4, 2), (41, 16, (-1)), (37, 2, 2), (38, 1, 13), (41, 16, 13), (41, 7, 1), (41, 5, 1), (5, 2, 1), (41, 19, 0), (41, 18, (-1)), (41, 16, (-1)), (41, 15, 0), (41, 14, 0), (41, 13, 0), (41, 12, 0), (41, 10, (-1)), (41, 9, (-1)), (41, 8, 0), (41, 7, 0), (41, 6, ((x2.toInt64).toInt32)), (41, 5, 0), (41, 4, 1), (44, 1, 0), (42, 1, 0), (37, 2, 1), (38, 0, 0), (40, 5, 0), (40, 4, (-1)), (0, 7, 1)] [(417, 1, ((10 * (((x2.toInt64).toInt32).toInt64)) + 1)), (417, 0, (x2.toInt64)), (431, 0, 0), (39, 1, ((10 * (((x2.toInt64).toInt32).toInt64)) + 1)), (41, 17, ((10 * (((x2.toInt64).toInt32).toInt64)) + 1)), (41, 17, 0), (41, 11, 0), (39, 0, (x2.toInt64))] [(6, 0, (some (b + 40))), (41, 3, (some (b + 37))), (41, 2, (some (b + 21))), (40, 3, (some (b + 21)))])) (b := b) (lyA hK) (rI_at 405 0 rfl)) (lKA (hk_K hK 405 rfl rfl)) rfl (by decide) rfl (Nat.le_of_ble_eq_true rfl) (by decide) (fun r u hu => ?_)
  refine z_eqs (σ' := (ap b σ [(412, 0, 1), (414, 0, 2), (405, 26, 1), (405, 37, 1), (405, 27, 2), (413, 0, 2), (416, 1, 13), (405, 28, 1), (405, 38, 1), (405, 48, (-1)), (405, 27, 1), (405, 29, ((x2.toInt64).toInt32)), (405, 26, 1), (405, 47, 1), (405, 39, 0), (405, 38, 0), (405, 37, 0), (405, 36, 0), (405, 35, 0), (405, 34, 0), (405, 32, 0), (405, 31, 0), (405, 30, 0), (405, 29, 0), (405, 28, 0), (405, 27, 0), (405, 26, 1), (428, 0, 0), (405, 45, 0), (405, 43, 0), (413, 0, 1), (416, 0, 0), (415, 0, (-1)), (411, 0, 0), (410, 0, (-1)), (409, 0, 3), (405, 6, 1), (405, 0, 0), (7, 2, 0), (7, 1, 0), (40, 8, 2), (5, 2, 0), (41, 19, 0), (41, 19, 0), (41, 15, 1), (41, 4, 2), (41, 16, (-1)), (37, 2, 2), (38, 1, 13), (41, 16, 13), (41, 7, 1), (41, 5, 1), (5, 2, 1), (41, 19, 0), (41, 18, (-1)), (41, 16, (-1)), (41, 15, 0), (41, 14, 0), (41, 13, 0), (41, 12, 0), (41, 10, (-1)), (41, 9, (-1)), (41, 8, 0), (41, 7, 0), (41, 6, ((x2.toInt64).toInt32)), (41, 5, 0), (41, 4, 1), (44, 1, 0), (42, 1, 0), (37, 2, 1), (38, 0, 0), (40, 5, 0), (40, 4, (-1)), (0, 7, 1)] [(417, 1, ((10 * (((x2.toInt64).toInt32).toInt64)) + 1)), (417, 0, (x2.toInt64)), (431, 0, 0), (39, 1, ((10 * (((x2.toInt64).toInt32).toInt64)) + 1)), (41, 17, ((10 * (((x2.toInt64).toInt32).toInt64)) + 1)), (41, 17, 0), (41, 11, 0), (39, 0, (x2.toInt64))] [(6, 0, (some (b + 40))), (41, 3, (some (b + 37))), (41, 2, (some (b + 21))), (40, 3, (some (b + 21)))])) hu.2 ?_
  show zx p l e _ s m _ below meth c g 8 _ _ _ _ 397 [(6, .int 0), (5, .int 0), (4, .int 0), (3, .ref (b + 431)), (2, .ref (b + 405)), (1, .ref (b + 0)), (0, .ref bS)] _
  refine z_seti (y := 0) hu.1 ?_
  refine z_iload B dL_law_397 1 rfl ?_
  refine z_icmp_eq (tgt := 404) B dL_law_399 (by decide) (fun _ => ?_) (fun h => absurd (by decide) h)
  refine z_iload B dL_law_404 1 rfl ?_
  refine z_if_ne (tgt := 421) B dL_law_406 (by decide) (fun h => absurd (by decide) h) (fun _ => ?_)
  refine z_aload_n B dL_law_409 rfl 3 rfl ?_
  refine z_iconst (v := 0) B dL_law_410 (by decide) ?_
  refine z_lald (j := 0) (x := 0) B (lKA (hk_K hK 431 rfl rfl)) (by decide) (in_of (lNA (hk_N hK 431 rfl rfl)) (show ¬ ((0 : Int32) < 0 ∨ 1 ≤ (0 : Int32).toNatClampNeg) by decide)) (rJ_at 431 0 rfl) dL_law_411 ?_
  refine z_iload B dL_law_412 0 rfl ?_
  refine z_i2l (v := 0) B dL_law_414 (by decide) ?_
  refine z_lcmp (v := 0) B dL_law_415 (by decide) ?_
  refine z_if_eq (tgt := 421) B dL_law_416 (by decide) (fun _ => ?_) (fun h => absurd (by decide) h)
  refine z_goto (tgt := 1395) B dL_law_421 (by decide) ?_
  exact z_widen (Nat.le_of_ble_eq_true rfl) (Nat.le_of_ble_eq_true rfl) (z_sub _ [2, 6] rfl (kk _))
set_option maxRecDepth 100000 in
set_option maxHeartbeats 4000000 in
theorem lf_2_297 {p : Program} {l : Launch} {e : Env} {s : State} {m : MethodId} {args : Array Value} {below : List Frame} {meth : Method} {c : Code} {g : gx_T} {Q : State → Prop} {σ : sx_T} {b t bS : Nat} {xs : Nat → Int32} (hlt : l.stackTraces = false) (B : zx_B p s m args meth c code RL 8 g) (hX : va_X bS 6 xs s s.heap) (hbl : bS < s.heap.size) (hbA : ¬ gx_b g ≤ bS) (hF : fz_P b t σ) (h_x1 : xs 1 = 3) {x2 : Int32} (h_x2 : xs 2 = x2) (q1_x2 : (0 : Int) ≤ x2.toInt) (q2_x2 : x2.toInt ≤ (999 : Int)) (kk : ∀ σ', zx p l e room_1 s m args below meth c g 8 600002 7302232 Q σ' 1395 [(4, .int 0), (0, .ref bS)] []) : zx p l e room_1 s m args below meth c g 8 500 100000 Q σ 356 [(4, .int 0), (3, .ref (b + 431)), (2, .ref (b + 405)), (1, .ref (b + 0)), (0, .ref bS)] [] := by
  have hK := fz_lay hF
  refine z_eqs (σ' := (ap b σ [] [] [])) rfl ?_
  refine z_aload_n B dL_law_356 rfl 3 rfl ?_
  refine z_aload_n B dL_law_357 rfl 4 rfl ?_
  refine z_iload B dL_law_358 0 rfl ?_
  refine z_iconst (v := 1) B dL_law_360 (by decide) ?_
  refine z_iadd B dL_law_361 ?_
  refine z_seti (y := 1) (by decide) ?_
  refine z_sld (j := 1) (x := 3) B hX hbl hbA (by decide) (show ¬ ((1 : Int32) < 0 ∨ 6 ≤ (1 : Int32).toNatClampNeg) by decide) h_x1 dL_law_362 ?_
  refine z_aload_n B dL_law_363 rfl 4 rfl ?_
  refine z_iload B dL_law_364 0 rfl ?_
  refine z_iconst (v := 2) B dL_law_366 (by decide) ?_
  refine z_iadd B dL_law_367 ?_
  refine z_seti (y := 2) (by decide) ?_
  refine z_sld (j := 2) (x := x2) B hX hbl hbA (by decide) (show ¬ ((2 : Int32) < 0 ∨ 6 ≤ (2 : Int32).toNatClampNeg) by decide) h_x2 dL_law_368 ?_
  refine z_aload_n B dL_law_369 rfl 1 rfl ?_
  refine z_cSWi (As := [.ref (b + 0), .int 3, .int x2, .ref (b + 431)]) (rest := []) B cw_L_87 dL_law_370 (ci_L_start_799 l (σ := (ap b σ [] [] [])) (b := b) (lyA hK) x2 q1_x2 q2_x2 (rI_at 0 7 (fz_I hF 0 7 rfl rfl)) (rI_at 5 1 (fz_I hF 5 1 rfl rfl)) (rI_at 5 2 (fz_I hF 5 2 rfl rfl)) (rI_at 7 1 (fz_I hF 7 1 rfl rfl)) (rI_at 7 2 (fz_I hF 7 2 rfl rfl)) (rI_at 22 0 (fz_I hF 22 0 rfl rfl)) (rI_at 23 0 (fz_I hF 23 0 rfl rfl)) (rI_at 24 0 (fz_I hF 24 0 rfl rfl)) (rI_at 37 2 (fz_I hF 37 2 rfl rfl)) (rI_at 40 0 (fz_I hF 40 0 rfl rfl)) (rI_at 40 8 (fz_I hF 40 8 rfl rfl)) (rR_at 0 0 (fz_R hF 0 0 rfl rfl)) (rR_at 0 2 (fz_R hF 0 2 rfl rfl)) (rR_at 0 4 (fz_R hF 0 4 rfl rfl)) (rR_at 0 5 (fz_R hF 0 5 rfl rfl)) (rR_at 1 3 (fz_R hF 1 3 rfl rfl)) (rR_at 3 0 (fz_R hF 3 0 rfl rfl)) (rR_at 5 0 (fz_R hF 5 0 rfl rfl)) (rR_at 21 1 (fz_R hF 21 1 rfl rfl)) (rR_at 21 2 (fz_R hF 21 2 rfl rfl)) (rR_at 21 3 (fz_R hF 21 3 rfl rfl)) (rR_at 37 0 (fz_R hF 37 0 rfl rfl)) (rR_at 37 1 (fz_R hF 37 1 rfl rfl)) (rR_at 40 1 (fz_R hF 40 1 rfl rfl)) (rR_at 40 2 (fz_R hF 40 2 rfl rfl)) (rR_at 40 7 (fz_R hF 40 7 rfl rfl)) (rR_at 41 0 (fz_R hF 41 0 rfl rfl)) (rR_at 41 1 (fz_R hF 41 1 rfl rfl))) rfl (by decide) rfl (Nat.le_of_ble_eq_true rfl) (by decide) (fun r u hu => ?_)
  refine z_eqs (σ' := (ap b σ [(7, 2, 0), (7, 1, 0), (40, 8, 2), (5, 2, 0), (41, 19, 0), (41, 19, 0), (41, 15, 1), (41, 4, 2), (41, 16, (-1)), (37, 2, 2), (38, 1, 13), (41, 16, 13), (41, 7, 1), (41, 5, 1), (5, 2, 1), (41, 19, 0), (41, 18, (-1)), (41, 16, (-1)), (41, 15, 0), (41, 14, 0), (41, 13, 0), (41, 12, 0), (41, 10, (-1)), (41, 9, (-1)), (41, 8, 0), (41, 7, 0), (41, 6, ((x2.toInt64).toInt32)), (41, 5, 0), (41, 4, 1), (44, 1, 0), (42, 1, 0), (37, 2, 1), (38, 0, 0), (40, 5, 0), (40, 4, (-1)), (0, 7, 1)] [(431, 0, 0), (39, 1, ((10 * (((x2.toInt64).toInt32).toInt64)) + 1)), (41, 17, ((10 * (((x2.toInt64).toInt32).toInt64)) + 1)), (41, 17, 0), (41, 11, 0), (39, 0, (x2.toInt64))] [(6, 0, (some (b + 40))), (41, 3, (some (b + 37))), (41, 2, (some (b + 21))), (40, 3, (some (b + 21)))])) (hu.2.trans ap_ap) ?_
  show zx p l e _ s m _ below meth c g 8 _ _ _ _ 373 [(4, .int 0), (3, .ref (b + 431)), (2, .ref (b + 405)), (1, .ref (b + 0)), (0, .ref bS)] _
  refine z_seti (y := 0) hu.1 ?_
  refine z_istore (lv' := [(5, .int 0), (4, .int 0), (3, .ref (b + 431)), (2, .ref (b + 405)), (1, .ref (b + 0)), (0, .ref bS)]) B dL_law_373 (by decide) rfl ?_
  refine z_aload_n B dL_law_375 rfl 3 rfl ?_
  refine z_aload_n B dL_law_376 rfl 5 rfl ?_
  refine z_iload B dL_law_377 1 rfl ?_
  refine z_iconst (v := 1) B dL_law_379 (by decide) ?_
  refine z_iadd B dL_law_380 ?_
  refine z_seti (y := 1) (by decide) ?_
  refine z_sld (j := 1) (x := 3) B hX hbl hbA (by decide) (show ¬ ((1 : Int32) < 0 ∨ 6 ≤ (1 : Int32).toNatClampNeg) by decide) h_x1 dL_law_381 ?_
  refine z_aload_n B dL_law_382 rfl 5 rfl ?_
  refine z_iload B dL_law_383 1 rfl ?_
  refine z_iconst (v := 2) B dL_law_385 (by decide) ?_
  refine z_iadd B dL_law_386 ?_
  refine z_seti (y := 2) (by decide) ?_
  refine z_sld (j := 2) (x := x2) B hX hbl hbA (by decide) (show ¬ ((2 : Int32) < 0 ∨ 6 ≤ (2 : Int32).toNatClampNeg) by decide) h_x2 dL_law_387 ?_
  refine z_cVi (As := [.int 3, .int x2]) (rest := []) B cw_L_90 cx_10 dL_law_388 (ci_X9_start_800 l (σ := (ap b σ [(7, 2, 0), (7, 1, 0), (40, 8, 2), (5, 2, 0), (41, 19, 0), (41, 19, 0), (41, 15, 1), (41, 4, 2), (41, 16, (-1)), (37, 2, 2), (38, 1, 13), (41, 16, 13), (41, 7, 1), (41, 5, 1), (5, 2, 1), (41, 19, 0), (41, 18, (-1)), (41, 16, (-1)), (41, 15, 0), (41, 14, 0), (41, 13, 0), (41, 12, 0), (41, 10, (-1)), (41, 9, (-1)), (41, 8, 0), (41, 7, 0), (41, 6, ((x2.toInt64).toInt32)), (41, 5, 0), (41, 4, 1), (44, 1, 0), (42, 1, 0), (37, 2, 1), (38, 0, 0), (40, 5, 0), (40, 4, (-1)), (0, 7, 1)] [(431, 0, 0), (39, 1, ((10 * (((x2.toInt64).toInt32).toInt64)) + 1)), (41, 17, ((10 * (((x2.toInt64).toInt32).toInt64)) + 1)), (41, 17, 0), (41, 11, 0), (39, 0, (x2.toInt64))] [(6, 0, (some (b + 40))), (41, 3, (some (b + 37))), (41, 2, (some (b + 21))), (40, 3, (some (b + 21)))])) (b := b) (lyA hK) x2 q1_x2 q2_x2 (rI_at 405 6 (fz_I hF 405 6 rfl rfl)) (rI_at 405 16 (fz_I hF 405 16 rfl rfl)) (rI_at 406 60 (fz_I hF 406 60 rfl rfl)) (rI_at 407 60 (fz_I hF 407 60 rfl rfl)) (rI_at 412 0 (fz_I hF 412 0 rfl rfl)) (rI_at 413 0 (fz_I hF 413 0 rfl rfl)) (rR_at 405 3 (fz_R hF 405 3 rfl rfl)) (rR_at 405 4 (fz_R hF 405 4 rfl rfl)) (rR_at 405 7 (fz_R hF 405 7 rfl rfl)) (rR_at 405 8 (fz_R hF 405 8 rfl rfl)) (rR_at 405 9 (fz_R hF 405 9 rfl rfl)) (rR_at 405 10 (fz_R hF 405 10 rfl rfl)) (rR_at 405 11 (fz_R hF 405 11 rfl rfl)) (rR_at 405 12 (fz_R hF 405 12 rfl rfl)) (rR_at 405 13 (fz_R hF 405 13 rfl rfl)) (rR_at 405 14 (fz_R hF 405 14 rfl rfl)) (rR_at 405 15 (fz_R hF 405 15 rfl rfl)) (rR_at 405 42 (fz_R hF 405 42 rfl rfl))) (lKA (hk_K hK 405 rfl rfl)) rfl (by decide) rfl (Nat.le_of_ble_eq_true rfl) (by decide) (fun r u hu => ?_)
  refine z_eqs (σ' := (ap b σ [(412, 0, 1), (414, 0, 2), (405, 26, 1), (405, 37, 1), (405, 27, 2), (413, 0, 2), (416, 1, 13), (405, 28, 1), (405, 38, 1), (405, 48, (-1)), (405, 27, 1), (405, 29, ((x2.toInt64).toInt32)), (405, 26, 1), (405, 47, 1), (405, 39, 0), (405, 38, 0), (405, 37, 0), (405, 36, 0), (405, 35, 0), (405, 34, 0), (405, 32, 0), (405, 31, 0), (405, 30, 0), (405, 29, 0), (405, 28, 0), (405, 27, 0), (405, 26, 1), (428, 0, 0), (405, 45, 0), (405, 43, 0), (413, 0, 1), (416, 0, 0), (415, 0, (-1)), (411, 0, 0), (410, 0, (-1)), (409, 0, 3), (405, 6, 1), (405, 0, 0), (7, 2, 0), (7, 1, 0), (40, 8, 2), (5, 2, 0), (41, 19, 0), (41, 19, 0), (41, 15, 1), (41, 4, 2), (41, 16, (-1)), (37, 2, 2), (38, 1, 13), (41, 16, 13), (41, 7, 1), (41, 5, 1), (5, 2, 1), (41, 19, 0), (41, 18, (-1)), (41, 16, (-1)), (41, 15, 0), (41, 14, 0), (41, 13, 0), (41, 12, 0), (41, 10, (-1)), (41, 9, (-1)), (41, 8, 0), (41, 7, 0), (41, 6, ((x2.toInt64).toInt32)), (41, 5, 0), (41, 4, 1), (44, 1, 0), (42, 1, 0), (37, 2, 1), (38, 0, 0), (40, 5, 0), (40, 4, (-1)), (0, 7, 1)] [(417, 1, ((10 * (((x2.toInt64).toInt32).toInt64)) + 1)), (417, 0, (x2.toInt64)), (431, 0, 0), (39, 1, ((10 * (((x2.toInt64).toInt32).toInt64)) + 1)), (41, 17, ((10 * (((x2.toInt64).toInt32).toInt64)) + 1)), (41, 17, 0), (41, 11, 0), (39, 0, (x2.toInt64))] [(6, 0, (some (b + 40))), (41, 3, (some (b + 37))), (41, 2, (some (b + 21))), (40, 3, (some (b + 21)))])) (hu.2.trans ap_ap) ?_
  show zx p l e _ s m _ below meth c g 8 _ _ _ _ 391 [(5, .int 0), (4, .int 0), (3, .ref (b + 431)), (2, .ref (b + 405)), (1, .ref (b + 0)), (0, .ref bS)] _
  refine z_seti (y := 0) hu.1 ?_
  refine z_istore (lv' := [(6, .int 0), (5, .int 0), (4, .int 0), (3, .ref (b + 431)), (2, .ref (b + 405)), (1, .ref (b + 0)), (0, .ref bS)]) B dL_law_391 (by decide) rfl ?_
  refine z_aload_n B dL_law_393 rfl 4 rfl ?_
  refine z_cVi (As := []) (rest := []) B cw_L_80 cx_10 dL_law_394 (ci_X9_thrown_95 l (σ := (ap b σ [(412, 0, 1), (414, 0, 2), (405, 26, 1), (405, 37, 1), (405, 27, 2), (413, 0, 2), (416, 1, 13), (405, 28, 1), (405, 38, 1), (405, 48, (-1)), (405, 27, 1), (405, 29, ((x2.toInt64).toInt32)), (405, 26, 1), (405, 47, 1), (405, 39, 0), (405, 38, 0), (405, 37, 0), (405, 36, 0), (405, 35, 0), (405, 34, 0), (405, 32, 0), (405, 31, 0), (405, 30, 0), (405, 29, 0), (405, 28, 0), (405, 27, 0), (405, 26, 1), (428, 0, 0), (405, 45, 0), (405, 43, 0), (413, 0, 1), (416, 0, 0), (415, 0, (-1)), (411, 0, 0), (410, 0, (-1)), (409, 0, 3), (405, 6, 1), (405, 0, 0), (7, 2, 0), (7, 1, 0), (40, 8, 2), (5, 2, 0), (41, 19, 0), (41, 19, 0), (41, 15, 1), (41, 4, 2), (41, 16, (-1)), (37, 2, 2), (38, 1, 13), (41, 16, 13), (41, 7, 1), (41, 5, 1), (5, 2, 1), (41, 19, 0), (41, 18, (-1)), (41, 16, (-1)), (41, 15, 0), (41, 14, 0), (41, 13, 0), (41, 12, 0), (41, 10, (-1)), (41, 9, (-1)), (41, 8, 0), (41, 7, 0), (41, 6, ((x2.toInt64).toInt32)), (41, 5, 0), (41, 4, 1), (44, 1, 0), (42, 1, 0), (37, 2, 1), (38, 0, 0), (40, 5, 0), (40, 4, (-1)), (0, 7, 1)] [(417, 1, ((10 * (((x2.toInt64).toInt32).toInt64)) + 1)), (417, 0, (x2.toInt64)), (431, 0, 0), (39, 1, ((10 * (((x2.toInt64).toInt32).toInt64)) + 1)), (41, 17, ((10 * (((x2.toInt64).toInt32).toInt64)) + 1)), (41, 17, 0), (41, 11, 0), (39, 0, (x2.toInt64))] [(6, 0, (some (b + 40))), (41, 3, (some (b + 37))), (41, 2, (some (b + 21))), (40, 3, (some (b + 21)))])) (b := b) (lyA hK) (rI_at 405 0 rfl)) (lKA (hk_K hK 405 rfl rfl)) rfl (by decide) rfl (Nat.le_of_ble_eq_true rfl) (by decide) (fun r u hu => ?_)
  refine z_eqs (σ' := (ap b σ [(412, 0, 1), (414, 0, 2), (405, 26, 1), (405, 37, 1), (405, 27, 2), (413, 0, 2), (416, 1, 13), (405, 28, 1), (405, 38, 1), (405, 48, (-1)), (405, 27, 1), (405, 29, ((x2.toInt64).toInt32)), (405, 26, 1), (405, 47, 1), (405, 39, 0), (405, 38, 0), (405, 37, 0), (405, 36, 0), (405, 35, 0), (405, 34, 0), (405, 32, 0), (405, 31, 0), (405, 30, 0), (405, 29, 0), (405, 28, 0), (405, 27, 0), (405, 26, 1), (428, 0, 0), (405, 45, 0), (405, 43, 0), (413, 0, 1), (416, 0, 0), (415, 0, (-1)), (411, 0, 0), (410, 0, (-1)), (409, 0, 3), (405, 6, 1), (405, 0, 0), (7, 2, 0), (7, 1, 0), (40, 8, 2), (5, 2, 0), (41, 19, 0), (41, 19, 0), (41, 15, 1), (41, 4, 2), (41, 16, (-1)), (37, 2, 2), (38, 1, 13), (41, 16, 13), (41, 7, 1), (41, 5, 1), (5, 2, 1), (41, 19, 0), (41, 18, (-1)), (41, 16, (-1)), (41, 15, 0), (41, 14, 0), (41, 13, 0), (41, 12, 0), (41, 10, (-1)), (41, 9, (-1)), (41, 8, 0), (41, 7, 0), (41, 6, ((x2.toInt64).toInt32)), (41, 5, 0), (41, 4, 1), (44, 1, 0), (42, 1, 0), (37, 2, 1), (38, 0, 0), (40, 5, 0), (40, 4, (-1)), (0, 7, 1)] [(417, 1, ((10 * (((x2.toInt64).toInt32).toInt64)) + 1)), (417, 0, (x2.toInt64)), (431, 0, 0), (39, 1, ((10 * (((x2.toInt64).toInt32).toInt64)) + 1)), (41, 17, ((10 * (((x2.toInt64).toInt32).toInt64)) + 1)), (41, 17, 0), (41, 11, 0), (39, 0, (x2.toInt64))] [(6, 0, (some (b + 40))), (41, 3, (some (b + 37))), (41, 2, (some (b + 21))), (40, 3, (some (b + 21)))])) hu.2 ?_
  show zx p l e _ s m _ below meth c g 8 _ _ _ _ 397 [(6, .int 0), (5, .int 0), (4, .int 0), (3, .ref (b + 431)), (2, .ref (b + 405)), (1, .ref (b + 0)), (0, .ref bS)] _
  refine z_seti (y := 0) hu.1 ?_
  refine z_iload B dL_law_397 1 rfl ?_
  refine z_icmp_eq (tgt := 404) B dL_law_399 (by decide) (fun _ => ?_) (fun h => absurd (by decide) h)
  refine z_iload B dL_law_404 1 rfl ?_
  refine z_if_ne (tgt := 421) B dL_law_406 (by decide) (fun h => absurd (by decide) h) (fun _ => ?_)
  refine z_aload_n B dL_law_409 rfl 3 rfl ?_
  refine z_iconst (v := 0) B dL_law_410 (by decide) ?_
  refine z_lald (j := 0) (x := 0) B (lKA (hk_K hK 431 rfl rfl)) (by decide) (in_of (lNA (hk_N hK 431 rfl rfl)) (show ¬ ((0 : Int32) < 0 ∨ 1 ≤ (0 : Int32).toNatClampNeg) by decide)) (rJ_at 431 0 rfl) dL_law_411 ?_
  refine z_iload B dL_law_412 0 rfl ?_
  refine z_i2l (v := 0) B dL_law_414 (by decide) ?_
  refine z_lcmp (v := 0) B dL_law_415 (by decide) ?_
  refine z_if_eq (tgt := 421) B dL_law_416 (by decide) (fun _ => ?_) (fun h => absurd (by decide) h)
  refine z_goto (tgt := 1395) B dL_law_421 (by decide) ?_
  exact z_widen (Nat.le_of_ble_eq_true rfl) (Nat.le_of_ble_eq_true rfl) (z_sub _ [2, 6] rfl (kk _))
set_option maxRecDepth 100000 in
set_option maxHeartbeats 4000000 in
theorem lf_2_298 {p : Program} {l : Launch} {e : Env} {s : State} {m : MethodId} {args : Array Value} {below : List Frame} {meth : Method} {c : Code} {g : gx_T} {Q : State → Prop} {σ : sx_T} {b t bS : Nat} {xs : Nat → Int32} (hlt : l.stackTraces = false) (B : zx_B p s m args meth c code RL 8 g) (hX : va_X bS 6 xs s s.heap) (hbl : bS < s.heap.size) (hbA : ¬ gx_b g ≤ bS) (hF : fz_P b t σ) (h_x1 : xs 1 = 3) {x2 : Int32} (h_x2 : xs 2 = x2) (q1_x2 : (1000 : Int) ≤ x2.toInt) (q2_x2 : x2.toInt ≤ (2147483647 : Int)) (kk : ∀ σ', zx p l e room_1 s m args below meth c g 8 600002 7302232 Q σ' 1395 [(4, .int 0), (0, .ref bS)] []) : zx p l e room_1 s m args below meth c g 8 500 100000 Q σ 356 [(4, .int 0), (3, .ref (b + 431)), (2, .ref (b + 405)), (1, .ref (b + 0)), (0, .ref bS)] [] := by
  have hK := fz_lay hF
  refine z_eqs (σ' := (ap b σ [] [] [])) rfl ?_
  refine z_aload_n B dL_law_356 rfl 3 rfl ?_
  refine z_aload_n B dL_law_357 rfl 4 rfl ?_
  refine z_iload B dL_law_358 0 rfl ?_
  refine z_iconst (v := 1) B dL_law_360 (by decide) ?_
  refine z_iadd B dL_law_361 ?_
  refine z_seti (y := 1) (by decide) ?_
  refine z_sld (j := 1) (x := 3) B hX hbl hbA (by decide) (show ¬ ((1 : Int32) < 0 ∨ 6 ≤ (1 : Int32).toNatClampNeg) by decide) h_x1 dL_law_362 ?_
  refine z_aload_n B dL_law_363 rfl 4 rfl ?_
  refine z_iload B dL_law_364 0 rfl ?_
  refine z_iconst (v := 2) B dL_law_366 (by decide) ?_
  refine z_iadd B dL_law_367 ?_
  refine z_seti (y := 2) (by decide) ?_
  refine z_sld (j := 2) (x := x2) B hX hbl hbA (by decide) (show ¬ ((2 : Int32) < 0 ∨ 6 ≤ (2 : Int32).toNatClampNeg) by decide) h_x2 dL_law_368 ?_
  refine z_aload_n B dL_law_369 rfl 1 rfl ?_
  refine z_cSWi (As := [.ref (b + 0), .int 3, .int x2, .ref (b + 431)]) (rest := []) B cw_L_87 dL_law_370 (ci_L_start_802 l hlt (σ := (ap b σ [] [] [])) (b := b) (lyA hK) x2 q1_x2 q2_x2 (rR_at 0 0 (fz_R hF 0 0 rfl rfl)) (rR_at 1 3 (fz_R hF 1 3 rfl rfl))) rfl (by decide) rfl (Nat.le_of_ble_eq_true rfl) (by decide) (fun r u hu => ?_)
  obtain ⟨hu1, z, hu⟩ := hu
  refine z_eqs (σ' := (ap b (wx_Z σ z) [] [] [])) (hu.trans az_ap) ?_
  show zx p l e _ s m _ below meth c g 8 _ _ _ _ 373 [(4, .int 0), (3, .ref (b + 431)), (2, .ref (b + 405)), (1, .ref (b + 0)), (0, .ref bS)] _
  refine z_seti (y := 2) hu1 ?_
  refine z_istore (lv' := [(5, .int 2), (4, .int 0), (3, .ref (b + 431)), (2, .ref (b + 405)), (1, .ref (b + 0)), (0, .ref bS)]) B dL_law_373 (by decide) rfl ?_
  refine z_aload_n B dL_law_375 rfl 3 rfl ?_
  refine z_aload_n B dL_law_376 rfl 5 rfl ?_
  refine z_iload B dL_law_377 1 rfl ?_
  refine z_iconst (v := 1) B dL_law_379 (by decide) ?_
  refine z_iadd B dL_law_380 ?_
  refine z_seti (y := 1) (by decide) ?_
  refine z_sld (j := 1) (x := 3) B hX hbl hbA (by decide) (show ¬ ((1 : Int32) < 0 ∨ 6 ≤ (1 : Int32).toNatClampNeg) by decide) h_x1 dL_law_381 ?_
  refine z_aload_n B dL_law_382 rfl 5 rfl ?_
  refine z_iload B dL_law_383 1 rfl ?_
  refine z_iconst (v := 2) B dL_law_385 (by decide) ?_
  refine z_iadd B dL_law_386 ?_
  refine z_seti (y := 2) (by decide) ?_
  refine z_sld (j := 2) (x := x2) B hX hbl hbA (by decide) (show ¬ ((2 : Int32) < 0 ∨ 6 ≤ (2 : Int32).toNatClampNeg) by decide) h_x2 dL_law_387 ?_
  refine z_cVi (As := [.int 3, .int x2]) (rest := []) B cw_L_90 cx_10 dL_law_388 (ci_X9_start_803 l (σ := (ap b (wx_Z σ z) [] [] [])) (b := b) (lyA (lyZ hK)) x2 q1_x2 q2_x2 (rI_at 405 6 (lIZ (fz_I hF 405 6 rfl rfl)))) (lKA (lKZ (hk_K hK 405 rfl rfl))) rfl (by decide) rfl (Nat.le_of_ble_eq_true rfl) (by decide) (fun r u hu => ?_)
  refine z_eqs (σ' := (ap b (wx_Z σ z) [(405, 0, 2)] [] [])) (hu.2.trans ap_ap) ?_
  show zx p l e _ s m _ below meth c g 8 _ _ _ _ 391 [(5, .int 2), (4, .int 0), (3, .ref (b + 431)), (2, .ref (b + 405)), (1, .ref (b + 0)), (0, .ref bS)] _
  refine z_seti (y := 0) hu.1 ?_
  refine z_istore (lv' := [(6, .int 0), (5, .int 2), (4, .int 0), (3, .ref (b + 431)), (2, .ref (b + 405)), (1, .ref (b + 0)), (0, .ref bS)]) B dL_law_391 (by decide) rfl ?_
  refine z_aload_n B dL_law_393 rfl 4 rfl ?_
  refine z_cVi (As := []) (rest := []) B cw_L_80 cx_10 dL_law_394 (ci_X9_thrown_73 l (σ := (ap b (wx_Z σ z) [(405, 0, 2)] [] [])) (b := b) (lyA (lyZ hK)) (rI_at 405 0 rfl)) (lKA (lKZ (hk_K hK 405 rfl rfl))) rfl (by decide) rfl (Nat.le_of_ble_eq_true rfl) (by decide) (fun r u hu => ?_)
  refine z_eqs (σ' := (ap b (wx_Z σ z) [(405, 0, 2)] [] [])) hu.2 ?_
  show zx p l e _ s m _ below meth c g 8 _ _ _ _ 397 [(6, .int 0), (5, .int 2), (4, .int 0), (3, .ref (b + 431)), (2, .ref (b + 405)), (1, .ref (b + 0)), (0, .ref bS)] _
  refine z_seti (y := 2) hu.1 ?_
  refine z_iload B dL_law_397 1 rfl ?_
  refine z_icmp_eq (tgt := 404) B dL_law_399 (by decide) (fun _ => ?_) (fun h => absurd (by decide) h)
  refine z_iload B dL_law_404 1 rfl ?_
  refine z_if_ne (tgt := 421) B dL_law_406 (by decide) (fun _ => ?_) (fun h => absurd h (by decide))
  refine z_goto (tgt := 1395) B dL_law_421 (by decide) ?_
  exact z_widen (Nat.le_of_ble_eq_true rfl) (Nat.le_of_ble_eq_true rfl) (z_sub _ [2, 6] rfl (kk _))
set_option maxRecDepth 100000 in
set_option maxHeartbeats 4000000 in
theorem lf_2_299 {p : Program} {l : Launch} {e : Env} {s : State} {m : MethodId} {args : Array Value} {below : List Frame} {meth : Method} {c : Code} {g : gx_T} {Q : State → Prop} {σ : sx_T} {b t bS : Nat} {xs : Nat → Int32} (hlt : l.stackTraces = false) (B : zx_B p s m args meth c code RL 8 g) (hX : va_X bS 6 xs s s.heap) (hbl : bS < s.heap.size) (hbA : ¬ gx_b g ≤ bS) (hF : fz_P b t σ) (h_x1 : xs 1 = 4) {x2 : Int32} (h_x2 : xs 2 = x2) (q1_x2 : (-2147483648 : Int) ≤ x2.toInt) (q2_x2 : x2.toInt ≤ (-1000 : Int)) (kk : ∀ σ', zx p l e room_1 s m args below meth c g 8 600002 7302232 Q σ' 1395 [(4, .int 0), (0, .ref bS)] []) : zx p l e room_1 s m args below meth c g 8 500 100000 Q σ 356 [(4, .int 0), (3, .ref (b + 431)), (2, .ref (b + 405)), (1, .ref (b + 0)), (0, .ref bS)] [] := by
  have hK := fz_lay hF
  refine z_eqs (σ' := (ap b σ [] [] [])) rfl ?_
  refine z_aload_n B dL_law_356 rfl 3 rfl ?_
  refine z_aload_n B dL_law_357 rfl 4 rfl ?_
  refine z_iload B dL_law_358 0 rfl ?_
  refine z_iconst (v := 1) B dL_law_360 (by decide) ?_
  refine z_iadd B dL_law_361 ?_
  refine z_seti (y := 1) (by decide) ?_
  refine z_sld (j := 1) (x := 4) B hX hbl hbA (by decide) (show ¬ ((1 : Int32) < 0 ∨ 6 ≤ (1 : Int32).toNatClampNeg) by decide) h_x1 dL_law_362 ?_
  refine z_aload_n B dL_law_363 rfl 4 rfl ?_
  refine z_iload B dL_law_364 0 rfl ?_
  refine z_iconst (v := 2) B dL_law_366 (by decide) ?_
  refine z_iadd B dL_law_367 ?_
  refine z_seti (y := 2) (by decide) ?_
  refine z_sld (j := 2) (x := x2) B hX hbl hbA (by decide) (show ¬ ((2 : Int32) < 0 ∨ 6 ≤ (2 : Int32).toNatClampNeg) by decide) h_x2 dL_law_368 ?_
  refine z_aload_n B dL_law_369 rfl 1 rfl ?_
  refine z_cSWi (As := [.ref (b + 0), .int 4, .int x2, .ref (b + 431)]) (rest := []) B cw_L_87 dL_law_370 (ci_L_start_805 l hlt (σ := (ap b σ [] [] [])) (b := b) (lyA hK) x2 q1_x2 q2_x2 (rR_at 0 0 (fz_R hF 0 0 rfl rfl)) (rR_at 1 4 (fz_R hF 1 4 rfl rfl))) rfl (by decide) rfl (Nat.le_of_ble_eq_true rfl) (by decide) (fun r u hu => ?_)
  obtain ⟨hu1, z, hu⟩ := hu
  refine z_eqs (σ' := (ap b (wx_Z σ z) [] [] [])) (hu.trans az_ap) ?_
  show zx p l e _ s m _ below meth c g 8 _ _ _ _ 373 [(4, .int 0), (3, .ref (b + 431)), (2, .ref (b + 405)), (1, .ref (b + 0)), (0, .ref bS)] _
  refine z_seti (y := 2) hu1 ?_
  refine z_istore (lv' := [(5, .int 2), (4, .int 0), (3, .ref (b + 431)), (2, .ref (b + 405)), (1, .ref (b + 0)), (0, .ref bS)]) B dL_law_373 (by decide) rfl ?_
  refine z_aload_n B dL_law_375 rfl 3 rfl ?_
  refine z_aload_n B dL_law_376 rfl 5 rfl ?_
  refine z_iload B dL_law_377 1 rfl ?_
  refine z_iconst (v := 1) B dL_law_379 (by decide) ?_
  refine z_iadd B dL_law_380 ?_
  refine z_seti (y := 1) (by decide) ?_
  refine z_sld (j := 1) (x := 4) B hX hbl hbA (by decide) (show ¬ ((1 : Int32) < 0 ∨ 6 ≤ (1 : Int32).toNatClampNeg) by decide) h_x1 dL_law_381 ?_
  refine z_aload_n B dL_law_382 rfl 5 rfl ?_
  refine z_iload B dL_law_383 1 rfl ?_
  refine z_iconst (v := 2) B dL_law_385 (by decide) ?_
  refine z_iadd B dL_law_386 ?_
  refine z_seti (y := 2) (by decide) ?_
  refine z_sld (j := 2) (x := x2) B hX hbl hbA (by decide) (show ¬ ((2 : Int32) < 0 ∨ 6 ≤ (2 : Int32).toNatClampNeg) by decide) h_x2 dL_law_387 ?_
  refine z_cVi (As := [.int 4, .int x2]) (rest := []) B cw_L_90 cx_10 dL_law_388 (ci_X9_start_806 l (σ := (ap b (wx_Z σ z) [] [] [])) (b := b) (lyA (lyZ hK)) x2 q1_x2 q2_x2 (rI_at 405 6 (lIZ (fz_I hF 405 6 rfl rfl)))) (lKA (lKZ (hk_K hK 405 rfl rfl))) rfl (by decide) rfl (Nat.le_of_ble_eq_true rfl) (by decide) (fun r u hu => ?_)
  refine z_eqs (σ' := (ap b (wx_Z σ z) [(405, 0, 2)] [] [])) (hu.2.trans ap_ap) ?_
  show zx p l e _ s m _ below meth c g 8 _ _ _ _ 391 [(5, .int 2), (4, .int 0), (3, .ref (b + 431)), (2, .ref (b + 405)), (1, .ref (b + 0)), (0, .ref bS)] _
  refine z_seti (y := 0) hu.1 ?_
  refine z_istore (lv' := [(6, .int 0), (5, .int 2), (4, .int 0), (3, .ref (b + 431)), (2, .ref (b + 405)), (1, .ref (b + 0)), (0, .ref bS)]) B dL_law_391 (by decide) rfl ?_
  refine z_aload_n B dL_law_393 rfl 4 rfl ?_
  refine z_cVi (As := []) (rest := []) B cw_L_80 cx_10 dL_law_394 (ci_X9_thrown_73 l (σ := (ap b (wx_Z σ z) [(405, 0, 2)] [] [])) (b := b) (lyA (lyZ hK)) (rI_at 405 0 rfl)) (lKA (lKZ (hk_K hK 405 rfl rfl))) rfl (by decide) rfl (Nat.le_of_ble_eq_true rfl) (by decide) (fun r u hu => ?_)
  refine z_eqs (σ' := (ap b (wx_Z σ z) [(405, 0, 2)] [] [])) hu.2 ?_
  show zx p l e _ s m _ below meth c g 8 _ _ _ _ 397 [(6, .int 0), (5, .int 2), (4, .int 0), (3, .ref (b + 431)), (2, .ref (b + 405)), (1, .ref (b + 0)), (0, .ref bS)] _
  refine z_seti (y := 2) hu.1 ?_
  refine z_iload B dL_law_397 1 rfl ?_
  refine z_icmp_eq (tgt := 404) B dL_law_399 (by decide) (fun _ => ?_) (fun h => absurd (by decide) h)
  refine z_iload B dL_law_404 1 rfl ?_
  refine z_if_ne (tgt := 421) B dL_law_406 (by decide) (fun _ => ?_) (fun h => absurd h (by decide))
  refine z_goto (tgt := 1395) B dL_law_421 (by decide) ?_
  exact z_widen (Nat.le_of_ble_eq_true rfl) (Nat.le_of_ble_eq_true rfl) (z_sub _ [2, 6] rfl (kk _))
set_option maxRecDepth 100000 in
set_option maxHeartbeats 4000000 in
theorem lf_2_300 {p : Program} {l : Launch} {e : Env} {s : State} {m : MethodId} {args : Array Value} {below : List Frame} {meth : Method} {c : Code} {g : gx_T} {Q : State → Prop} {σ : sx_T} {b t bS : Nat} {xs : Nat → Int32} (hlt : l.stackTraces = false) (B : zx_B p s m args meth c code RL 8 g) (hX : va_X bS 6 xs s s.heap) (hbl : bS < s.heap.size) (hbA : ¬ gx_b g ≤ bS) (hF : fz_P b t σ) (h_x1 : xs 1 = 4) {x2 : Int32} (h_x2 : xs 2 = x2) (q1_x2 : (-999 : Int) ≤ x2.toInt) (q2_x2 : x2.toInt ≤ (-1 : Int)) (kk : ∀ σ', zx p l e room_1 s m args below meth c g 8 600002 7302232 Q σ' 1395 [(4, .int 0), (0, .ref bS)] []) : zx p l e room_1 s m args below meth c g 8 500 100000 Q σ 356 [(4, .int 0), (3, .ref (b + 431)), (2, .ref (b + 405)), (1, .ref (b + 0)), (0, .ref bS)] [] := by
  have hK := fz_lay hF
  refine z_eqs (σ' := (ap b σ [] [] [])) rfl ?_
  refine z_aload_n B dL_law_356 rfl 3 rfl ?_
  refine z_aload_n B dL_law_357 rfl 4 rfl ?_
  refine z_iload B dL_law_358 0 rfl ?_
  refine z_iconst (v := 1) B dL_law_360 (by decide) ?_
  refine z_iadd B dL_law_361 ?_
  refine z_seti (y := 1) (by decide) ?_
  refine z_sld (j := 1) (x := 4) B hX hbl hbA (by decide) (show ¬ ((1 : Int32) < 0 ∨ 6 ≤ (1 : Int32).toNatClampNeg) by decide) h_x1 dL_law_362 ?_
  refine z_aload_n B dL_law_363 rfl 4 rfl ?_
  refine z_iload B dL_law_364 0 rfl ?_
  refine z_iconst (v := 2) B dL_law_366 (by decide) ?_
  refine z_iadd B dL_law_367 ?_
  refine z_seti (y := 2) (by decide) ?_
  refine z_sld (j := 2) (x := x2) B hX hbl hbA (by decide) (show ¬ ((2 : Int32) < 0 ∨ 6 ≤ (2 : Int32).toNatClampNeg) by decide) h_x2 dL_law_368 ?_
  refine z_aload_n B dL_law_369 rfl 1 rfl ?_
  refine z_cSWi (As := [.ref (b + 0), .int 4, .int x2, .ref (b + 431)]) (rest := []) B cw_L_87 dL_law_370 (ci_L_start_816 l (σ := (ap b σ [] [] [])) (b := b) (lyA hK) x2 q1_x2 q2_x2 (rI_at 0 7 (fz_I hF 0 7 rfl rfl)) (rI_at 5 1 (fz_I hF 5 1 rfl rfl)) (rI_at 5 2 (fz_I hF 5 2 rfl rfl)) (rI_at 7 1 (fz_I hF 7 1 rfl rfl)) (rI_at 7 2 (fz_I hF 7 2 rfl rfl)) (rI_at 26 0 (fz_I hF 26 0 rfl rfl)) (rI_at 27 0 (fz_I hF 27 0 rfl rfl)) (rI_at 28 0 (fz_I hF 28 0 rfl rfl)) (rI_at 37 2 (fz_I hF 37 2 rfl rfl)) (rI_at 40 0 (fz_I hF 40 0 rfl rfl)) (rI_at 40 8 (fz_I hF 40 8 rfl rfl)) (rR_at 0 0 (fz_R hF 0 0 rfl rfl)) (rR_at 0 2 (fz_R hF 0 2 rfl rfl)) (rR_at 0 4 (fz_R hF 0 4 rfl rfl)) (rR_at 0 5 (fz_R hF 0 5 rfl rfl)) (rR_at 1 4 (fz_R hF 1 4 rfl rfl)) (rR_at 3 0 (fz_R hF 3 0 rfl rfl)) (rR_at 5 0 (fz_R hF 5 0 rfl rfl)) (rR_at 25 1 (fz_R hF 25 1 rfl rfl)) (rR_at 25 2 (fz_R hF 25 2 rfl rfl)) (rR_at 25 3 (fz_R hF 25 3 rfl rfl)) (rR_at 37 0 (fz_R hF 37 0 rfl rfl)) (rR_at 37 1 (fz_R hF 37 1 rfl rfl)) (rR_at 40 1 (fz_R hF 40 1 rfl rfl)) (rR_at 40 2 (fz_R hF 40 2 rfl rfl)) (rR_at 40 7 (fz_R hF 40 7 rfl rfl)) (rR_at 41 0 (fz_R hF 41 0 rfl rfl)) (rR_at 41 1 (fz_R hF 41 1 rfl rfl))) rfl (by decide) rfl (Nat.le_of_ble_eq_true rfl) (by decide) (fun r u hu => ?_)
  refine z_eqs (σ' := (ap b σ [(7, 2, 0), (7, 1, 0), (40, 8, 2), (5, 2, 0), (41, 19, 0), (41, 19, 0), (41, 15, 1), (41, 4, 2), (41, 16, (-1)), (37, 2, 2), (38, 1, 13), (41, 16, 13), (41, 7, 1), (41, 5, 1), (5, 2, 1), (41, 19, 0), (41, 18, (-1)), (41, 16, (-1)), (41, 15, 0), (41, 14, 0), (41, 13, 0), (41, 12, 0), (41, 10, (-1)), (41, 9, (-1)), (41, 8, 0), (41, 7, 0), (41, 6, ((x2.toInt64).toInt32)), (41, 5, 0), (41, 4, 1), (44, 1, 0), (42, 1, 0), (37, 2, 1), (38, 0, 0), (40, 5, 0), (40, 4, (-1)), (0, 7, 1)] [(431, 0, 0), (39, 1, ((10 * (((x2.toInt64).toInt32).toInt64)) + 1)), (41, 17, ((10 * (((x2.toInt64).toInt32).toInt64)) + 1)), (41, 17, 0), (41, 11, 0), (39, 0, (x2.toInt64))] [(6, 0, (some (b + 40))), (41, 3, (some (b + 37))), (41, 2, (some (b + 25))), (40, 3, (some (b + 25)))])) (hu.2.trans ap_ap) ?_
  show zx p l e _ s m _ below meth c g 8 _ _ _ _ 373 [(4, .int 0), (3, .ref (b + 431)), (2, .ref (b + 405)), (1, .ref (b + 0)), (0, .ref bS)] _
  refine z_seti (y := 0) hu.1 ?_
  refine z_istore (lv' := [(5, .int 0), (4, .int 0), (3, .ref (b + 431)), (2, .ref (b + 405)), (1, .ref (b + 0)), (0, .ref bS)]) B dL_law_373 (by decide) rfl ?_
  refine z_aload_n B dL_law_375 rfl 3 rfl ?_
  refine z_aload_n B dL_law_376 rfl 5 rfl ?_
  refine z_iload B dL_law_377 1 rfl ?_
  refine z_iconst (v := 1) B dL_law_379 (by decide) ?_
  refine z_iadd B dL_law_380 ?_
  refine z_seti (y := 1) (by decide) ?_
  refine z_sld (j := 1) (x := 4) B hX hbl hbA (by decide) (show ¬ ((1 : Int32) < 0 ∨ 6 ≤ (1 : Int32).toNatClampNeg) by decide) h_x1 dL_law_381 ?_
  refine z_aload_n B dL_law_382 rfl 5 rfl ?_
  refine z_iload B dL_law_383 1 rfl ?_
  refine z_iconst (v := 2) B dL_law_385 (by decide) ?_
  refine z_iadd B dL_law_386 ?_
  refine z_seti (y := 2) (by decide) ?_
  refine z_sld (j := 2) (x := x2) B hX hbl hbA (by decide) (show ¬ ((2 : Int32) < 0 ∨ 6 ≤ (2 : Int32).toNatClampNeg) by decide) h_x2 dL_law_387 ?_
  refine z_cVi (As := [.int 4, .int x2]) (rest := []) B cw_L_90 cx_10 dL_law_388 (ci_X9_start_822 l (σ := (ap b σ [(7, 2, 0), (7, 1, 0), (40, 8, 2), (5, 2, 0), (41, 19, 0), (41, 19, 0), (41, 15, 1), (41, 4, 2), (41, 16, (-1)), (37, 2, 2), (38, 1, 13), (41, 16, 13), (41, 7, 1), (41, 5, 1), (5, 2, 1), (41, 19, 0), (41, 18, (-1)), (41, 16, (-1)), (41, 15, 0), (41, 14, 0), (41, 13, 0), (41, 12, 0), (41, 10, (-1)), (41, 9, (-1)), (41, 8, 0), (41, 7, 0), (41, 6, ((x2.toInt64).toInt32)), (41, 5, 0), (41, 4, 1), (44, 1, 0), (42, 1, 0), (37, 2, 1), (38, 0, 0), (40, 5, 0), (40, 4, (-1)), (0, 7, 1)] [(431, 0, 0), (39, 1, ((10 * (((x2.toInt64).toInt32).toInt64)) + 1)), (41, 17, ((10 * (((x2.toInt64).toInt32).toInt64)) + 1)), (41, 17, 0), (41, 11, 0), (39, 0, (x2.toInt64))] [(6, 0, (some (b + 40))), (41, 3, (some (b + 37))), (41, 2, (some (b + 25))), (40, 3, (some (b + 25)))])) (b := b) (lyA hK) x2 q1_x2 q2_x2 (rI_at 405 6 (fz_I hF 405 6 rfl rfl)) (rI_at 405 16 (fz_I hF 405 16 rfl rfl)) (rI_at 406 80 (fz_I hF 406 80 rfl rfl)) (rI_at 407 80 (fz_I hF 407 80 rfl rfl)) (rI_at 412 0 (fz_I hF 412 0 rfl rfl)) (rI_at 413 0 (fz_I hF 413 0 rfl rfl)) (rR_at 405 3 (fz_R hF 405 3 rfl rfl)) (rR_at 405 4 (fz_R hF 405 4 rfl rfl)) (rR_at 405 7 (fz_R hF 405 7 rfl rfl)) (rR_at 405 8 (fz_R hF 405 8 rfl rfl)) (rR_at 405 9 (fz_R hF 405 9 rfl rfl)) (rR_at 405 10 (fz_R hF 405 10 rfl rfl)) (rR_at 405 11 (fz_R hF 405 11 rfl rfl)) (rR_at 405 12 (fz_R hF 405 12 rfl rfl)) (rR_at 405 13 (fz_R hF 405 13 rfl rfl)) (rR_at 405 14 (fz_R hF 405 14 rfl rfl)) (rR_at 405 15 (fz_R hF 405 15 rfl rfl)) (rR_at 405 42 (fz_R hF 405 42 rfl rfl))) (lKA (hk_K hK 405 rfl rfl)) rfl (by decide) rfl (Nat.le_of_ble_eq_true rfl) (by decide) (fun r u hu => ?_)
  refine z_eqs (σ' := (ap b σ [(412, 0, 1), (414, 0, 2), (405, 26, 1), (405, 37, 1), (405, 27, 2), (413, 0, 2), (416, 1, 13), (405, 28, 1), (405, 38, 1), (405, 48, (-1)), (405, 27, 1), (405, 29, ((x2.toInt64).toInt32)), (405, 26, 1), (405, 47, 1), (405, 39, 0), (405, 38, 0), (405, 37, 0), (405, 36, 0), (405, 35, 0), (405, 34, 0), (405, 32, 0), (405, 31, 0), (405, 30, 0), (405, 29, 0), (405, 28, 0), (405, 27, 0), (405, 26, 1), (428, 0, 0), (405, 45, 0), (405, 43, 0), (413, 0, 1), (416, 0, 0), (415, 0, (-1)), (411, 0, 0), (410, 0, (-1)), (409, 0, 4), (405, 6, 1), (405, 0, 0), (7, 2, 0), (7, 1, 0), (40, 8, 2), (5, 2, 0), (41, 19, 0), (41, 19, 0), (41, 15, 1), (41, 4, 2), (41, 16, (-1)), (37, 2, 2), (38, 1, 13), (41, 16, 13), (41, 7, 1), (41, 5, 1), (5, 2, 1), (41, 19, 0), (41, 18, (-1)), (41, 16, (-1)), (41, 15, 0), (41, 14, 0), (41, 13, 0), (41, 12, 0), (41, 10, (-1)), (41, 9, (-1)), (41, 8, 0), (41, 7, 0), (41, 6, ((x2.toInt64).toInt32)), (41, 5, 0), (41, 4, 1), (44, 1, 0), (42, 1, 0), (37, 2, 1), (38, 0, 0), (40, 5, 0), (40, 4, (-1)), (0, 7, 1)] [(417, 1, ((10 * (((x2.toInt64).toInt32).toInt64)) + 1)), (417, 0, (x2.toInt64)), (431, 0, 0), (39, 1, ((10 * (((x2.toInt64).toInt32).toInt64)) + 1)), (41, 17, ((10 * (((x2.toInt64).toInt32).toInt64)) + 1)), (41, 17, 0), (41, 11, 0), (39, 0, (x2.toInt64))] [(6, 0, (some (b + 40))), (41, 3, (some (b + 37))), (41, 2, (some (b + 25))), (40, 3, (some (b + 25)))])) (hu.2.trans ap_ap) ?_
  show zx p l e _ s m _ below meth c g 8 _ _ _ _ 391 [(5, .int 0), (4, .int 0), (3, .ref (b + 431)), (2, .ref (b + 405)), (1, .ref (b + 0)), (0, .ref bS)] _
  refine z_seti (y := 0) hu.1 ?_
  refine z_istore (lv' := [(6, .int 0), (5, .int 0), (4, .int 0), (3, .ref (b + 431)), (2, .ref (b + 405)), (1, .ref (b + 0)), (0, .ref bS)]) B dL_law_391 (by decide) rfl ?_
  refine z_aload_n B dL_law_393 rfl 4 rfl ?_
  refine z_cVi (As := []) (rest := []) B cw_L_80 cx_10 dL_law_394 (ci_X9_thrown_95 l (σ := (ap b σ [(412, 0, 1), (414, 0, 2), (405, 26, 1), (405, 37, 1), (405, 27, 2), (413, 0, 2), (416, 1, 13), (405, 28, 1), (405, 38, 1), (405, 48, (-1)), (405, 27, 1), (405, 29, ((x2.toInt64).toInt32)), (405, 26, 1), (405, 47, 1), (405, 39, 0), (405, 38, 0), (405, 37, 0), (405, 36, 0), (405, 35, 0), (405, 34, 0), (405, 32, 0), (405, 31, 0), (405, 30, 0), (405, 29, 0), (405, 28, 0), (405, 27, 0), (405, 26, 1), (428, 0, 0), (405, 45, 0), (405, 43, 0), (413, 0, 1), (416, 0, 0), (415, 0, (-1)), (411, 0, 0), (410, 0, (-1)), (409, 0, 4), (405, 6, 1), (405, 0, 0), (7, 2, 0), (7, 1, 0), (40, 8, 2), (5, 2, 0), (41, 19, 0), (41, 19, 0), (41, 15, 1), (41, 4, 2), (41, 16, (-1)), (37, 2, 2), (38, 1, 13), (41, 16, 13), (41, 7, 1), (41, 5, 1), (5, 2, 1), (41, 19, 0), (41, 18, (-1)), (41, 16, (-1)), (41, 15, 0), (41, 14, 0), (41, 13, 0), (41, 12, 0), (41, 10, (-1)), (41, 9, (-1)), (41, 8, 0), (41, 7, 0), (41, 6, ((x2.toInt64).toInt32)), (41, 5, 0), (41, 4, 1), (44, 1, 0), (42, 1, 0), (37, 2, 1), (38, 0, 0), (40, 5, 0), (40, 4, (-1)), (0, 7, 1)] [(417, 1, ((10 * (((x2.toInt64).toInt32).toInt64)) + 1)), (417, 0, (x2.toInt64)), (431, 0, 0), (39, 1, ((10 * (((x2.toInt64).toInt32).toInt64)) + 1)), (41, 17, ((10 * (((x2.toInt64).toInt32).toInt64)) + 1)), (41, 17, 0), (41, 11, 0), (39, 0, (x2.toInt64))] [(6, 0, (some (b + 40))), (41, 3, (some (b + 37))), (41, 2, (some (b + 25))), (40, 3, (some (b + 25)))])) (b := b) (lyA hK) (rI_at 405 0 rfl)) (lKA (hk_K hK 405 rfl rfl)) rfl (by decide) rfl (Nat.le_of_ble_eq_true rfl) (by decide) (fun r u hu => ?_)
  refine z_eqs (σ' := (ap b σ [(412, 0, 1), (414, 0, 2), (405, 26, 1), (405, 37, 1), (405, 27, 2), (413, 0, 2), (416, 1, 13), (405, 28, 1), (405, 38, 1), (405, 48, (-1)), (405, 27, 1), (405, 29, ((x2.toInt64).toInt32)), (405, 26, 1), (405, 47, 1), (405, 39, 0), (405, 38, 0), (405, 37, 0), (405, 36, 0), (405, 35, 0), (405, 34, 0), (405, 32, 0), (405, 31, 0), (405, 30, 0), (405, 29, 0), (405, 28, 0), (405, 27, 0), (405, 26, 1), (428, 0, 0), (405, 45, 0), (405, 43, 0), (413, 0, 1), (416, 0, 0), (415, 0, (-1)), (411, 0, 0), (410, 0, (-1)), (409, 0, 4), (405, 6, 1), (405, 0, 0), (7, 2, 0), (7, 1, 0), (40, 8, 2), (5, 2, 0), (41, 19, 0), (41, 19, 0), (41, 15, 1), (41, 4, 2), (41, 16, (-1)), (37, 2, 2), (38, 1, 13), (41, 16, 13), (41, 7, 1), (41, 5, 1), (5, 2, 1), (41, 19, 0), (41, 18, (-1)), (41, 16, (-1)), (41, 15, 0), (41, 14, 0), (41, 13, 0), (41, 12, 0), (41, 10, (-1)), (41, 9, (-1)), (41, 8, 0), (41, 7, 0), (41, 6, ((x2.toInt64).toInt32)), (41, 5, 0), (41, 4, 1), (44, 1, 0), (42, 1, 0), (37, 2, 1), (38, 0, 0), (40, 5, 0), (40, 4, (-1)), (0, 7, 1)] [(417, 1, ((10 * (((x2.toInt64).toInt32).toInt64)) + 1)), (417, 0, (x2.toInt64)), (431, 0, 0), (39, 1, ((10 * (((x2.toInt64).toInt32).toInt64)) + 1)), (41, 17, ((10 * (((x2.toInt64).toInt32).toInt64)) + 1)), (41, 17, 0), (41, 11, 0), (39, 0, (x2.toInt64))] [(6, 0, (some (b + 40))), (41, 3, (some (b + 37))), (41, 2, (some (b + 25))), (40, 3, (some (b + 25)))])) hu.2 ?_
  show zx p l e _ s m _ below meth c g 8 _ _ _ _ 397 [(6, .int 0), (5, .int 0), (4, .int 0), (3, .ref (b + 431)), (2, .ref (b + 405)), (1, .ref (b + 0)), (0, .ref bS)] _
  refine z_seti (y := 0) hu.1 ?_
  refine z_iload B dL_law_397 1 rfl ?_
  refine z_icmp_eq (tgt := 404) B dL_law_399 (by decide) (fun _ => ?_) (fun h => absurd (by decide) h)
  refine z_iload B dL_law_404 1 rfl ?_
  refine z_if_ne (tgt := 421) B dL_law_406 (by decide) (fun h => absurd (by decide) h) (fun _ => ?_)
  refine z_aload_n B dL_law_409 rfl 3 rfl ?_
  refine z_iconst (v := 0) B dL_law_410 (by decide) ?_
  refine z_lald (j := 0) (x := 0) B (lKA (hk_K hK 431 rfl rfl)) (by decide) (in_of (lNA (hk_N hK 431 rfl rfl)) (show ¬ ((0 : Int32) < 0 ∨ 1 ≤ (0 : Int32).toNatClampNeg) by decide)) (rJ_at 431 0 rfl) dL_law_411 ?_
  refine z_iload B dL_law_412 0 rfl ?_
  refine z_i2l (v := 0) B dL_law_414 (by decide) ?_
  refine z_lcmp (v := 0) B dL_law_415 (by decide) ?_
  refine z_if_eq (tgt := 421) B dL_law_416 (by decide) (fun _ => ?_) (fun h => absurd (by decide) h)
  refine z_goto (tgt := 1395) B dL_law_421 (by decide) ?_
  exact z_widen (Nat.le_of_ble_eq_true rfl) (Nat.le_of_ble_eq_true rfl) (z_sub _ [2, 6] rfl (kk _))
set_option maxRecDepth 100000 in
set_option maxHeartbeats 4000000 in
theorem lf_2_301 {p : Program} {l : Launch} {e : Env} {s : State} {m : MethodId} {args : Array Value} {below : List Frame} {meth : Method} {c : Code} {g : gx_T} {Q : State → Prop} {σ : sx_T} {b t bS : Nat} {xs : Nat → Int32} (hlt : l.stackTraces = false) (B : zx_B p s m args meth c code RL 8 g) (hX : va_X bS 6 xs s s.heap) (hbl : bS < s.heap.size) (hbA : ¬ gx_b g ≤ bS) (hF : fz_P b t σ) (h_x1 : xs 1 = 4) {x2 : Int32} (h_x2 : xs 2 = x2) (q1_x2 : (0 : Int) ≤ x2.toInt) (q2_x2 : x2.toInt ≤ (999 : Int)) (kk : ∀ σ', zx p l e room_1 s m args below meth c g 8 600002 7302232 Q σ' 1395 [(4, .int 0), (0, .ref bS)] []) : zx p l e room_1 s m args below meth c g 8 500 100000 Q σ 356 [(4, .int 0), (3, .ref (b + 431)), (2, .ref (b + 405)), (1, .ref (b + 0)), (0, .ref bS)] [] := by
  have hK := fz_lay hF
  refine z_eqs (σ' := (ap b σ [] [] [])) rfl ?_
  refine z_aload_n B dL_law_356 rfl 3 rfl ?_
  refine z_aload_n B dL_law_357 rfl 4 rfl ?_
  refine z_iload B dL_law_358 0 rfl ?_
  refine z_iconst (v := 1) B dL_law_360 (by decide) ?_
  refine z_iadd B dL_law_361 ?_
  refine z_seti (y := 1) (by decide) ?_
  refine z_sld (j := 1) (x := 4) B hX hbl hbA (by decide) (show ¬ ((1 : Int32) < 0 ∨ 6 ≤ (1 : Int32).toNatClampNeg) by decide) h_x1 dL_law_362 ?_
  refine z_aload_n B dL_law_363 rfl 4 rfl ?_
  refine z_iload B dL_law_364 0 rfl ?_
  refine z_iconst (v := 2) B dL_law_366 (by decide) ?_
  refine z_iadd B dL_law_367 ?_
  refine z_seti (y := 2) (by decide) ?_
  refine z_sld (j := 2) (x := x2) B hX hbl hbA (by decide) (show ¬ ((2 : Int32) < 0 ∨ 6 ≤ (2 : Int32).toNatClampNeg) by decide) h_x2 dL_law_368 ?_
  refine z_aload_n B dL_law_369 rfl 1 rfl ?_
  refine z_cSWi (As := [.ref (b + 0), .int 4, .int x2, .ref (b + 431)]) (rest := []) B cw_L_87 dL_law_370 (ci_L_start_825 l (σ := (ap b σ [] [] [])) (b := b) (lyA hK) x2 q1_x2 q2_x2 (rI_at 0 7 (fz_I hF 0 7 rfl rfl)) (rI_at 5 1 (fz_I hF 5 1 rfl rfl)) (rI_at 5 2 (fz_I hF 5 2 rfl rfl)) (rI_at 7 1 (fz_I hF 7 1 rfl rfl)) (rI_at 7 2 (fz_I hF 7 2 rfl rfl)) (rI_at 26 0 (fz_I hF 26 0 rfl rfl)) (rI_at 27 0 (fz_I hF 27 0 rfl rfl)) (rI_at 28 0 (fz_I hF 28 0 rfl rfl)) (rI_at 37 2 (fz_I hF 37 2 rfl rfl)) (rI_at 40 0 (fz_I hF 40 0 rfl rfl)) (rI_at 40 8 (fz_I hF 40 8 rfl rfl)) (rR_at 0 0 (fz_R hF 0 0 rfl rfl)) (rR_at 0 2 (fz_R hF 0 2 rfl rfl)) (rR_at 0 4 (fz_R hF 0 4 rfl rfl)) (rR_at 0 5 (fz_R hF 0 5 rfl rfl)) (rR_at 1 4 (fz_R hF 1 4 rfl rfl)) (rR_at 3 0 (fz_R hF 3 0 rfl rfl)) (rR_at 5 0 (fz_R hF 5 0 rfl rfl)) (rR_at 25 1 (fz_R hF 25 1 rfl rfl)) (rR_at 25 2 (fz_R hF 25 2 rfl rfl)) (rR_at 25 3 (fz_R hF 25 3 rfl rfl)) (rR_at 37 0 (fz_R hF 37 0 rfl rfl)) (rR_at 37 1 (fz_R hF 37 1 rfl rfl)) (rR_at 40 1 (fz_R hF 40 1 rfl rfl)) (rR_at 40 2 (fz_R hF 40 2 rfl rfl)) (rR_at 40 7 (fz_R hF 40 7 rfl rfl)) (rR_at 41 0 (fz_R hF 41 0 rfl rfl)) (rR_at 41 1 (fz_R hF 41 1 rfl rfl))) rfl (by decide) rfl (Nat.le_of_ble_eq_true rfl) (by decide) (fun r u hu => ?_)
  refine z_eqs (σ' := (ap b σ [(7, 2, 0), (7, 1, 0), (40, 8, 2), (5, 2, 0), (41, 19, 0), (41, 19, 0), (41, 15, 1), (41, 4, 2), (41, 16, (-1)), (37, 2, 2), (38, 1, 13), (41, 16, 13), (41, 7, 1), (41, 5, 1), (5, 2, 1), (41, 19, 0), (41, 18, (-1)), (41, 16, (-1)), (41, 15, 0), (41, 14, 0), (41, 13, 0), (41, 12, 0), (41, 10, (-1)), (41, 9, (-1)), (41, 8, 0), (41, 7, 0), (41, 6, ((x2.toInt64).toInt32)), (41, 5, 0), (41, 4, 1), (44, 1, 0), (42, 1, 0), (37, 2, 1), (38, 0, 0), (40, 5, 0), (40, 4, (-1)), (0, 7, 1)] [(431, 0, 0), (39, 1, ((10 * (((x2.toInt64).toInt32).toInt64)) + 1)), (41, 17, ((10 * (((x2.toInt64).toInt32).toInt64)) + 1)), (41, 17, 0), (41, 11, 0), (39, 0, (x2.toInt64))] [(6, 0, (some (b + 40))), (41, 3, (some (b + 37))), (41, 2, (some (b + 25))), (40, 3, (some (b + 25)))])) (hu.2.trans ap_ap) ?_
  show zx p l e _ s m _ below meth c g 8 _ _ _ _ 373 [(4, .int 0), (3, .ref (b + 431)), (2, .ref (b + 405)), (1, .ref (b + 0)), (0, .ref bS)] _
  refine z_seti (y := 0) hu.1 ?_
  refine z_istore (lv' := [(5, .int 0), (4, .int 0), (3, .ref (b + 431)), (2, .ref (b + 405)), (1, .ref (b + 0)), (0, .ref bS)]) B dL_law_373 (by decide) rfl ?_
  refine z_aload_n B dL_law_375 rfl 3 rfl ?_
  refine z_aload_n B dL_law_376 rfl 5 rfl ?_
  refine z_iload B dL_law_377 1 rfl ?_
  refine z_iconst (v := 1) B dL_law_379 (by decide) ?_
  refine z_iadd B dL_law_380 ?_
  refine z_seti (y := 1) (by decide) ?_
  refine z_sld (j := 1) (x := 4) B hX hbl hbA (by decide) (show ¬ ((1 : Int32) < 0 ∨ 6 ≤ (1 : Int32).toNatClampNeg) by decide) h_x1 dL_law_381 ?_
  refine z_aload_n B dL_law_382 rfl 5 rfl ?_
  refine z_iload B dL_law_383 1 rfl ?_
  refine z_iconst (v := 2) B dL_law_385 (by decide) ?_
  refine z_iadd B dL_law_386 ?_
  refine z_seti (y := 2) (by decide) ?_
  refine z_sld (j := 2) (x := x2) B hX hbl hbA (by decide) (show ¬ ((2 : Int32) < 0 ∨ 6 ≤ (2 : Int32).toNatClampNeg) by decide) h_x2 dL_law_387 ?_
  refine z_cVi (As := [.int 4, .int x2]) (rest := []) B cw_L_90 cx_10 dL_law_388 (ci_X9_start_826 l (σ := (ap b σ [(7, 2, 0), (7, 1, 0), (40, 8, 2), (5, 2, 0), (41, 19, 0), (41, 19, 0), (41, 15, 1), (41, 4, 2), (41, 16, (-1)), (37, 2, 2), (38, 1, 13), (41, 16, 13), (41, 7, 1), (41, 5, 1), (5, 2, 1), (41, 19, 0), (41, 18, (-1)), (41, 16, (-1)), (41, 15, 0), (41, 14, 0), (41, 13, 0), (41, 12, 0), (41, 10, (-1)), (41, 9, (-1)), (41, 8, 0), (41, 7, 0), (41, 6, ((x2.toInt64).toInt32)), (41, 5, 0), (41, 4, 1), (44, 1, 0), (42, 1, 0), (37, 2, 1), (38, 0, 0), (40, 5, 0), (40, 4, (-1)), (0, 7, 1)] [(431, 0, 0), (39, 1, ((10 * (((x2.toInt64).toInt32).toInt64)) + 1)), (41, 17, ((10 * (((x2.toInt64).toInt32).toInt64)) + 1)), (41, 17, 0), (41, 11, 0), (39, 0, (x2.toInt64))] [(6, 0, (some (b + 40))), (41, 3, (some (b + 37))), (41, 2, (some (b + 25))), (40, 3, (some (b + 25)))])) (b := b) (lyA hK) x2 q1_x2 q2_x2 (rI_at 405 6 (fz_I hF 405 6 rfl rfl)) (rI_at 405 16 (fz_I hF 405 16 rfl rfl)) (rI_at 406 80 (fz_I hF 406 80 rfl rfl)) (rI_at 407 80 (fz_I hF 407 80 rfl rfl)) (rI_at 412 0 (fz_I hF 412 0 rfl rfl)) (rI_at 413 0 (fz_I hF 413 0 rfl rfl)) (rR_at 405 3 (fz_R hF 405 3 rfl rfl)) (rR_at 405 4 (fz_R hF 405 4 rfl rfl)) (rR_at 405 7 (fz_R hF 405 7 rfl rfl)) (rR_at 405 8 (fz_R hF 405 8 rfl rfl)) (rR_at 405 9 (fz_R hF 405 9 rfl rfl)) (rR_at 405 10 (fz_R hF 405 10 rfl rfl)) (rR_at 405 11 (fz_R hF 405 11 rfl rfl)) (rR_at 405 12 (fz_R hF 405 12 rfl rfl)) (rR_at 405 13 (fz_R hF 405 13 rfl rfl)) (rR_at 405 14 (fz_R hF 405 14 rfl rfl)) (rR_at 405 15 (fz_R hF 405 15 rfl rfl)) (rR_at 405 42 (fz_R hF 405 42 rfl rfl))) (lKA (hk_K hK 405 rfl rfl)) rfl (by decide) rfl (Nat.le_of_ble_eq_true rfl) (by decide) (fun r u hu => ?_)
  refine z_eqs (σ' := (ap b σ [(412, 0, 1), (414, 0, 2), (405, 26, 1), (405, 37, 1), (405, 27, 2), (413, 0, 2), (416, 1, 13), (405, 28, 1), (405, 38, 1), (405, 48, (-1)), (405, 27, 1), (405, 29, ((x2.toInt64).toInt32)), (405, 26, 1), (405, 47, 1), (405, 39, 0), (405, 38, 0), (405, 37, 0), (405, 36, 0), (405, 35, 0), (405, 34, 0), (405, 32, 0), (405, 31, 0), (405, 30, 0), (405, 29, 0), (405, 28, 0), (405, 27, 0), (405, 26, 1), (428, 0, 0), (405, 45, 0), (405, 43, 0), (413, 0, 1), (416, 0, 0), (415, 0, (-1)), (411, 0, 0), (410, 0, (-1)), (409, 0, 4), (405, 6, 1), (405, 0, 0), (7, 2, 0), (7, 1, 0), (40, 8, 2), (5, 2, 0), (41, 19, 0), (41, 19, 0), (41, 15, 1), (41, 4, 2), (41, 16, (-1)), (37, 2, 2), (38, 1, 13), (41, 16, 13), (41, 7, 1), (41, 5, 1), (5, 2, 1), (41, 19, 0), (41, 18, (-1)), (41, 16, (-1)), (41, 15, 0), (41, 14, 0), (41, 13, 0), (41, 12, 0), (41, 10, (-1)), (41, 9, (-1)), (41, 8, 0), (41, 7, 0), (41, 6, ((x2.toInt64).toInt32)), (41, 5, 0), (41, 4, 1), (44, 1, 0), (42, 1, 0), (37, 2, 1), (38, 0, 0), (40, 5, 0), (40, 4, (-1)), (0, 7, 1)] [(417, 1, ((10 * (((x2.toInt64).toInt32).toInt64)) + 1)), (417, 0, (x2.toInt64)), (431, 0, 0), (39, 1, ((10 * (((x2.toInt64).toInt32).toInt64)) + 1)), (41, 17, ((10 * (((x2.toInt64).toInt32).toInt64)) + 1)), (41, 17, 0), (41, 11, 0), (39, 0, (x2.toInt64))] [(6, 0, (some (b + 40))), (41, 3, (some (b + 37))), (41, 2, (some (b + 25))), (40, 3, (some (b + 25)))])) (hu.2.trans ap_ap) ?_
  show zx p l e _ s m _ below meth c g 8 _ _ _ _ 391 [(5, .int 0), (4, .int 0), (3, .ref (b + 431)), (2, .ref (b + 405)), (1, .ref (b + 0)), (0, .ref bS)] _
  refine z_seti (y := 0) hu.1 ?_
  refine z_istore (lv' := [(6, .int 0), (5, .int 0), (4, .int 0), (3, .ref (b + 431)), (2, .ref (b + 405)), (1, .ref (b + 0)), (0, .ref bS)]) B dL_law_391 (by decide) rfl ?_
  refine z_aload_n B dL_law_393 rfl 4 rfl ?_
  refine z_cVi (As := []) (rest := []) B cw_L_80 cx_10 dL_law_394 (ci_X9_thrown_95 l (σ := (ap b σ [(412, 0, 1), (414, 0, 2), (405, 26, 1), (405, 37, 1), (405, 27, 2), (413, 0, 2), (416, 1, 13), (405, 28, 1), (405, 38, 1), (405, 48, (-1)), (405, 27, 1), (405, 29, ((x2.toInt64).toInt32)), (405, 26, 1), (405, 47, 1), (405, 39, 0), (405, 38, 0), (405, 37, 0), (405, 36, 0), (405, 35, 0), (405, 34, 0), (405, 32, 0), (405, 31, 0), (405, 30, 0), (405, 29, 0), (405, 28, 0), (405, 27, 0), (405, 26, 1), (428, 0, 0), (405, 45, 0), (405, 43, 0), (413, 0, 1), (416, 0, 0), (415, 0, (-1)), (411, 0, 0), (410, 0, (-1)), (409, 0, 4), (405, 6, 1), (405, 0, 0), (7, 2, 0), (7, 1, 0), (40, 8, 2), (5, 2, 0), (41, 19, 0), (41, 19, 0), (41, 15, 1), (41, 4, 2), (41, 16, (-1)), (37, 2, 2), (38, 1, 13), (41, 16, 13), (41, 7, 1), (41, 5, 1), (5, 2, 1), (41, 19, 0), (41, 18, (-1)), (41, 16, (-1)), (41, 15, 0), (41, 14, 0), (41, 13, 0), (41, 12, 0), (41, 10, (-1)), (41, 9, (-1)), (41, 8, 0), (41, 7, 0), (41, 6, ((x2.toInt64).toInt32)), (41, 5, 0), (41, 4, 1), (44, 1, 0), (42, 1, 0), (37, 2, 1), (38, 0, 0), (40, 5, 0), (40, 4, (-1)), (0, 7, 1)] [(417, 1, ((10 * (((x2.toInt64).toInt32).toInt64)) + 1)), (417, 0, (x2.toInt64)), (431, 0, 0), (39, 1, ((10 * (((x2.toInt64).toInt32).toInt64)) + 1)), (41, 17, ((10 * (((x2.toInt64).toInt32).toInt64)) + 1)), (41, 17, 0), (41, 11, 0), (39, 0, (x2.toInt64))] [(6, 0, (some (b + 40))), (41, 3, (some (b + 37))), (41, 2, (some (b + 25))), (40, 3, (some (b + 25)))])) (b := b) (lyA hK) (rI_at 405 0 rfl)) (lKA (hk_K hK 405 rfl rfl)) rfl (by decide) rfl (Nat.le_of_ble_eq_true rfl) (by decide) (fun r u hu => ?_)
  refine z_eqs (σ' := (ap b σ [(412, 0, 1), (414, 0, 2), (405, 26, 1), (405, 37, 1), (405, 27, 2), (413, 0, 2), (416, 1, 13), (405, 28, 1), (405, 38, 1), (405, 48, (-1)), (405, 27, 1), (405, 29, ((x2.toInt64).toInt32)), (405, 26, 1), (405, 47, 1), (405, 39, 0), (405, 38, 0), (405, 37, 0), (405, 36, 0), (405, 35, 0), (405, 34, 0), (405, 32, 0), (405, 31, 0), (405, 30, 0), (405, 29, 0), (405, 28, 0), (405, 27, 0), (405, 26, 1), (428, 0, 0), (405, 45, 0), (405, 43, 0), (413, 0, 1), (416, 0, 0), (415, 0, (-1)), (411, 0, 0), (410, 0, (-1)), (409, 0, 4), (405, 6, 1), (405, 0, 0), (7, 2, 0), (7, 1, 0), (40, 8, 2), (5, 2, 0), (41, 19, 0), (41, 19, 0), (41, 15, 1), (41, 4, 2), (41, 16, (-1)), (37, 2, 2), (38, 1, 13), (41, 16, 13), (41, 7, 1), (41, 5, 1), (5, 2, 1), (41, 19, 0), (41, 18, (-1)), (41, 16, (-1)), (41, 15, 0), (41, 14, 0), (41, 13, 0), (41, 12, 0), (41, 10, (-1)), (41, 9, (-1)), (41, 8, 0), (41, 7, 0), (41, 6, ((x2.toInt64).toInt32)), (41, 5, 0), (41, 4, 1), (44, 1, 0), (42, 1, 0), (37, 2, 1), (38, 0, 0), (40, 5, 0), (40, 4, (-1)), (0, 7, 1)] [(417, 1, ((10 * (((x2.toInt64).toInt32).toInt64)) + 1)), (417, 0, (x2.toInt64)), (431, 0, 0), (39, 1, ((10 * (((x2.toInt64).toInt32).toInt64)) + 1)), (41, 17, ((10 * (((x2.toInt64).toInt32).toInt64)) + 1)), (41, 17, 0), (41, 11, 0), (39, 0, (x2.toInt64))] [(6, 0, (some (b + 40))), (41, 3, (some (b + 37))), (41, 2, (some (b + 25))), (40, 3, (some (b + 25)))])) hu.2 ?_
  show zx p l e _ s m _ below meth c g 8 _ _ _ _ 397 [(6, .int 0), (5, .int 0), (4, .int 0), (3, .ref (b + 431)), (2, .ref (b + 405)), (1, .ref (b + 0)), (0, .ref bS)] _
  refine z_seti (y := 0) hu.1 ?_
  refine z_iload B dL_law_397 1 rfl ?_
  refine z_icmp_eq (tgt := 404) B dL_law_399 (by decide) (fun _ => ?_) (fun h => absurd (by decide) h)
  refine z_iload B dL_law_404 1 rfl ?_
  refine z_if_ne (tgt := 421) B dL_law_406 (by decide) (fun h => absurd (by decide) h) (fun _ => ?_)
  refine z_aload_n B dL_law_409 rfl 3 rfl ?_
  refine z_iconst (v := 0) B dL_law_410 (by decide) ?_
  refine z_lald (j := 0) (x := 0) B (lKA (hk_K hK 431 rfl rfl)) (by decide) (in_of (lNA (hk_N hK 431 rfl rfl)) (show ¬ ((0 : Int32) < 0 ∨ 1 ≤ (0 : Int32).toNatClampNeg) by decide)) (rJ_at 431 0 rfl) dL_law_411 ?_
  refine z_iload B dL_law_412 0 rfl ?_
  refine z_i2l (v := 0) B dL_law_414 (by decide) ?_
  refine z_lcmp (v := 0) B dL_law_415 (by decide) ?_
  refine z_if_eq (tgt := 421) B dL_law_416 (by decide) (fun _ => ?_) (fun h => absurd (by decide) h)
  refine z_goto (tgt := 1395) B dL_law_421 (by decide) ?_
  exact z_widen (Nat.le_of_ble_eq_true rfl) (Nat.le_of_ble_eq_true rfl) (z_sub _ [2, 6] rfl (kk _))
set_option maxRecDepth 100000 in
set_option maxHeartbeats 4000000 in
theorem lf_2_302 {p : Program} {l : Launch} {e : Env} {s : State} {m : MethodId} {args : Array Value} {below : List Frame} {meth : Method} {c : Code} {g : gx_T} {Q : State → Prop} {σ : sx_T} {b t bS : Nat} {xs : Nat → Int32} (hlt : l.stackTraces = false) (B : zx_B p s m args meth c code RL 8 g) (hX : va_X bS 6 xs s s.heap) (hbl : bS < s.heap.size) (hbA : ¬ gx_b g ≤ bS) (hF : fz_P b t σ) (h_x1 : xs 1 = 4) {x2 : Int32} (h_x2 : xs 2 = x2) (q1_x2 : (1000 : Int) ≤ x2.toInt) (q2_x2 : x2.toInt ≤ (2147483647 : Int)) (kk : ∀ σ', zx p l e room_1 s m args below meth c g 8 600002 7302232 Q σ' 1395 [(4, .int 0), (0, .ref bS)] []) : zx p l e room_1 s m args below meth c g 8 500 100000 Q σ 356 [(4, .int 0), (3, .ref (b + 431)), (2, .ref (b + 405)), (1, .ref (b + 0)), (0, .ref bS)] [] := by
  have hK := fz_lay hF
  refine z_eqs (σ' := (ap b σ [] [] [])) rfl ?_
  refine z_aload_n B dL_law_356 rfl 3 rfl ?_
  refine z_aload_n B dL_law_357 rfl 4 rfl ?_
  refine z_iload B dL_law_358 0 rfl ?_
  refine z_iconst (v := 1) B dL_law_360 (by decide) ?_
  refine z_iadd B dL_law_361 ?_
  refine z_seti (y := 1) (by decide) ?_
  refine z_sld (j := 1) (x := 4) B hX hbl hbA (by decide) (show ¬ ((1 : Int32) < 0 ∨ 6 ≤ (1 : Int32).toNatClampNeg) by decide) h_x1 dL_law_362 ?_
  refine z_aload_n B dL_law_363 rfl 4 rfl ?_
  refine z_iload B dL_law_364 0 rfl ?_
  refine z_iconst (v := 2) B dL_law_366 (by decide) ?_
  refine z_iadd B dL_law_367 ?_
  refine z_seti (y := 2) (by decide) ?_
  refine z_sld (j := 2) (x := x2) B hX hbl hbA (by decide) (show ¬ ((2 : Int32) < 0 ∨ 6 ≤ (2 : Int32).toNatClampNeg) by decide) h_x2 dL_law_368 ?_
  refine z_aload_n B dL_law_369 rfl 1 rfl ?_
  refine z_cSWi (As := [.ref (b + 0), .int 4, .int x2, .ref (b + 431)]) (rest := []) B cw_L_87 dL_law_370 (ci_L_start_828 l hlt (σ := (ap b σ [] [] [])) (b := b) (lyA hK) x2 q1_x2 q2_x2 (rR_at 0 0 (fz_R hF 0 0 rfl rfl)) (rR_at 1 4 (fz_R hF 1 4 rfl rfl))) rfl (by decide) rfl (Nat.le_of_ble_eq_true rfl) (by decide) (fun r u hu => ?_)
  obtain ⟨hu1, z, hu⟩ := hu
  refine z_eqs (σ' := (ap b (wx_Z σ z) [] [] [])) (hu.trans az_ap) ?_
  show zx p l e _ s m _ below meth c g 8 _ _ _ _ 373 [(4, .int 0), (3, .ref (b + 431)), (2, .ref (b + 405)), (1, .ref (b + 0)), (0, .ref bS)] _
  refine z_seti (y := 2) hu1 ?_
  refine z_istore (lv' := [(5, .int 2), (4, .int 0), (3, .ref (b + 431)), (2, .ref (b + 405)), (1, .ref (b + 0)), (0, .ref bS)]) B dL_law_373 (by decide) rfl ?_
  refine z_aload_n B dL_law_375 rfl 3 rfl ?_
  refine z_aload_n B dL_law_376 rfl 5 rfl ?_
  refine z_iload B dL_law_377 1 rfl ?_
  refine z_iconst (v := 1) B dL_law_379 (by decide) ?_
  refine z_iadd B dL_law_380 ?_
  refine z_seti (y := 1) (by decide) ?_
  refine z_sld (j := 1) (x := 4) B hX hbl hbA (by decide) (show ¬ ((1 : Int32) < 0 ∨ 6 ≤ (1 : Int32).toNatClampNeg) by decide) h_x1 dL_law_381 ?_
  refine z_aload_n B dL_law_382 rfl 5 rfl ?_
  refine z_iload B dL_law_383 1 rfl ?_
  refine z_iconst (v := 2) B dL_law_385 (by decide) ?_
  refine z_iadd B dL_law_386 ?_
  refine z_seti (y := 2) (by decide) ?_
  refine z_sld (j := 2) (x := x2) B hX hbl hbA (by decide) (show ¬ ((2 : Int32) < 0 ∨ 6 ≤ (2 : Int32).toNatClampNeg) by decide) h_x2 dL_law_387 ?_
  refine z_cVi (As := [.int 4, .int x2]) (rest := []) B cw_L_90 cx_10 dL_law_388 (ci_X9_start_829 l (σ := (ap b (wx_Z σ z) [] [] [])) (b := b) (lyA (lyZ hK)) x2 q1_x2 q2_x2 (rI_at 405 6 (lIZ (fz_I hF 405 6 rfl rfl)))) (lKA (lKZ (hk_K hK 405 rfl rfl))) rfl (by decide) rfl (Nat.le_of_ble_eq_true rfl) (by decide) (fun r u hu => ?_)
  refine z_eqs (σ' := (ap b (wx_Z σ z) [(405, 0, 2)] [] [])) (hu.2.trans ap_ap) ?_
  show zx p l e _ s m _ below meth c g 8 _ _ _ _ 391 [(5, .int 2), (4, .int 0), (3, .ref (b + 431)), (2, .ref (b + 405)), (1, .ref (b + 0)), (0, .ref bS)] _
  refine z_seti (y := 0) hu.1 ?_
  refine z_istore (lv' := [(6, .int 0), (5, .int 2), (4, .int 0), (3, .ref (b + 431)), (2, .ref (b + 405)), (1, .ref (b + 0)), (0, .ref bS)]) B dL_law_391 (by decide) rfl ?_
  refine z_aload_n B dL_law_393 rfl 4 rfl ?_
  refine z_cVi (As := []) (rest := []) B cw_L_80 cx_10 dL_law_394 (ci_X9_thrown_73 l (σ := (ap b (wx_Z σ z) [(405, 0, 2)] [] [])) (b := b) (lyA (lyZ hK)) (rI_at 405 0 rfl)) (lKA (lKZ (hk_K hK 405 rfl rfl))) rfl (by decide) rfl (Nat.le_of_ble_eq_true rfl) (by decide) (fun r u hu => ?_)
  refine z_eqs (σ' := (ap b (wx_Z σ z) [(405, 0, 2)] [] [])) hu.2 ?_
  show zx p l e _ s m _ below meth c g 8 _ _ _ _ 397 [(6, .int 0), (5, .int 2), (4, .int 0), (3, .ref (b + 431)), (2, .ref (b + 405)), (1, .ref (b + 0)), (0, .ref bS)] _
  refine z_seti (y := 2) hu.1 ?_
  refine z_iload B dL_law_397 1 rfl ?_
  refine z_icmp_eq (tgt := 404) B dL_law_399 (by decide) (fun _ => ?_) (fun h => absurd (by decide) h)
  refine z_iload B dL_law_404 1 rfl ?_
  refine z_if_ne (tgt := 421) B dL_law_406 (by decide) (fun _ => ?_) (fun h => absurd h (by decide))
  refine z_goto (tgt := 1395) B dL_law_421 (by decide) ?_
  exact z_widen (Nat.le_of_ble_eq_true rfl) (Nat.le_of_ble_eq_true rfl) (z_sub _ [2, 6] rfl (kk _))
set_option maxRecDepth 100000 in
set_option maxHeartbeats 4000000 in
theorem lf_2_303 {p : Program} {l : Launch} {e : Env} {s : State} {m : MethodId} {args : Array Value} {below : List Frame} {meth : Method} {c : Code} {g : gx_T} {Q : State → Prop} {σ : sx_T} {b t bS : Nat} {xs : Nat → Int32} (hlt : l.stackTraces = false) (B : zx_B p s m args meth c code RL 8 g) (hX : va_X bS 6 xs s s.heap) (hbl : bS < s.heap.size) (hbA : ¬ gx_b g ≤ bS) (hF : fz_P b t σ) (h_x1 : xs 1 = 5) {x2 : Int32} (h_x2 : xs 2 = x2) (q1_x2 : (-2147483648 : Int) ≤ x2.toInt) (q2_x2 : x2.toInt ≤ (-1000 : Int)) (kk : ∀ σ', zx p l e room_1 s m args below meth c g 8 600002 7302232 Q σ' 1395 [(4, .int 0), (0, .ref bS)] []) : zx p l e room_1 s m args below meth c g 8 500 100000 Q σ 356 [(4, .int 0), (3, .ref (b + 431)), (2, .ref (b + 405)), (1, .ref (b + 0)), (0, .ref bS)] [] := by
  have hK := fz_lay hF
  refine z_eqs (σ' := (ap b σ [] [] [])) rfl ?_
  refine z_aload_n B dL_law_356 rfl 3 rfl ?_
  refine z_aload_n B dL_law_357 rfl 4 rfl ?_
  refine z_iload B dL_law_358 0 rfl ?_
  refine z_iconst (v := 1) B dL_law_360 (by decide) ?_
  refine z_iadd B dL_law_361 ?_
  refine z_seti (y := 1) (by decide) ?_
  refine z_sld (j := 1) (x := 5) B hX hbl hbA (by decide) (show ¬ ((1 : Int32) < 0 ∨ 6 ≤ (1 : Int32).toNatClampNeg) by decide) h_x1 dL_law_362 ?_
  refine z_aload_n B dL_law_363 rfl 4 rfl ?_
  refine z_iload B dL_law_364 0 rfl ?_
  refine z_iconst (v := 2) B dL_law_366 (by decide) ?_
  refine z_iadd B dL_law_367 ?_
  refine z_seti (y := 2) (by decide) ?_
  refine z_sld (j := 2) (x := x2) B hX hbl hbA (by decide) (show ¬ ((2 : Int32) < 0 ∨ 6 ≤ (2 : Int32).toNatClampNeg) by decide) h_x2 dL_law_368 ?_
  refine z_aload_n B dL_law_369 rfl 1 rfl ?_
  refine z_cSWi (As := [.ref (b + 0), .int 5, .int x2, .ref (b + 431)]) (rest := []) B cw_L_87 dL_law_370 (ci_L_start_831 l hlt (σ := (ap b σ [] [] [])) (b := b) (lyA hK) x2 q1_x2 q2_x2 (rR_at 0 0 (fz_R hF 0 0 rfl rfl)) (rR_at 1 5 (fz_R hF 1 5 rfl rfl))) rfl (by decide) rfl (Nat.le_of_ble_eq_true rfl) (by decide) (fun r u hu => ?_)
  obtain ⟨hu1, z, hu⟩ := hu
  refine z_eqs (σ' := (ap b (wx_Z σ z) [] [] [])) (hu.trans az_ap) ?_
  show zx p l e _ s m _ below meth c g 8 _ _ _ _ 373 [(4, .int 0), (3, .ref (b + 431)), (2, .ref (b + 405)), (1, .ref (b + 0)), (0, .ref bS)] _
  refine z_seti (y := 2) hu1 ?_
  refine z_istore (lv' := [(5, .int 2), (4, .int 0), (3, .ref (b + 431)), (2, .ref (b + 405)), (1, .ref (b + 0)), (0, .ref bS)]) B dL_law_373 (by decide) rfl ?_
  refine z_aload_n B dL_law_375 rfl 3 rfl ?_
  refine z_aload_n B dL_law_376 rfl 5 rfl ?_
  refine z_iload B dL_law_377 1 rfl ?_
  refine z_iconst (v := 1) B dL_law_379 (by decide) ?_
  refine z_iadd B dL_law_380 ?_
  refine z_seti (y := 1) (by decide) ?_
  refine z_sld (j := 1) (x := 5) B hX hbl hbA (by decide) (show ¬ ((1 : Int32) < 0 ∨ 6 ≤ (1 : Int32).toNatClampNeg) by decide) h_x1 dL_law_381 ?_
  refine z_aload_n B dL_law_382 rfl 5 rfl ?_
  refine z_iload B dL_law_383 1 rfl ?_
  refine z_iconst (v := 2) B dL_law_385 (by decide) ?_
  refine z_iadd B dL_law_386 ?_
  refine z_seti (y := 2) (by decide) ?_
  refine z_sld (j := 2) (x := x2) B hX hbl hbA (by decide) (show ¬ ((2 : Int32) < 0 ∨ 6 ≤ (2 : Int32).toNatClampNeg) by decide) h_x2 dL_law_387 ?_
  refine z_cVi (As := [.int 5, .int x2]) (rest := []) B cw_L_90 cx_10 dL_law_388 (ci_X9_start_832 l (σ := (ap b (wx_Z σ z) [] [] [])) (b := b) (lyA (lyZ hK)) x2 q1_x2 q2_x2 (rI_at 405 6 (lIZ (fz_I hF 405 6 rfl rfl)))) (lKA (lKZ (hk_K hK 405 rfl rfl))) rfl (by decide) rfl (Nat.le_of_ble_eq_true rfl) (by decide) (fun r u hu => ?_)
  refine z_eqs (σ' := (ap b (wx_Z σ z) [(405, 0, 2)] [] [])) (hu.2.trans ap_ap) ?_
  show zx p l e _ s m _ below meth c g 8 _ _ _ _ 391 [(5, .int 2), (4, .int 0), (3, .ref (b + 431)), (2, .ref (b + 405)), (1, .ref (b + 0)), (0, .ref bS)] _
  refine z_seti (y := 0) hu.1 ?_
  refine z_istore (lv' := [(6, .int 0), (5, .int 2), (4, .int 0), (3, .ref (b + 431)), (2, .ref (b + 405)), (1, .ref (b + 0)), (0, .ref bS)]) B dL_law_391 (by decide) rfl ?_
  refine z_aload_n B dL_law_393 rfl 4 rfl ?_
  refine z_cVi (As := []) (rest := []) B cw_L_80 cx_10 dL_law_394 (ci_X9_thrown_73 l (σ := (ap b (wx_Z σ z) [(405, 0, 2)] [] [])) (b := b) (lyA (lyZ hK)) (rI_at 405 0 rfl)) (lKA (lKZ (hk_K hK 405 rfl rfl))) rfl (by decide) rfl (Nat.le_of_ble_eq_true rfl) (by decide) (fun r u hu => ?_)
  refine z_eqs (σ' := (ap b (wx_Z σ z) [(405, 0, 2)] [] [])) hu.2 ?_
  show zx p l e _ s m _ below meth c g 8 _ _ _ _ 397 [(6, .int 0), (5, .int 2), (4, .int 0), (3, .ref (b + 431)), (2, .ref (b + 405)), (1, .ref (b + 0)), (0, .ref bS)] _
  refine z_seti (y := 2) hu.1 ?_
  refine z_iload B dL_law_397 1 rfl ?_
  refine z_icmp_eq (tgt := 404) B dL_law_399 (by decide) (fun _ => ?_) (fun h => absurd (by decide) h)
  refine z_iload B dL_law_404 1 rfl ?_
  refine z_if_ne (tgt := 421) B dL_law_406 (by decide) (fun _ => ?_) (fun h => absurd h (by decide))
  refine z_goto (tgt := 1395) B dL_law_421 (by decide) ?_
  exact z_widen (Nat.le_of_ble_eq_true rfl) (Nat.le_of_ble_eq_true rfl) (z_sub _ [2, 6] rfl (kk _))
set_option maxRecDepth 100000 in
set_option maxHeartbeats 4000000 in
theorem lf_2_304 {p : Program} {l : Launch} {e : Env} {s : State} {m : MethodId} {args : Array Value} {below : List Frame} {meth : Method} {c : Code} {g : gx_T} {Q : State → Prop} {σ : sx_T} {b t bS : Nat} {xs : Nat → Int32} (hlt : l.stackTraces = false) (B : zx_B p s m args meth c code RL 8 g) (hX : va_X bS 6 xs s s.heap) (hbl : bS < s.heap.size) (hbA : ¬ gx_b g ≤ bS) (hF : fz_P b t σ) (h_x1 : xs 1 = 5) {x2 : Int32} (h_x2 : xs 2 = x2) (q1_x2 : (-999 : Int) ≤ x2.toInt) (q2_x2 : x2.toInt ≤ (-1 : Int)) (kk : ∀ σ', zx p l e room_1 s m args below meth c g 8 600002 7302232 Q σ' 1395 [(4, .int 0), (0, .ref bS)] []) : zx p l e room_1 s m args below meth c g 8 500 100000 Q σ 356 [(4, .int 0), (3, .ref (b + 431)), (2, .ref (b + 405)), (1, .ref (b + 0)), (0, .ref bS)] [] := by
  have hK := fz_lay hF
  refine z_eqs (σ' := (ap b σ [] [] [])) rfl ?_
  refine z_aload_n B dL_law_356 rfl 3 rfl ?_
  refine z_aload_n B dL_law_357 rfl 4 rfl ?_
  refine z_iload B dL_law_358 0 rfl ?_
  refine z_iconst (v := 1) B dL_law_360 (by decide) ?_
  refine z_iadd B dL_law_361 ?_
  refine z_seti (y := 1) (by decide) ?_
  refine z_sld (j := 1) (x := 5) B hX hbl hbA (by decide) (show ¬ ((1 : Int32) < 0 ∨ 6 ≤ (1 : Int32).toNatClampNeg) by decide) h_x1 dL_law_362 ?_
  refine z_aload_n B dL_law_363 rfl 4 rfl ?_
  refine z_iload B dL_law_364 0 rfl ?_
  refine z_iconst (v := 2) B dL_law_366 (by decide) ?_
  refine z_iadd B dL_law_367 ?_
  refine z_seti (y := 2) (by decide) ?_
  refine z_sld (j := 2) (x := x2) B hX hbl hbA (by decide) (show ¬ ((2 : Int32) < 0 ∨ 6 ≤ (2 : Int32).toNatClampNeg) by decide) h_x2 dL_law_368 ?_
  refine z_aload_n B dL_law_369 rfl 1 rfl ?_
  refine z_cSWi (As := [.ref (b + 0), .int 5, .int x2, .ref (b + 431)]) (rest := []) B cw_L_87 dL_law_370 (ci_L_start_842 l (σ := (ap b σ [] [] [])) (b := b) (lyA hK) x2 q1_x2 q2_x2 (rI_at 0 7 (fz_I hF 0 7 rfl rfl)) (rI_at 5 1 (fz_I hF 5 1 rfl rfl)) (rI_at 5 2 (fz_I hF 5 2 rfl rfl)) (rI_at 7 1 (fz_I hF 7 1 rfl rfl)) (rI_at 7 2 (fz_I hF 7 2 rfl rfl)) (rI_at 30 0 (fz_I hF 30 0 rfl rfl)) (rI_at 31 0 (fz_I hF 31 0 rfl rfl)) (rI_at 32 0 (fz_I hF 32 0 rfl rfl)) (rI_at 37 2 (fz_I hF 37 2 rfl rfl)) (rI_at 40 0 (fz_I hF 40 0 rfl rfl)) (rI_at 40 8 (fz_I hF 40 8 rfl rfl)) (rR_at 0 0 (fz_R hF 0 0 rfl rfl)) (rR_at 0 2 (fz_R hF 0 2 rfl rfl)) (rR_at 0 4 (fz_R hF 0 4 rfl rfl)) (rR_at 0 5 (fz_R hF 0 5 rfl rfl)) (rR_at 1 5 (fz_R hF 1 5 rfl rfl)) (rR_at 3 0 (fz_R hF 3 0 rfl rfl)) (rR_at 5 0 (fz_R hF 5 0 rfl rfl)) (rR_at 29 1 (fz_R hF 29 1 rfl rfl)) (rR_at 29 2 (fz_R hF 29 2 rfl rfl)) (rR_at 29 3 (fz_R hF 29 3 rfl rfl)) (rR_at 37 0 (fz_R hF 37 0 rfl rfl)) (rR_at 37 1 (fz_R hF 37 1 rfl rfl)) (rR_at 40 1 (fz_R hF 40 1 rfl rfl)) (rR_at 40 2 (fz_R hF 40 2 rfl rfl)) (rR_at 40 7 (fz_R hF 40 7 rfl rfl)) (rR_at 41 0 (fz_R hF 41 0 rfl rfl)) (rR_at 41 1 (fz_R hF 41 1 rfl rfl))) rfl (by decide) rfl (Nat.le_of_ble_eq_true rfl) (by decide) (fun r u hu => ?_)
  refine z_eqs (σ' := (ap b σ [(7, 2, 0), (7, 1, 0), (40, 8, 2), (5, 2, 0), (41, 19, 0), (41, 19, 0), (41, 15, 1), (41, 4, 2), (41, 16, (-1)), (37, 2, 2), (38, 1, 13), (41, 16, 13), (41, 7, 1), (41, 5, 1), (5, 2, 1), (41, 19, 0), (41, 18, (-1)), (41, 16, (-1)), (41, 15, 0), (41, 14, 0), (41, 13, 0), (41, 12, 0), (41, 10, (-1)), (41, 9, (-1)), (41, 8, 0), (41, 7, 0), (41, 6, ((x2.toInt64).toInt32)), (41, 5, 0), (41, 4, 1), (44, 1, 0), (42, 1, 0), (37, 2, 1), (38, 0, 0), (40, 5, 0), (40, 4, (-1)), (0, 7, 1)] [(431, 0, 0), (39, 1, ((10 * (((x2.toInt64).toInt32).toInt64)) + 1)), (41, 17, ((10 * (((x2.toInt64).toInt32).toInt64)) + 1)), (41, 17, 0), (41, 11, 0), (39, 0, (x2.toInt64))] [(6, 0, (some (b + 40))), (41, 3, (some (b + 37))), (41, 2, (some (b + 29))), (40, 3, (some (b + 29)))])) (hu.2.trans ap_ap) ?_
  show zx p l e _ s m _ below meth c g 8 _ _ _ _ 373 [(4, .int 0), (3, .ref (b + 431)), (2, .ref (b + 405)), (1, .ref (b + 0)), (0, .ref bS)] _
  refine z_seti (y := 0) hu.1 ?_
  refine z_istore (lv' := [(5, .int 0), (4, .int 0), (3, .ref (b + 431)), (2, .ref (b + 405)), (1, .ref (b + 0)), (0, .ref bS)]) B dL_law_373 (by decide) rfl ?_
  refine z_aload_n B dL_law_375 rfl 3 rfl ?_
  refine z_aload_n B dL_law_376 rfl 5 rfl ?_
  refine z_iload B dL_law_377 1 rfl ?_
  refine z_iconst (v := 1) B dL_law_379 (by decide) ?_
  refine z_iadd B dL_law_380 ?_
  refine z_seti (y := 1) (by decide) ?_
  refine z_sld (j := 1) (x := 5) B hX hbl hbA (by decide) (show ¬ ((1 : Int32) < 0 ∨ 6 ≤ (1 : Int32).toNatClampNeg) by decide) h_x1 dL_law_381 ?_
  refine z_aload_n B dL_law_382 rfl 5 rfl ?_
  refine z_iload B dL_law_383 1 rfl ?_
  refine z_iconst (v := 2) B dL_law_385 (by decide) ?_
  refine z_iadd B dL_law_386 ?_
  refine z_seti (y := 2) (by decide) ?_
  refine z_sld (j := 2) (x := x2) B hX hbl hbA (by decide) (show ¬ ((2 : Int32) < 0 ∨ 6 ≤ (2 : Int32).toNatClampNeg) by decide) h_x2 dL_law_387 ?_
  refine z_cVi (As := [.int 5, .int x2]) (rest := []) B cw_L_90 cx_10 dL_law_388 (ci_X9_start_848 l (σ := (ap b σ [(7, 2, 0), (7, 1, 0), (40, 8, 2), (5, 2, 0), (41, 19, 0), (41, 19, 0), (41, 15, 1), (41, 4, 2), (41, 16, (-1)), (37, 2, 2), (38, 1, 13), (41, 16, 13), (41, 7, 1), (41, 5, 1), (5, 2, 1), (41, 19, 0), (41, 18, (-1)), (41, 16, (-1)), (41, 15, 0), (41, 14, 0), (41, 13, 0), (41, 12, 0), (41, 10, (-1)), (41, 9, (-1)), (41, 8, 0), (41, 7, 0), (41, 6, ((x2.toInt64).toInt32)), (41, 5, 0), (41, 4, 1), (44, 1, 0), (42, 1, 0), (37, 2, 1), (38, 0, 0), (40, 5, 0), (40, 4, (-1)), (0, 7, 1)] [(431, 0, 0), (39, 1, ((10 * (((x2.toInt64).toInt32).toInt64)) + 1)), (41, 17, ((10 * (((x2.toInt64).toInt32).toInt64)) + 1)), (41, 17, 0), (41, 11, 0), (39, 0, (x2.toInt64))] [(6, 0, (some (b + 40))), (41, 3, (some (b + 37))), (41, 2, (some (b + 29))), (40, 3, (some (b + 29)))])) (b := b) (lyA hK) x2 q1_x2 q2_x2 (rI_at 405 6 (fz_I hF 405 6 rfl rfl)) (rI_at 405 16 (fz_I hF 405 16 rfl rfl)) (rI_at 406 100 (fz_I hF 406 100 rfl rfl)) (rI_at 407 100 (fz_I hF 407 100 rfl rfl)) (rI_at 412 0 (fz_I hF 412 0 rfl rfl)) (rI_at 413 0 (fz_I hF 413 0 rfl rfl)) (rR_at 405 3 (fz_R hF 405 3 rfl rfl)) (rR_at 405 4 (fz_R hF 405 4 rfl rfl)) (rR_at 405 7 (fz_R hF 405 7 rfl rfl)) (rR_at 405 8 (fz_R hF 405 8 rfl rfl)) (rR_at 405 9 (fz_R hF 405 9 rfl rfl)) (rR_at 405 10 (fz_R hF 405 10 rfl rfl)) (rR_at 405 11 (fz_R hF 405 11 rfl rfl)) (rR_at 405 12 (fz_R hF 405 12 rfl rfl)) (rR_at 405 13 (fz_R hF 405 13 rfl rfl)) (rR_at 405 14 (fz_R hF 405 14 rfl rfl)) (rR_at 405 15 (fz_R hF 405 15 rfl rfl)) (rR_at 405 42 (fz_R hF 405 42 rfl rfl))) (lKA (hk_K hK 405 rfl rfl)) rfl (by decide) rfl (Nat.le_of_ble_eq_true rfl) (by decide) (fun r u hu => ?_)
  refine z_eqs (σ' := (ap b σ [(412, 0, 1), (414, 0, 2), (405, 26, 1), (405, 37, 1), (405, 27, 2), (413, 0, 2), (416, 1, 13), (405, 28, 1), (405, 38, 1), (405, 48, (-1)), (405, 27, 1), (405, 29, ((x2.toInt64).toInt32)), (405, 26, 1), (405, 47, 1), (405, 39, 0), (405, 38, 0), (405, 37, 0), (405, 36, 0), (405, 35, 0), (405, 34, 0), (405, 32, 0), (405, 31, 0), (405, 30, 0), (405, 29, 0), (405, 28, 0), (405, 27, 0), (405, 26, 1), (428, 0, 0), (405, 45, 0), (405, 43, 0), (413, 0, 1), (416, 0, 0), (415, 0, (-1)), (411, 0, 0), (410, 0, (-1)), (409, 0, 5), (405, 6, 1), (405, 0, 0), (7, 2, 0), (7, 1, 0), (40, 8, 2), (5, 2, 0), (41, 19, 0), (41, 19, 0), (41, 15, 1), (41, 4, 2), (41, 16, (-1)), (37, 2, 2), (38, 1, 13), (41, 16, 13), (41, 7, 1), (41, 5, 1), (5, 2, 1), (41, 19, 0), (41, 18, (-1)), (41, 16, (-1)), (41, 15, 0), (41, 14, 0), (41, 13, 0), (41, 12, 0), (41, 10, (-1)), (41, 9, (-1)), (41, 8, 0), (41, 7, 0), (41, 6, ((x2.toInt64).toInt32)), (41, 5, 0), (41, 4, 1), (44, 1, 0), (42, 1, 0), (37, 2, 1), (38, 0, 0), (40, 5, 0), (40, 4, (-1)), (0, 7, 1)] [(417, 1, ((10 * (((x2.toInt64).toInt32).toInt64)) + 1)), (417, 0, (x2.toInt64)), (431, 0, 0), (39, 1, ((10 * (((x2.toInt64).toInt32).toInt64)) + 1)), (41, 17, ((10 * (((x2.toInt64).toInt32).toInt64)) + 1)), (41, 17, 0), (41, 11, 0), (39, 0, (x2.toInt64))] [(6, 0, (some (b + 40))), (41, 3, (some (b + 37))), (41, 2, (some (b + 29))), (40, 3, (some (b + 29)))])) (hu.2.trans ap_ap) ?_
  show zx p l e _ s m _ below meth c g 8 _ _ _ _ 391 [(5, .int 0), (4, .int 0), (3, .ref (b + 431)), (2, .ref (b + 405)), (1, .ref (b + 0)), (0, .ref bS)] _
  refine z_seti (y := 0) hu.1 ?_
  refine z_istore (lv' := [(6, .int 0), (5, .int 0), (4, .int 0), (3, .ref (b + 431)), (2, .ref (b + 405)), (1, .ref (b + 0)), (0, .ref bS)]) B dL_law_391 (by decide) rfl ?_
  refine z_aload_n B dL_law_393 rfl 4 rfl ?_
  refine z_cVi (As := []) (rest := []) B cw_L_80 cx_10 dL_law_394 (ci_X9_thrown_95 l (σ := (ap b σ [(412, 0, 1), (414, 0, 2), (405, 26, 1), (405, 37, 1), (405, 27, 2), (413, 0, 2), (416, 1, 13), (405, 28, 1), (405, 38, 1), (405, 48, (-1)), (405, 27, 1), (405, 29, ((x2.toInt64).toInt32)), (405, 26, 1), (405, 47, 1), (405, 39, 0), (405, 38, 0), (405, 37, 0), (405, 36, 0), (405, 35, 0), (405, 34, 0), (405, 32, 0), (405, 31, 0), (405, 30, 0), (405, 29, 0), (405, 28, 0), (405, 27, 0), (405, 26, 1), (428, 0, 0), (405, 45, 0), (405, 43, 0), (413, 0, 1), (416, 0, 0), (415, 0, (-1)), (411, 0, 0), (410, 0, (-1)), (409, 0, 5), (405, 6, 1), (405, 0, 0), (7, 2, 0), (7, 1, 0), (40, 8, 2), (5, 2, 0), (41, 19, 0), (41, 19, 0), (41, 15, 1), (41, 4, 2), (41, 16, (-1)), (37, 2, 2), (38, 1, 13), (41, 16, 13), (41, 7, 1), (41, 5, 1), (5, 2, 1), (41, 19, 0), (41, 18, (-1)), (41, 16, (-1)), (41, 15, 0), (41, 14, 0), (41, 13, 0), (41, 12, 0), (41, 10, (-1)), (41, 9, (-1)), (41, 8, 0), (41, 7, 0), (41, 6, ((x2.toInt64).toInt32)), (41, 5, 0), (41, 4, 1), (44, 1, 0), (42, 1, 0), (37, 2, 1), (38, 0, 0), (40, 5, 0), (40, 4, (-1)), (0, 7, 1)] [(417, 1, ((10 * (((x2.toInt64).toInt32).toInt64)) + 1)), (417, 0, (x2.toInt64)), (431, 0, 0), (39, 1, ((10 * (((x2.toInt64).toInt32).toInt64)) + 1)), (41, 17, ((10 * (((x2.toInt64).toInt32).toInt64)) + 1)), (41, 17, 0), (41, 11, 0), (39, 0, (x2.toInt64))] [(6, 0, (some (b + 40))), (41, 3, (some (b + 37))), (41, 2, (some (b + 29))), (40, 3, (some (b + 29)))])) (b := b) (lyA hK) (rI_at 405 0 rfl)) (lKA (hk_K hK 405 rfl rfl)) rfl (by decide) rfl (Nat.le_of_ble_eq_true rfl) (by decide) (fun r u hu => ?_)
  refine z_eqs (σ' := (ap b σ [(412, 0, 1), (414, 0, 2), (405, 26, 1), (405, 37, 1), (405, 27, 2), (413, 0, 2), (416, 1, 13), (405, 28, 1), (405, 38, 1), (405, 48, (-1)), (405, 27, 1), (405, 29, ((x2.toInt64).toInt32)), (405, 26, 1), (405, 47, 1), (405, 39, 0), (405, 38, 0), (405, 37, 0), (405, 36, 0), (405, 35, 0), (405, 34, 0), (405, 32, 0), (405, 31, 0), (405, 30, 0), (405, 29, 0), (405, 28, 0), (405, 27, 0), (405, 26, 1), (428, 0, 0), (405, 45, 0), (405, 43, 0), (413, 0, 1), (416, 0, 0), (415, 0, (-1)), (411, 0, 0), (410, 0, (-1)), (409, 0, 5), (405, 6, 1), (405, 0, 0), (7, 2, 0), (7, 1, 0), (40, 8, 2), (5, 2, 0), (41, 19, 0), (41, 19, 0), (41, 15, 1), (41, 4, 2), (41, 16, (-1)), (37, 2, 2), (38, 1, 13), (41, 16, 13), (41, 7, 1), (41, 5, 1), (5, 2, 1), (41, 19, 0), (41, 18, (-1)), (41, 16, (-1)), (41, 15, 0), (41, 14, 0), (41, 13, 0), (41, 12, 0), (41, 10, (-1)), (41, 9, (-1)), (41, 8, 0), (41, 7, 0), (41, 6, ((x2.toInt64).toInt32)), (41, 5, 0), (41, 4, 1), (44, 1, 0), (42, 1, 0), (37, 2, 1), (38, 0, 0), (40, 5, 0), (40, 4, (-1)), (0, 7, 1)] [(417, 1, ((10 * (((x2.toInt64).toInt32).toInt64)) + 1)), (417, 0, (x2.toInt64)), (431, 0, 0), (39, 1, ((10 * (((x2.toInt64).toInt32).toInt64)) + 1)), (41, 17, ((10 * (((x2.toInt64).toInt32).toInt64)) + 1)), (41, 17, 0), (41, 11, 0), (39, 0, (x2.toInt64))] [(6, 0, (some (b + 40))), (41, 3, (some (b + 37))), (41, 2, (some (b + 29))), (40, 3, (some (b + 29)))])) hu.2 ?_
  show zx p l e _ s m _ below meth c g 8 _ _ _ _ 397 [(6, .int 0), (5, .int 0), (4, .int 0), (3, .ref (b + 431)), (2, .ref (b + 405)), (1, .ref (b + 0)), (0, .ref bS)] _
  refine z_seti (y := 0) hu.1 ?_
  refine z_iload B dL_law_397 1 rfl ?_
  refine z_icmp_eq (tgt := 404) B dL_law_399 (by decide) (fun _ => ?_) (fun h => absurd (by decide) h)
  refine z_iload B dL_law_404 1 rfl ?_
  refine z_if_ne (tgt := 421) B dL_law_406 (by decide) (fun h => absurd (by decide) h) (fun _ => ?_)
  refine z_aload_n B dL_law_409 rfl 3 rfl ?_
  refine z_iconst (v := 0) B dL_law_410 (by decide) ?_
  refine z_lald (j := 0) (x := 0) B (lKA (hk_K hK 431 rfl rfl)) (by decide) (in_of (lNA (hk_N hK 431 rfl rfl)) (show ¬ ((0 : Int32) < 0 ∨ 1 ≤ (0 : Int32).toNatClampNeg) by decide)) (rJ_at 431 0 rfl) dL_law_411 ?_
  refine z_iload B dL_law_412 0 rfl ?_
  refine z_i2l (v := 0) B dL_law_414 (by decide) ?_
  refine z_lcmp (v := 0) B dL_law_415 (by decide) ?_
  refine z_if_eq (tgt := 421) B dL_law_416 (by decide) (fun _ => ?_) (fun h => absurd (by decide) h)
  refine z_goto (tgt := 1395) B dL_law_421 (by decide) ?_
  exact z_widen (Nat.le_of_ble_eq_true rfl) (Nat.le_of_ble_eq_true rfl) (z_sub _ [2, 6] rfl (kk _))
set_option maxRecDepth 100000 in
set_option maxHeartbeats 4000000 in
theorem lf_2_305 {p : Program} {l : Launch} {e : Env} {s : State} {m : MethodId} {args : Array Value} {below : List Frame} {meth : Method} {c : Code} {g : gx_T} {Q : State → Prop} {σ : sx_T} {b t bS : Nat} {xs : Nat → Int32} (hlt : l.stackTraces = false) (B : zx_B p s m args meth c code RL 8 g) (hX : va_X bS 6 xs s s.heap) (hbl : bS < s.heap.size) (hbA : ¬ gx_b g ≤ bS) (hF : fz_P b t σ) (h_x1 : xs 1 = 5) {x2 : Int32} (h_x2 : xs 2 = x2) (q1_x2 : (0 : Int) ≤ x2.toInt) (q2_x2 : x2.toInt ≤ (999 : Int)) (kk : ∀ σ', zx p l e room_1 s m args below meth c g 8 600002 7302232 Q σ' 1395 [(4, .int 0), (0, .ref bS)] []) : zx p l e room_1 s m args below meth c g 8 500 100000 Q σ 356 [(4, .int 0), (3, .ref (b + 431)), (2, .ref (b + 405)), (1, .ref (b + 0)), (0, .ref bS)] [] := by
  have hK := fz_lay hF
  refine z_eqs (σ' := (ap b σ [] [] [])) rfl ?_
  refine z_aload_n B dL_law_356 rfl 3 rfl ?_
  refine z_aload_n B dL_law_357 rfl 4 rfl ?_
  refine z_iload B dL_law_358 0 rfl ?_
  refine z_iconst (v := 1) B dL_law_360 (by decide) ?_
  refine z_iadd B dL_law_361 ?_
  refine z_seti (y := 1) (by decide) ?_
  refine z_sld (j := 1) (x := 5) B hX hbl hbA (by decide) (show ¬ ((1 : Int32) < 0 ∨ 6 ≤ (1 : Int32).toNatClampNeg) by decide) h_x1 dL_law_362 ?_
  refine z_aload_n B dL_law_363 rfl 4 rfl ?_
  refine z_iload B dL_law_364 0 rfl ?_
  refine z_iconst (v := 2) B dL_law_366 (by decide) ?_
  refine z_iadd B dL_law_367 ?_
  refine z_seti (y := 2) (by decide) ?_
  refine z_sld (j := 2) (x := x2) B hX hbl hbA (by decide) (show ¬ ((2 : Int32) < 0 ∨ 6 ≤ (2 : Int32).toNatClampNeg) by decide) h_x2 dL_law_368 ?_
  refine z_aload_n B dL_law_369 rfl 1 rfl ?_
  refine z_cSWi (As := [.ref (b + 0), .int 5, .int x2, .ref (b + 431)]) (rest := []) B cw_L_87 dL_law_370 (ci_L_start_851 l (σ := (ap b σ [] [] [])) (b := b) (lyA hK) x2 q1_x2 q2_x2 (rI_at 0 7 (fz_I hF 0 7 rfl rfl)) (rI_at 5 1 (fz_I hF 5 1 rfl rfl)) (rI_at 5 2 (fz_I hF 5 2 rfl rfl)) (rI_at 7 1 (fz_I hF 7 1 rfl rfl)) (rI_at 7 2 (fz_I hF 7 2 rfl rfl)) (rI_at 30 0 (fz_I hF 30 0 rfl rfl)) (rI_at 31 0 (fz_I hF 31 0 rfl rfl)) (rI_at 32 0 (fz_I hF 32 0 rfl rfl)) (rI_at 37 2 (fz_I hF 37 2 rfl rfl)) (rI_at 40 0 (fz_I hF 40 0 rfl rfl)) (rI_at 40 8 (fz_I hF 40 8 rfl rfl)) (rR_at 0 0 (fz_R hF 0 0 rfl rfl)) (rR_at 0 2 (fz_R hF 0 2 rfl rfl)) (rR_at 0 4 (fz_R hF 0 4 rfl rfl)) (rR_at 0 5 (fz_R hF 0 5 rfl rfl)) (rR_at 1 5 (fz_R hF 1 5 rfl rfl)) (rR_at 3 0 (fz_R hF 3 0 rfl rfl)) (rR_at 5 0 (fz_R hF 5 0 rfl rfl)) (rR_at 29 1 (fz_R hF 29 1 rfl rfl)) (rR_at 29 2 (fz_R hF 29 2 rfl rfl)) (rR_at 29 3 (fz_R hF 29 3 rfl rfl)) (rR_at 37 0 (fz_R hF 37 0 rfl rfl)) (rR_at 37 1 (fz_R hF 37 1 rfl rfl)) (rR_at 40 1 (fz_R hF 40 1 rfl rfl)) (rR_at 40 2 (fz_R hF 40 2 rfl rfl)) (rR_at 40 7 (fz_R hF 40 7 rfl rfl)) (rR_at 41 0 (fz_R hF 41 0 rfl rfl)) (rR_at 41 1 (fz_R hF 41 1 rfl rfl))) rfl (by decide) rfl (Nat.le_of_ble_eq_true rfl) (by decide) (fun r u hu => ?_)
  refine z_eqs (σ' := (ap b σ [(7, 2, 0), (7, 1, 0), (40, 8, 2), (5, 2, 0), (41, 19, 0), (41, 19, 0), (41, 15, 1), (41, 4, 2), (41, 16, (-1)), (37, 2, 2), (38, 1, 13), (41, 16, 13), (41, 7, 1), (41, 5, 1), (5, 2, 1), (41, 19, 0), (41, 18, (-1)), (41, 16, (-1)), (41, 15, 0), (41, 14, 0), (41, 13, 0), (41, 12, 0), (41, 10, (-1)), (41, 9, (-1)), (41, 8, 0), (41, 7, 0), (41, 6, ((x2.toInt64).toInt32)), (41, 5, 0), (41, 4, 1), (44, 1, 0), (42, 1, 0), (37, 2, 1), (38, 0, 0), (40, 5, 0), (40, 4, (-1)), (0, 7, 1)] [(431, 0, 0), (39, 1, ((10 * (((x2.toInt64).toInt32).toInt64)) + 1)), (41, 17, ((10 * (((x2.toInt64).toInt32).toInt64)) + 1)), (41, 17, 0), (41, 11, 0), (39, 0, (x2.toInt64))] [(6, 0, (some (b + 40))), (41, 3, (some (b + 37))), (41, 2, (some (b + 29))), (40, 3, (some (b + 29)))])) (hu.2.trans ap_ap) ?_
  show zx p l e _ s m _ below meth c g 8 _ _ _ _ 373 [(4, .int 0), (3, .ref (b + 431)), (2, .ref (b + 405)), (1, .ref (b + 0)), (0, .ref bS)] _
  refine z_seti (y := 0) hu.1 ?_
  refine z_istore (lv' := [(5, .int 0), (4, .int 0), (3, .ref (b + 431)), (2, .ref (b + 405)), (1, .ref (b + 0)), (0, .ref bS)]) B dL_law_373 (by decide) rfl ?_
  refine z_aload_n B dL_law_375 rfl 3 rfl ?_
  refine z_aload_n B dL_law_376 rfl 5 rfl ?_
  refine z_iload B dL_law_377 1 rfl ?_
  refine z_iconst (v := 1) B dL_law_379 (by decide) ?_
  refine z_iadd B dL_law_380 ?_
  refine z_seti (y := 1) (by decide) ?_
  refine z_sld (j := 1) (x := 5) B hX hbl hbA (by decide) (show ¬ ((1 : Int32) < 0 ∨ 6 ≤ (1 : Int32).toNatClampNeg) by decide) h_x1 dL_law_381 ?_
  refine z_aload_n B dL_law_382 rfl 5 rfl ?_
  refine z_iload B dL_law_383 1 rfl ?_
  refine z_iconst (v := 2) B dL_law_385 (by decide) ?_
  refine z_iadd B dL_law_386 ?_
  refine z_seti (y := 2) (by decide) ?_
  refine z_sld (j := 2) (x := x2) B hX hbl hbA (by decide) (show ¬ ((2 : Int32) < 0 ∨ 6 ≤ (2 : Int32).toNatClampNeg) by decide) h_x2 dL_law_387 ?_
  refine z_cVi (As := [.int 5, .int x2]) (rest := []) B cw_L_90 cx_10 dL_law_388 (ci_X9_start_852 l (σ := (ap b σ [(7, 2, 0), (7, 1, 0), (40, 8, 2), (5, 2, 0), (41, 19, 0), (41, 19, 0), (41, 15, 1), (41, 4, 2), (41, 16, (-1)), (37, 2, 2), (38, 1, 13), (41, 16, 13), (41, 7, 1), (41, 5, 1), (5, 2, 1), (41, 19, 0), (41, 18, (-1)), (41, 16, (-1)), (41, 15, 0), (41, 14, 0), (41, 13, 0), (41, 12, 0), (41, 10, (-1)), (41, 9, (-1)), (41, 8, 0), (41, 7, 0), (41, 6, ((x2.toInt64).toInt32)), (41, 5, 0), (41, 4, 1), (44, 1, 0), (42, 1, 0), (37, 2, 1), (38, 0, 0), (40, 5, 0), (40, 4, (-1)), (0, 7, 1)] [(431, 0, 0), (39, 1, ((10 * (((x2.toInt64).toInt32).toInt64)) + 1)), (41, 17, ((10 * (((x2.toInt64).toInt32).toInt64)) + 1)), (41, 17, 0), (41, 11, 0), (39, 0, (x2.toInt64))] [(6, 0, (some (b + 40))), (41, 3, (some (b + 37))), (41, 2, (some (b + 29))), (40, 3, (some (b + 29)))])) (b := b) (lyA hK) x2 q1_x2 q2_x2 (rI_at 405 6 (fz_I hF 405 6 rfl rfl)) (rI_at 405 16 (fz_I hF 405 16 rfl rfl)) (rI_at 406 100 (fz_I hF 406 100 rfl rfl)) (rI_at 407 100 (fz_I hF 407 100 rfl rfl)) (rI_at 412 0 (fz_I hF 412 0 rfl rfl)) (rI_at 413 0 (fz_I hF 413 0 rfl rfl)) (rR_at 405 3 (fz_R hF 405 3 rfl rfl)) (rR_at 405 4 (fz_R hF 405 4 rfl rfl)) (rR_at 405 7 (fz_R hF 405 7 rfl rfl)) (rR_at 405 8 (fz_R hF 405 8 rfl rfl)) (rR_at 405 9 (fz_R hF 405 9 rfl rfl)) (rR_at 405 10 (fz_R hF 405 10 rfl rfl)) (rR_at 405 11 (fz_R hF 405 11 rfl rfl)) (rR_at 405 12 (fz_R hF 405 12 rfl rfl)) (rR_at 405 13 (fz_R hF 405 13 rfl rfl)) (rR_at 405 14 (fz_R hF 405 14 rfl rfl)) (rR_at 405 15 (fz_R hF 405 15 rfl rfl)) (rR_at 405 42 (fz_R hF 405 42 rfl rfl))) (lKA (hk_K hK 405 rfl rfl)) rfl (by decide) rfl (Nat.le_of_ble_eq_true rfl) (by decide) (fun r u hu => ?_)
  refine z_eqs (σ' := (ap b σ [(412, 0, 1), (414, 0, 2), (405, 26, 1), (405, 37, 1), (405, 27, 2), (413, 0, 2), (416, 1, 13), (405, 28, 1), (405, 38, 1), (405, 48, (-1)), (405, 27, 1), (405, 29, ((x2.toInt64).toInt32)), (405, 26, 1), (405, 47, 1), (405, 39, 0), (405, 38, 0), (405, 37, 0), (405, 36, 0), (405, 35, 0), (405, 34, 0), (405, 32, 0), (405, 31, 0), (405, 30, 0), (405, 29, 0), (405, 28, 0), (405, 27, 0), (405, 26, 1), (428, 0, 0), (405, 45, 0), (405, 43, 0), (413, 0, 1), (416, 0, 0), (415, 0, (-1)), (411, 0, 0), (410, 0, (-1)), (409, 0, 5), (405, 6, 1), (405, 0, 0), (7, 2, 0), (7, 1, 0), (40, 8, 2), (5, 2, 0), (41, 19, 0), (41, 19, 0), (41, 15, 1), (41, 4, 2), (41, 16, (-1)), (37, 2, 2), (38, 1, 13), (41, 16, 13), (41, 7, 1), (41, 5, 1), (5, 2, 1), (41, 19, 0), (41, 18, (-1)), (41, 16, (-1)), (41, 15, 0), (41, 14, 0), (41, 13, 0), (41, 12, 0), (41, 10, (-1)), (41, 9, (-1)), (41, 8, 0), (41, 7, 0), (41, 6, ((x2.toInt64).toInt32)), (41, 5, 0), (41, 4, 1), (44, 1, 0), (42, 1, 0), (37, 2, 1), (38, 0, 0), (40, 5, 0), (40, 4, (-1)), (0, 7, 1)] [(417, 1, ((10 * (((x2.toInt64).toInt32).toInt64)) + 1)), (417, 0, (x2.toInt64)), (431, 0, 0), (39, 1, ((10 * (((x2.toInt64).toInt32).toInt64)) + 1)), (41, 17, ((10 * (((x2.toInt64).toInt32).toInt64)) + 1)), (41, 17, 0), (41, 11, 0), (39, 0, (x2.toInt64))] [(6, 0, (some (b + 40))), (41, 3, (some (b + 37))), (41, 2, (some (b + 29))), (40, 3, (some (b + 29)))])) (hu.2.trans ap_ap) ?_
  show zx p l e _ s m _ below meth c g 8 _ _ _ _ 391 [(5, .int 0), (4, .int 0), (3, .ref (b + 431)), (2, .ref (b + 405)), (1, .ref (b + 0)), (0, .ref bS)] _
  refine z_seti (y := 0) hu.1 ?_
  refine z_istore (lv' := [(6, .int 0), (5, .int 0), (4, .int 0), (3, .ref (b + 431)), (2, .ref (b + 405)), (1, .ref (b + 0)), (0, .ref bS)]) B dL_law_391 (by decide) rfl ?_
  refine z_aload_n B dL_law_393 rfl 4 rfl ?_
  refine z_cVi (As := []) (rest := []) B cw_L_80 cx_10 dL_law_394 (ci_X9_thrown_95 l (σ := (ap b σ [(412, 0, 1), (414, 0, 2), (405, 26, 1), (405, 37, 1), (405, 27, 2), (413, 0, 2), (416, 1, 13), (405, 28, 1), (405, 38, 1), (405, 48, (-1)), (405, 27, 1), (405, 29, ((x2.toInt64).toInt32)), (405, 26, 1), (405, 47, 1), (405, 39, 0), (405, 38, 0), (405, 37, 0), (405, 36, 0), (405, 35, 0), (405, 34, 0), (405, 32, 0), (405, 31, 0), (405, 30, 0), (405, 29, 0), (405, 28, 0), (405, 27, 0), (405, 26, 1), (428, 0, 0), (405, 45, 0), (405, 43, 0), (413, 0, 1), (416, 0, 0), (415, 0, (-1)), (411, 0, 0), (410, 0, (-1)), (409, 0, 5), (405, 6, 1), (405, 0, 0), (7, 2, 0), (7, 1, 0), (40, 8, 2), (5, 2, 0), (41, 19, 0), (41, 19, 0), (41, 15, 1), (41, 4, 2), (41, 16, (-1)), (37, 2, 2), (38, 1, 13), (41, 16, 13), (41, 7, 1), (41, 5, 1), (5, 2, 1), (41, 19, 0), (41, 18, (-1)), (41, 16, (-1)), (41, 15, 0), (41, 14, 0), (41, 13, 0), (41, 12, 0), (41, 10, (-1)), (41, 9, (-1)), (41, 8, 0), (41, 7, 0), (41, 6, ((x2.toInt64).toInt32)), (41, 5, 0), (41, 4, 1), (44, 1, 0), (42, 1, 0), (37, 2, 1), (38, 0, 0), (40, 5, 0), (40, 4, (-1)), (0, 7, 1)] [(417, 1, ((10 * (((x2.toInt64).toInt32).toInt64)) + 1)), (417, 0, (x2.toInt64)), (431, 0, 0), (39, 1, ((10 * (((x2.toInt64).toInt32).toInt64)) + 1)), (41, 17, ((10 * (((x2.toInt64).toInt32).toInt64)) + 1)), (41, 17, 0), (41, 11, 0), (39, 0, (x2.toInt64))] [(6, 0, (some (b + 40))), (41, 3, (some (b + 37))), (41, 2, (some (b + 29))), (40, 3, (some (b + 29)))])) (b := b) (lyA hK) (rI_at 405 0 rfl)) (lKA (hk_K hK 405 rfl rfl)) rfl (by decide) rfl (Nat.le_of_ble_eq_true rfl) (by decide) (fun r u hu => ?_)
  refine z_eqs (σ' := (ap b σ [(412, 0, 1), (414, 0, 2), (405, 26, 1), (405, 37, 1), (405, 27, 2), (413, 0, 2), (416, 1, 13), (405, 28, 1), (405, 38, 1), (405, 48, (-1)), (405, 27, 1), (405, 29, ((x2.toInt64).toInt32)), (405, 26, 1), (405, 47, 1), (405, 39, 0), (405, 38, 0), (405, 37, 0), (405, 36, 0), (405, 35, 0), (405, 34, 0), (405, 32, 0), (405, 31, 0), (405, 30, 0), (405, 29, 0), (405, 28, 0), (405, 27, 0), (405, 26, 1), (428, 0, 0), (405, 45, 0), (405, 43, 0), (413, 0, 1), (416, 0, 0), (415, 0, (-1)), (411, 0, 0), (410, 0, (-1)), (409, 0, 5), (405, 6, 1), (405, 0, 0), (7, 2, 0), (7, 1, 0), (40, 8, 2), (5, 2, 0), (41, 19, 0), (41, 19, 0), (41, 15, 1), (41, 4, 2), (41, 16, (-1)), (37, 2, 2), (38, 1, 13), (41, 16, 13), (41, 7, 1), (41, 5, 1), (5, 2, 1), (41, 19, 0), (41, 18, (-1)), (41, 16, (-1)), (41, 15, 0), (41, 14, 0), (41, 13, 0), (41, 12, 0), (41, 10, (-1)), (41, 9, (-1)), (41, 8, 0), (41, 7, 0), (41, 6, ((x2.toInt64).toInt32)), (41, 5, 0), (41, 4, 1), (44, 1, 0), (42, 1, 0), (37, 2, 1), (38, 0, 0), (40, 5, 0), (40, 4, (-1)), (0, 7, 1)] [(417, 1, ((10 * (((x2.toInt64).toInt32).toInt64)) + 1)), (417, 0, (x2.toInt64)), (431, 0, 0), (39, 1, ((10 * (((x2.toInt64).toInt32).toInt64)) + 1)), (41, 17, ((10 * (((x2.toInt64).toInt32).toInt64)) + 1)), (41, 17, 0), (41, 11, 0), (39, 0, (x2.toInt64))] [(6, 0, (some (b + 40))), (41, 3, (some (b + 37))), (41, 2, (some (b + 29))), (40, 3, (some (b + 29)))])) hu.2 ?_
  show zx p l e _ s m _ below meth c g 8 _ _ _ _ 397 [(6, .int 0), (5, .int 0), (4, .int 0), (3, .ref (b + 431)), (2, .ref (b + 405)), (1, .ref (b + 0)), (0, .ref bS)] _
  refine z_seti (y := 0) hu.1 ?_
  refine z_iload B dL_law_397 1 rfl ?_
  refine z_icmp_eq (tgt := 404) B dL_law_399 (by decide) (fun _ => ?_) (fun h => absurd (by decide) h)
  refine z_iload B dL_law_404 1 rfl ?_
  refine z_if_ne (tgt := 421) B dL_law_406 (by decide) (fun h => absurd (by decide) h) (fun _ => ?_)
  refine z_aload_n B dL_law_409 rfl 3 rfl ?_
  refine z_iconst (v := 0) B dL_law_410 (by decide) ?_
  refine z_lald (j := 0) (x := 0) B (lKA (hk_K hK 431 rfl rfl)) (by decide) (in_of (lNA (hk_N hK 431 rfl rfl)) (show ¬ ((0 : Int32) < 0 ∨ 1 ≤ (0 : Int32).toNatClampNeg) by decide)) (rJ_at 431 0 rfl) dL_law_411 ?_
  refine z_iload B dL_law_412 0 rfl ?_
  refine z_i2l (v := 0) B dL_law_414 (by decide) ?_
  refine z_lcmp (v := 0) B dL_law_415 (by decide) ?_
  refine z_if_eq (tgt := 421) B dL_law_416 (by decide) (fun _ => ?_) (fun h => absurd (by decide) h)
  refine z_goto (tgt := 1395) B dL_law_421 (by decide) ?_
  exact z_widen (Nat.le_of_ble_eq_true rfl) (Nat.le_of_ble_eq_true rfl) (z_sub _ [2, 6] rfl (kk _))
set_option maxRecDepth 100000 in
set_option maxHeartbeats 4000000 in
theorem lf_2_306 {p : Program} {l : Launch} {e : Env} {s : State} {m : MethodId} {args : Array Value} {below : List Frame} {meth : Method} {c : Code} {g : gx_T} {Q : State → Prop} {σ : sx_T} {b t bS : Nat} {xs : Nat → Int32} (hlt : l.stackTraces = false) (B : zx_B p s m args meth c code RL 8 g) (hX : va_X bS 6 xs s s.heap) (hbl : bS < s.heap.size) (hbA : ¬ gx_b g ≤ bS) (hF : fz_P b t σ) (h_x1 : xs 1 = 5) {x2 : Int32} (h_x2 : xs 2 = x2) (q1_x2 : (1000 : Int) ≤ x2.toInt) (q2_x2 : x2.toInt ≤ (2147483647 : Int)) (kk : ∀ σ', zx p l e room_1 s m args below meth c g 8 600002 7302232 Q σ' 1395 [(4, .int 0), (0, .ref bS)] []) : zx p l e room_1 s m args below meth c g 8 500 100000 Q σ 356 [(4, .int 0), (3, .ref (b + 431)), (2, .ref (b + 405)), (1, .ref (b + 0)), (0, .ref bS)] [] := by
  have hK := fz_lay hF
  refine z_eqs (σ' := (ap b σ [] [] [])) rfl ?_
  refine z_aload_n B dL_law_356 rfl 3 rfl ?_
  refine z_aload_n B dL_law_357 rfl 4 rfl ?_
  refine z_iload B dL_law_358 0 rfl ?_
  refine z_iconst (v := 1) B dL_law_360 (by decide) ?_
  refine z_iadd B dL_law_361 ?_
  refine z_seti (y := 1) (by decide) ?_
  refine z_sld (j := 1) (x := 5) B hX hbl hbA (by decide) (show ¬ ((1 : Int32) < 0 ∨ 6 ≤ (1 : Int32).toNatClampNeg) by decide) h_x1 dL_law_362 ?_
  refine z_aload_n B dL_law_363 rfl 4 rfl ?_
  refine z_iload B dL_law_364 0 rfl ?_
  refine z_iconst (v := 2) B dL_law_366 (by decide) ?_
  refine z_iadd B dL_law_367 ?_
  refine z_seti (y := 2) (by decide) ?_
  refine z_sld (j := 2) (x := x2) B hX hbl hbA (by decide) (show ¬ ((2 : Int32) < 0 ∨ 6 ≤ (2 : Int32).toNatClampNeg) by decide) h_x2 dL_law_368 ?_
  refine z_aload_n B dL_law_369 rfl 1 rfl ?_
  refine z_cSWi (As := [.ref (b + 0), .int 5, .int x2, .ref (b + 431)]) (rest := []) B cw_L_87 dL_law_370 (ci_L_start_854 l hlt (σ := (ap b σ [] [] [])) (b := b) (lyA hK) x2 q1_x2 q2_x2 (rR_at 0 0 (fz_R hF 0 0 rfl rfl)) (rR_at 1 5 (fz_R hF 1 5 rfl rfl))) rfl (by decide) rfl (Nat.le_of_ble_eq_true rfl) (by decide) (fun r u hu => ?_)
  obtain ⟨hu1, z, hu⟩ := hu
  refine z_eqs (σ' := (ap b (wx_Z σ z) [] [] [])) (hu.trans az_ap) ?_
  show zx p l e _ s m _ below meth c g 8 _ _ _ _ 373 [(4, .int 0), (3, .ref (b + 431)), (2, .ref (b + 405)), (1, .ref (b + 0)), (0, .ref bS)] _
  refine z_seti (y := 2) hu1 ?_
  refine z_istore (lv' := [(5, .int 2), (4, .int 0), (3, .ref (b + 431)), (2, .ref (b + 405)), (1, .ref (b + 0)), (0, .ref bS)]) B dL_law_373 (by decide) rfl ?_
  refine z_aload_n B dL_law_375 rfl 3 rfl ?_
  refine z_aload_n B dL_law_376 rfl 5 rfl ?_
  refine z_iload B dL_law_377 1 rfl ?_
  refine z_iconst (v := 1) B dL_law_379 (by decide) ?_
  refine z_iadd B dL_law_380 ?_
  refine z_seti (y := 1) (by decide) ?_
  refine z_sld (j := 1) (x := 5) B hX hbl hbA (by decide) (show ¬ ((1 : Int32) < 0 ∨ 6 ≤ (1 : Int32).toNatClampNeg) by decide) h_x1 dL_law_381 ?_
  refine z_aload_n B dL_law_382 rfl 5 rfl ?_
  refine z_iload B dL_law_383 1 rfl ?_
  refine z_iconst (v := 2) B dL_law_385 (by decide) ?_
  refine z_iadd B dL_law_386 ?_
  refine z_seti (y := 2) (by decide) ?_
  refine z_sld (j := 2) (x := x2) B hX hbl hbA (by decide) (show ¬ ((2 : Int32) < 0 ∨ 6 ≤ (2 : Int32).toNatClampNeg) by decide) h_x2 dL_law_387 ?_
  refine z_cVi (As := [.int 5, .int x2]) (rest := []) B cw_L_90 cx_10 dL_law_388 (ci_X9_start_855 l (σ := (ap b (wx_Z σ z) [] [] [])) (b := b) (lyA (lyZ hK)) x2 q1_x2 q2_x2 (rI_at 405 6 (lIZ (fz_I hF 405 6 rfl rfl)))) (lKA (lKZ (hk_K hK 405 rfl rfl))) rfl (by decide) rfl (Nat.le_of_ble_eq_true rfl) (by decide) (fun r u hu => ?_)
  refine z_eqs (σ' := (ap b (wx_Z σ z) [(405, 0, 2)] [] [])) (hu.2.trans ap_ap) ?_
  show zx p l e _ s m _ below meth c g 8 _ _ _ _ 391 [(5, .int 2), (4, .int 0), (3, .ref (b + 431)), (2, .ref (b + 405)), (1, .ref (b + 0)), (0, .ref bS)] _
  refine z_seti (y := 0) hu.1 ?_
  refine z_istore (lv' := [(6, .int 0), (5, .int 2), (4, .int 0), (3, .ref (b + 431)), (2, .ref (b + 405)), (1, .ref (b + 0)), (0, .ref bS)]) B dL_law_391 (by decide) rfl ?_
  refine z_aload_n B dL_law_393 rfl 4 rfl ?_
  refine z_cVi (As := []) (rest := []) B cw_L_80 cx_10 dL_law_394 (ci_X9_thrown_73 l (σ := (ap b (wx_Z σ z) [(405, 0, 2)] [] [])) (b := b) (lyA (lyZ hK)) (rI_at 405 0 rfl)) (lKA (lKZ (hk_K hK 405 rfl rfl))) rfl (by decide) rfl (Nat.le_of_ble_eq_true rfl) (by decide) (fun r u hu => ?_)
  refine z_eqs (σ' := (ap b (wx_Z σ z) [(405, 0, 2)] [] [])) hu.2 ?_
  show zx p l e _ s m _ below meth c g 8 _ _ _ _ 397 [(6, .int 0), (5, .int 2), (4, .int 0), (3, .ref (b + 431)), (2, .ref (b + 405)), (1, .ref (b + 0)), (0, .ref bS)] _
  refine z_seti (y := 2) hu.1 ?_
  refine z_iload B dL_law_397 1 rfl ?_
  refine z_icmp_eq (tgt := 404) B dL_law_399 (by decide) (fun _ => ?_) (fun h => absurd (by decide) h)
  refine z_iload B dL_law_404 1 rfl ?_
  refine z_if_ne (tgt := 421) B dL_law_406 (by decide) (fun _ => ?_) (fun h => absurd h (by decide))
  refine z_goto (tgt := 1395) B dL_law_421 (by decide) ?_
  exact z_widen (Nat.le_of_ble_eq_true rfl) (Nat.le_of_ble_eq_true rfl) (z_sub _ [2, 6] rfl (kk _))
set_option maxRecDepth 100000 in
set_option maxHeartbeats 4000000 in
theorem lf_2_307 {p : Program} {l : Launch} {e : Env} {s : State} {m : MethodId} {args : Array Value} {below : List Frame} {meth : Method} {c : Code} {g : gx_T} {Q : State → Prop} {σ : sx_T} {b t bS : Nat} {xs : Nat → Int32} (hlt : l.stackTraces = false) (B : zx_B p s m args meth c code RL 8 g) (hX : va_X bS 6 xs s s.heap) (hbl : bS < s.heap.size) (hbA : ¬ gx_b g ≤ bS) (hF : fz_P b t σ) {x1 : Int32} (h_x1 : xs 1 = x1) (q1_x1 : (6 : Int) ≤ x1.toInt) (q2_x1 : x1.toInt ≤ (2147483647 : Int)) {x2 : Int32} (h_x2 : xs 2 = x2) (q1_x2 : (-2147483648 : Int) ≤ x2.toInt) (q2_x2 : x2.toInt ≤ (-1000 : Int)) (kk : ∀ σ', zx p l e room_1 s m args below meth c g 8 600002 7302232 Q σ' 1395 [(4, .int 0), (0, .ref bS)] []) : zx p l e room_1 s m args below meth c g 8 500 100000 Q σ 356 [(4, .int 0), (3, .ref (b + 431)), (2, .ref (b + 405)), (1, .ref (b + 0)), (0, .ref bS)] [] := by
  have hK := fz_lay hF
  refine z_eqs (σ' := (ap b σ [] [] [])) rfl ?_
  refine z_aload_n B dL_law_356 rfl 3 rfl ?_
  refine z_aload_n B dL_law_357 rfl 4 rfl ?_
  refine z_iload B dL_law_358 0 rfl ?_
  refine z_iconst (v := 1) B dL_law_360 (by decide) ?_
  refine z_iadd B dL_law_361 ?_
  refine z_seti (y := 1) (by decide) ?_
  refine z_sld (j := 1) (x := x1) B hX hbl hbA (by decide) (show ¬ ((1 : Int32) < 0 ∨ 6 ≤ (1 : Int32).toNatClampNeg) by decide) h_x1 dL_law_362 ?_
  refine z_aload_n B dL_law_363 rfl 4 rfl ?_
  refine z_iload B dL_law_364 0 rfl ?_
  refine z_iconst (v := 2) B dL_law_366 (by decide) ?_
  refine z_iadd B dL_law_367 ?_
  refine z_seti (y := 2) (by decide) ?_
  refine z_sld (j := 2) (x := x2) B hX hbl hbA (by decide) (show ¬ ((2 : Int32) < 0 ∨ 6 ≤ (2 : Int32).toNatClampNeg) by decide) h_x2 dL_law_368 ?_
  refine z_aload_n B dL_law_369 rfl 1 rfl ?_
  refine z_cSWi (As := [.ref (b + 0), .int x1, .int x2, .ref (b + 431)]) (rest := []) B cw_L_87 dL_law_370 (ci_L_start_857 l hlt (σ := (ap b σ [] [] [])) (b := b) (lyA hK) x1 x2 q1_x1 q2_x1 (rR_at 0 0 (fz_R hF 0 0 rfl rfl))) rfl (by decide) rfl (Nat.le_of_ble_eq_true rfl) (by decide) (fun r u hu => ?_)
  obtain ⟨hu1, z, hu⟩ := hu
  refine z_eqs (σ' := (ap b (wx_Z σ z) [] [] [])) (hu.trans az_ap) ?_
  show zx p l e _ s m _ below meth c g 8 _ _ _ _ 373 [(4, .int 0), (3, .ref (b + 431)), (2, .ref (b + 405)), (1, .ref (b + 0)), (0, .ref bS)] _
  refine z_seti (y := 1) hu1 ?_
  refine z_istore (lv' := [(5, .int 1), (4, .int 0), (3, .ref (b + 431)), (2, .ref (b + 405)), (1, .ref (b + 0)), (0, .ref bS)]) B dL_law_373 (by decide) rfl ?_
  refine z_aload_n B dL_law_375 rfl 3 rfl ?_
  refine z_aload_n B dL_law_376 rfl 5 rfl ?_
  refine z_iload B dL_law_377 1 rfl ?_
  refine z_iconst (v := 1) B dL_law_379 (by decide) ?_
  refine z_iadd B dL_law_380 ?_
  refine z_seti (y := 1) (by decide) ?_
  refine z_sld (j := 1) (x := x1) B hX hbl hbA (by decide) (show ¬ ((1 : Int32) < 0 ∨ 6 ≤ (1 : Int32).toNatClampNeg) by decide) h_x1 dL_law_381 ?_
  refine z_aload_n B dL_law_382 rfl 5 rfl ?_
  refine z_iload B dL_law_383 1 rfl ?_
  refine z_iconst (v := 2) B dL_law_385 (by decide) ?_
  refine z_iadd B dL_law_386 ?_
  refine z_seti (y := 2) (by decide) ?_
  refine z_sld (j := 2) (x := x2) B hX hbl hbA (by decide) (show ¬ ((2 : Int32) < 0 ∨ 6 ≤ (2 : Int32).toNatClampNeg) by decide) h_x2 dL_law_387 ?_
  refine z_cVi (As := [.int x1, .int x2]) (rest := []) B cw_L_90 cx_10 dL_law_388 (ci_X9_start_858 l (σ := (ap b (wx_Z σ z) [] [] [])) (b := b) (lyA (lyZ hK)) x1 x2 q1_x1 q2_x1 q1_x2 q2_x2 (rI_at 405 6 (lIZ (fz_I hF 405 6 rfl rfl)))) (lKA (lKZ (hk_K hK 405 rfl rfl))) rfl (by decide) rfl (Nat.le_of_ble_eq_true rfl) (by decide) (fun r u hu => ?_)
  refine z_eqs (σ' := (ap b (wx_Z σ z) [(405, 0, 1)] [] [])) (hu.2.trans ap_ap) ?_
  show zx p l e _ s m _ below meth c g 8 _ _ _ _ 391 [(5, .int 1), (4, .int 0), (3, .ref (b + 431)), (2, .ref (b + 405)), (1, .ref (b + 0)), (0, .ref bS)] _
  refine z_seti (y := 0) hu.1 ?_
  refine z_istore (lv' := [(6, .int 0), (5, .int 1), (4, .int 0), (3, .ref (b + 431)), (2, .ref (b + 405)), (1, .ref (b + 0)), (0, .ref bS)]) B dL_law_391 (by decide) rfl ?_
  refine z_aload_n B dL_law_393 rfl 4 rfl ?_
  refine z_cVi (As := []) (rest := []) B cw_L_80 cx_10 dL_law_394 (ci_X9_thrown_31 l (σ := (ap b (wx_Z σ z) [(405, 0, 1)] [] [])) (b := b) (lyA (lyZ hK)) (rI_at 405 0 rfl)) (lKA (lKZ (hk_K hK 405 rfl rfl))) rfl (by decide) rfl (Nat.le_of_ble_eq_true rfl) (by decide) (fun r u hu => ?_)
  refine z_eqs (σ' := (ap b (wx_Z σ z) [(405, 0, 1)] [] [])) hu.2 ?_
  show zx p l e _ s m _ below meth c g 8 _ _ _ _ 397 [(6, .int 0), (5, .int 1), (4, .int 0), (3, .ref (b + 431)), (2, .ref (b + 405)), (1, .ref (b + 0)), (0, .ref bS)] _
  refine z_seti (y := 1) hu.1 ?_
  refine z_iload B dL_law_397 1 rfl ?_
  refine z_icmp_eq (tgt := 404) B dL_law_399 (by decide) (fun _ => ?_) (fun h => absurd (by decide) h)
  refine z_iload B dL_law_404 1 rfl ?_
  refine z_if_ne (tgt := 421) B dL_law_406 (by decide) (fun _ => ?_) (fun h => absurd h (by decide))
  refine z_goto (tgt := 1395) B dL_law_421 (by decide) ?_
  exact z_widen (Nat.le_of_ble_eq_true rfl) (Nat.le_of_ble_eq_true rfl) (z_sub _ [2, 6] rfl (kk _))
set_option maxRecDepth 100000 in
set_option maxHeartbeats 4000000 in
theorem lf_2_308 {p : Program} {l : Launch} {e : Env} {s : State} {m : MethodId} {args : Array Value} {below : List Frame} {meth : Method} {c : Code} {g : gx_T} {Q : State → Prop} {σ : sx_T} {b t bS : Nat} {xs : Nat → Int32} (hlt : l.stackTraces = false) (B : zx_B p s m args meth c code RL 8 g) (hX : va_X bS 6 xs s s.heap) (hbl : bS < s.heap.size) (hbA : ¬ gx_b g ≤ bS) (hF : fz_P b t σ) {x1 : Int32} (h_x1 : xs 1 = x1) (q1_x1 : (6 : Int) ≤ x1.toInt) (q2_x1 : x1.toInt ≤ (2147483647 : Int)) {x2 : Int32} (h_x2 : xs 2 = x2) (q1_x2 : (-999 : Int) ≤ x2.toInt) (q2_x2 : x2.toInt ≤ (999 : Int)) (kk : ∀ σ', zx p l e room_1 s m args below meth c g 8 600002 7302232 Q σ' 1395 [(4, .int 0), (0, .ref bS)] []) : zx p l e room_1 s m args below meth c g 8 500 100000 Q σ 356 [(4, .int 0), (3, .ref (b + 431)), (2, .ref (b + 405)), (1, .ref (b + 0)), (0, .ref bS)] [] := by
  have hK := fz_lay hF
  refine z_eqs (σ' := (ap b σ [] [] [])) rfl ?_
  refine z_aload_n B dL_law_356 rfl 3 rfl ?_
  refine z_aload_n B dL_law_357 rfl 4 rfl ?_
  refine z_iload B dL_law_358 0 rfl ?_
  refine z_iconst (v := 1) B dL_law_360 (by decide) ?_
  refine z_iadd B dL_law_361 ?_
  refine z_seti (y := 1) (by decide) ?_
  refine z_sld (j := 1) (x := x1) B hX hbl hbA (by decide) (show ¬ ((1 : Int32) < 0 ∨ 6 ≤ (1 : Int32).toNatClampNeg) by decide) h_x1 dL_law_362 ?_
  refine z_aload_n B dL_law_363 rfl 4 rfl ?_
  refine z_iload B dL_law_364 0 rfl ?_
  refine z_iconst (v := 2) B dL_law_366 (by decide) ?_
  refine z_iadd B dL_law_367 ?_
  refine z_seti (y := 2) (by decide) ?_
  refine z_sld (j := 2) (x := x2) B hX hbl hbA (by decide) (show ¬ ((2 : Int32) < 0 ∨ 6 ≤ (2 : Int32).toNatClampNeg) by decide) h_x2 dL_law_368 ?_
  refine z_aload_n B dL_law_369 rfl 1 rfl ?_
  refine z_cSWi (As := [.ref (b + 0), .int x1, .int x2, .ref (b + 431)]) (rest := []) B cw_L_87 dL_law_370 (ci_L_start_857 l hlt (σ := (ap b σ [] [] [])) (b := b) (lyA hK) x1 x2 q1_x1 q2_x1 (rR_at 0 0 (fz_R hF 0 0 rfl rfl))) rfl (by decide) rfl (Nat.le_of_ble_eq_true rfl) (by decide) (fun r u hu => ?_)
  obtain ⟨hu1, z, hu⟩ := hu
  refine z_eqs (σ' := (ap b (wx_Z σ z) [] [] [])) (hu.trans az_ap) ?_
  show zx p l e _ s m _ below meth c g 8 _ _ _ _ 373 [(4, .int 0), (3, .ref (b + 431)), (2, .ref (b + 405)), (1, .ref (b + 0)), (0, .ref bS)] _
  refine z_seti (y := 1) hu1 ?_
  refine z_istore (lv' := [(5, .int 1), (4, .int 0), (3, .ref (b + 431)), (2, .ref (b + 405)), (1, .ref (b + 0)), (0, .ref bS)]) B dL_law_373 (by decide) rfl ?_
  refine z_aload_n B dL_law_375 rfl 3 rfl ?_
  refine z_aload_n B dL_law_376 rfl 5 rfl ?_
  refine z_iload B dL_law_377 1 rfl ?_
  refine z_iconst (v := 1) B dL_law_379 (by decide) ?_
  refine z_iadd B dL_law_380 ?_
  refine z_seti (y := 1) (by decide) ?_
  refine z_sld (j := 1) (x := x1) B hX hbl hbA (by decide) (show ¬ ((1 : Int32) < 0 ∨ 6 ≤ (1 : Int32).toNatClampNeg) by decide) h_x1 dL_law_381 ?_
  refine z_aload_n B dL_law_382 rfl 5 rfl ?_
  refine z_iload B dL_law_383 1 rfl ?_
  refine z_iconst (v := 2) B dL_law_385 (by decide) ?_
  refine z_iadd B dL_law_386 ?_
  refine z_seti (y := 2) (by decide) ?_
  refine z_sld (j := 2) (x := x2) B hX hbl hbA (by decide) (show ¬ ((2 : Int32) < 0 ∨ 6 ≤ (2 : Int32).toNatClampNeg) by decide) h_x2 dL_law_387 ?_
  refine z_cVi (As := [.int x1, .int x2]) (rest := []) B cw_L_90 cx_10 dL_law_388 (ci_X9_start_859 l (σ := (ap b (wx_Z σ z) [] [] [])) (b := b) (lyA (lyZ hK)) x1 x2 q1_x1 q2_x1 q1_x2 q2_x2 (rI_at 405 6 (lIZ (fz_I hF 405 6 rfl rfl)))) (lKA (lKZ (hk_K hK 405 rfl rfl))) rfl (by decide) rfl (Nat.le_of_ble_eq_true rfl) (by decide) (fun r u hu => ?_)
  refine z_eqs (σ' := (ap b (wx_Z σ z) [(405, 0, 1)] [] [])) (hu.2.trans ap_ap) ?_
  show zx p l e _ s m _ below meth c g 8 _ _ _ _ 391 [(5, .int 1), (4, .int 0), (3, .ref (b + 431)), (2, .ref (b + 405)), (1, .ref (b + 0)), (0, .ref bS)] _
  refine z_seti (y := 0) hu.1 ?_
  refine z_istore (lv' := [(6, .int 0), (5, .int 1), (4, .int 0), (3, .ref (b + 431)), (2, .ref (b + 405)), (1, .ref (b + 0)), (0, .ref bS)]) B dL_law_391 (by decide) rfl ?_
  refine z_aload_n B dL_law_393 rfl 4 rfl ?_
  refine z_cVi (As := []) (rest := []) B cw_L_80 cx_10 dL_law_394 (ci_X9_thrown_31 l (σ := (ap b (wx_Z σ z) [(405, 0, 1)] [] [])) (b := b) (lyA (lyZ hK)) (rI_at 405 0 rfl)) (lKA (lKZ (hk_K hK 405 rfl rfl))) rfl (by decide) rfl (Nat.le_of_ble_eq_true rfl) (by decide) (fun r u hu => ?_)
  refine z_eqs (σ' := (ap b (wx_Z σ z) [(405, 0, 1)] [] [])) hu.2 ?_
  show zx p l e _ s m _ below meth c g 8 _ _ _ _ 397 [(6, .int 0), (5, .int 1), (4, .int 0), (3, .ref (b + 431)), (2, .ref (b + 405)), (1, .ref (b + 0)), (0, .ref bS)] _
  refine z_seti (y := 1) hu.1 ?_
  refine z_iload B dL_law_397 1 rfl ?_
  refine z_icmp_eq (tgt := 404) B dL_law_399 (by decide) (fun _ => ?_) (fun h => absurd (by decide) h)
  refine z_iload B dL_law_404 1 rfl ?_
  refine z_if_ne (tgt := 421) B dL_law_406 (by decide) (fun _ => ?_) (fun h => absurd h (by decide))
  refine z_goto (tgt := 1395) B dL_law_421 (by decide) ?_
  exact z_widen (Nat.le_of_ble_eq_true rfl) (Nat.le_of_ble_eq_true rfl) (z_sub _ [2, 6] rfl (kk _))
set_option maxRecDepth 100000 in
set_option maxHeartbeats 4000000 in
theorem lf_2_309 {p : Program} {l : Launch} {e : Env} {s : State} {m : MethodId} {args : Array Value} {below : List Frame} {meth : Method} {c : Code} {g : gx_T} {Q : State → Prop} {σ : sx_T} {b t bS : Nat} {xs : Nat → Int32} (hlt : l.stackTraces = false) (B : zx_B p s m args meth c code RL 8 g) (hX : va_X bS 6 xs s s.heap) (hbl : bS < s.heap.size) (hbA : ¬ gx_b g ≤ bS) (hF : fz_P b t σ) {x1 : Int32} (h_x1 : xs 1 = x1) (q1_x1 : (6 : Int) ≤ x1.toInt) (q2_x1 : x1.toInt ≤ (2147483647 : Int)) {x2 : Int32} (h_x2 : xs 2 = x2) (q1_x2 : (1000 : Int) ≤ x2.toInt) (q2_x2 : x2.toInt ≤ (2147483647 : Int)) (kk : ∀ σ', zx p l e room_1 s m args below meth c g 8 600002 7302232 Q σ' 1395 [(4, .int 0), (0, .ref bS)] []) : zx p l e room_1 s m args below meth c g 8 500 100000 Q σ 356 [(4, .int 0), (3, .ref (b + 431)), (2, .ref (b + 405)), (1, .ref (b + 0)), (0, .ref bS)] [] := by
  have hK := fz_lay hF
  refine z_eqs (σ' := (ap b σ [] [] [])) rfl ?_
  refine z_aload_n B dL_law_356 rfl 3 rfl ?_
  refine z_aload_n B dL_law_357 rfl 4 rfl ?_
  refine z_iload B dL_law_358 0 rfl ?_
  refine z_iconst (v := 1) B dL_law_360 (by decide) ?_
  refine z_iadd B dL_law_361 ?_
  refine z_seti (y := 1) (by decide) ?_
  refine z_sld (j := 1) (x := x1) B hX hbl hbA (by decide) (show ¬ ((1 : Int32) < 0 ∨ 6 ≤ (1 : Int32).toNatClampNeg) by decide) h_x1 dL_law_362 ?_
  refine z_aload_n B dL_law_363 rfl 4 rfl ?_
  refine z_iload B dL_law_364 0 rfl ?_
  refine z_iconst (v := 2) B dL_law_366 (by decide) ?_
  refine z_iadd B dL_law_367 ?_
  refine z_seti (y := 2) (by decide) ?_
  refine z_sld (j := 2) (x := x2) B hX hbl hbA (by decide) (show ¬ ((2 : Int32) < 0 ∨ 6 ≤ (2 : Int32).toNatClampNeg) by decide) h_x2 dL_law_368 ?_
  refine z_aload_n B dL_law_369 rfl 1 rfl ?_
  refine z_cSWi (As := [.ref (b + 0), .int x1, .int x2, .ref (b + 431)]) (rest := []) B cw_L_87 dL_law_370 (ci_L_start_857 l hlt (σ := (ap b σ [] [] [])) (b := b) (lyA hK) x1 x2 q1_x1 q2_x1 (rR_at 0 0 (fz_R hF 0 0 rfl rfl))) rfl (by decide) rfl (Nat.le_of_ble_eq_true rfl) (by decide) (fun r u hu => ?_)
  obtain ⟨hu1, z, hu⟩ := hu
  refine z_eqs (σ' := (ap b (wx_Z σ z) [] [] [])) (hu.trans az_ap) ?_
  show zx p l e _ s m _ below meth c g 8 _ _ _ _ 373 [(4, .int 0), (3, .ref (b + 431)), (2, .ref (b + 405)), (1, .ref (b + 0)), (0, .ref bS)] _
  refine z_seti (y := 1) hu1 ?_
  refine z_istore (lv' := [(5, .int 1), (4, .int 0), (3, .ref (b + 431)), (2, .ref (b + 405)), (1, .ref (b + 0)), (0, .ref bS)]) B dL_law_373 (by decide) rfl ?_
  refine z_aload_n B dL_law_375 rfl 3 rfl ?_
  refine z_aload_n B dL_law_376 rfl 5 rfl ?_
  refine z_iload B dL_law_377 1 rfl ?_
  refine z_iconst (v := 1) B dL_law_379 (by decide) ?_
  refine z_iadd B dL_law_380 ?_
  refine z_seti (y := 1) (by decide) ?_
  refine z_sld (j := 1) (x := x1) B hX hbl hbA (by decide) (show ¬ ((1 : Int32) < 0 ∨ 6 ≤ (1 : Int32).toNatClampNeg) by decide) h_x1 dL_law_381 ?_
  refine z_aload_n B dL_law_382 rfl 5 rfl ?_
  refine z_iload B dL_law_383 1 rfl ?_
  refine z_iconst (v := 2) B dL_law_385 (by decide) ?_
  refine z_iadd B dL_law_386 ?_
  refine z_seti (y := 2) (by decide) ?_
  refine z_sld (j := 2) (x := x2) B hX hbl hbA (by decide) (show ¬ ((2 : Int32) < 0 ∨ 6 ≤ (2 : Int32).toNatClampNeg) by decide) h_x2 dL_law_387 ?_
  refine z_cVi (As := [.int x1, .int x2]) (rest := []) B cw_L_90 cx_10 dL_law_388 (ci_X9_start_860 l (σ := (ap b (wx_Z σ z) [] [] [])) (b := b) (lyA (lyZ hK)) x1 x2 q1_x1 q2_x1 q1_x2 q2_x2 (rI_at 405 6 (lIZ (fz_I hF 405 6 rfl rfl)))) (lKA (lKZ (hk_K hK 405 rfl rfl))) rfl (by decide) rfl (Nat.le_of_ble_eq_true rfl) (by decide) (fun r u hu => ?_)
  refine z_eqs (σ' := (ap b (wx_Z σ z) [(405, 0, 1)] [] [])) (hu.2.trans ap_ap) ?_
  show zx p l e _ s m _ below meth c g 8 _ _ _ _ 391 [(5, .int 1), (4, .int 0), (3, .ref (b + 431)), (2, .ref (b + 405)), (1, .ref (b + 0)), (0, .ref bS)] _
  refine z_seti (y := 0) hu.1 ?_
  refine z_istore (lv' := [(6, .int 0), (5, .int 1), (4, .int 0), (3, .ref (b + 431)), (2, .ref (b + 405)), (1, .ref (b + 0)), (0, .ref bS)]) B dL_law_391 (by decide) rfl ?_
  refine z_aload_n B dL_law_393 rfl 4 rfl ?_
  refine z_cVi (As := []) (rest := []) B cw_L_80 cx_10 dL_law_394 (ci_X9_thrown_31 l (σ := (ap b (wx_Z σ z) [(405, 0, 1)] [] [])) (b := b) (lyA (lyZ hK)) (rI_at 405 0 rfl)) (lKA (lKZ (hk_K hK 405 rfl rfl))) rfl (by decide) rfl (Nat.le_of_ble_eq_true rfl) (by decide) (fun r u hu => ?_)
  refine z_eqs (σ' := (ap b (wx_Z σ z) [(405, 0, 1)] [] [])) hu.2 ?_
  show zx p l e _ s m _ below meth c g 8 _ _ _ _ 397 [(6, .int 0), (5, .int 1), (4, .int 0), (3, .ref (b + 431)), (2, .ref (b + 405)), (1, .ref (b + 0)), (0, .ref bS)] _
  refine z_seti (y := 1) hu.1 ?_
  refine z_iload B dL_law_397 1 rfl ?_
  refine z_icmp_eq (tgt := 404) B dL_law_399 (by decide) (fun _ => ?_) (fun h => absurd (by decide) h)
  refine z_iload B dL_law_404 1 rfl ?_
  refine z_if_ne (tgt := 421) B dL_law_406 (by decide) (fun _ => ?_) (fun h => absurd h (by decide))
  refine z_goto (tgt := 1395) B dL_law_421 (by decide) ?_
  exact z_widen (Nat.le_of_ble_eq_true rfl) (Nat.le_of_ble_eq_true rfl) (z_sub _ [2, 6] rfl (kk _))
set_option maxRecDepth 100000 in
set_option maxHeartbeats 4000000 in
theorem lf_3_310 {p : Program} {l : Launch} {e : Env} {s : State} {m : MethodId} {args : Array Value} {below : List Frame} {meth : Method} {c : Code} {g : gx_T} {Q : State → Prop} {σ : sx_T} {b t bS : Nat} {xs : Nat → Int32} (hlt : l.stackTraces = false) (B : zx_B p s m args meth c code RL 8 g) (hX : va_X bS 6 xs s s.heap) (hbl : bS < s.heap.size) (hbA : ¬ gx_b g ≤ bS) (hF : fz_P b t σ) {x1 : Int32} (h_x1 : xs 1 = x1) (q1_x1 : (-2147483648 : Int) ≤ x1.toInt) (q2_x1 : x1.toInt ≤ (-1 : Int)) {x2 : Int32} (h_x2 : xs 2 = x2) (q1_x2 : (-2147483648 : Int) ≤ x2.toInt) (q2_x2 : x2.toInt ≤ (-1 : Int)) {x3 : Int32} (h_x3 : xs 3 = x3) (q1_x3 : (-2147483648 : Int) ≤ x3.toInt) (q2_x3 : x3.toInt ≤ (2147483647 : Int)) (kk : ∀ σ', zx p l e room_1 s m args below meth c g 8 600002 7302232 Q σ' 1395 [(4, .int 0), (0, .ref bS)] []) : zx p l e room_1 s m args below meth c g 8 500 100000 Q σ 424 [(4, .int 0), (3, .ref (b + 431)), (2, .ref (b + 405)), (1, .ref (b + 0)), (0, .ref bS)] [] := by
  have hK := fz_lay hF
  refine z_eqs (σ' := (ap b σ [] [] [])) rfl ?_
  refine z_aload_n B dL_law_424 rfl 3 rfl ?_
  refine z_aload_n B dL_law_425 rfl 4 rfl ?_
  refine z_iload B dL_law_426 0 rfl ?_
  refine z_iconst (v := 1) B dL_law_428 (by decide) ?_
  refine z_iadd B dL_law_429 ?_
  refine z_seti (y := 1) (by decide) ?_
  refine z_sld (j := 1) (x := x1) B hX hbl hbA (by decide) (show ¬ ((1 : Int32) < 0 ∨ 6 ≤ (1 : Int32).toNatClampNeg) by decide) h_x1 dL_law_430 ?_
  refine z_aload_n B dL_law_431 rfl 4 rfl ?_
  refine z_iload B dL_law_432 0 rfl ?_
  refine z_iconst (v := 2) B dL_law_434 (by decide) ?_
  refine z_iadd B dL_law_435 ?_
  refine z_seti (y := 2) (by decide) ?_
  refine z_sld (j := 2) (x := x2) B hX hbl hbA (by decide) (show ¬ ((2 : Int32) < 0 ∨ 6 ≤ (2 : Int32).toNatClampNeg) by decide) h_x2 dL_law_436 ?_
  refine z_aload_n B dL_law_437 rfl 4 rfl ?_
  refine z_iload B dL_law_438 0 rfl ?_
  refine z_iconst (v := 3) B dL_law_440 (by decide) ?_
  refine z_iadd B dL_law_441 ?_
  refine z_seti (y := 3) (by decide) ?_
  refine z_sld (j := 3) (x := x3) B hX hbl hbA (by decide) (show ¬ ((3 : Int32) < 0 ∨ 6 ≤ (3 : Int32).toNatClampNeg) by decide) h_x3 dL_law_442 ?_
  refine z_aload_n B dL_law_443 rfl 1 rfl ?_
  refine z_cSWi (As := [.ref (b + 0), .int x1, .int x2, .int x3, .ref (b + 431)]) (rest := []) B cw_L_91 dL_law_444 (ci_L_signal_863 l hlt (σ := (ap b σ [] [] [])) (b := b) (lyA hK) x1 x2 x3 q1_x1 q2_x1) rfl (by decide) rfl (Nat.le_of_ble_eq_true rfl) (by decide) (fun r u hu => ?_)
  obtain ⟨hu1, z, hu⟩ := hu
  refine z_eqs (σ' := (ap b (wx_Z σ z) [] [] [])) (hu.trans az_ap) ?_
  show zx p l e _ s m _ below meth c g 8 _ _ _ _ 447 [(4, .int 0), (3, .ref (b + 431)), (2, .ref (b + 405)), (1, .ref (b + 0)), (0, .ref bS)] _
  refine z_seti (y := 1) hu1 ?_
  refine z_istore (lv' := [(5, .int 1), (4, .int 0), (3, .ref (b + 431)), (2, .ref (b + 405)), (1, .ref (b + 0)), (0, .ref bS)]) B dL_law_447 (by decide) rfl ?_
  refine z_aload_n B dL_law_449 rfl 3 rfl ?_
  refine z_aload_n B dL_law_450 rfl 5 rfl ?_
  refine z_iload B dL_law_451 1 rfl ?_
  refine z_iconst (v := 1) B dL_law_453 (by decide) ?_
  refine z_iadd B dL_law_454 ?_
  refine z_seti (y := 1) (by decide) ?_
  refine z_sld (j := 1) (x := x1) B hX hbl hbA (by decide) (show ¬ ((1 : Int32) < 0 ∨ 6 ≤ (1 : Int32).toNatClampNeg) by decide) h_x1 dL_law_455 ?_
  refine z_aload_n B dL_law_456 rfl 5 rfl ?_
  refine z_iload B dL_law_457 1 rfl ?_
  refine z_iconst (v := 2) B dL_law_459 (by decide) ?_
  refine z_iadd B dL_law_460 ?_
  refine z_seti (y := 2) (by decide) ?_
  refine z_sld (j := 2) (x := x2) B hX hbl hbA (by decide) (show ¬ ((2 : Int32) < 0 ∨ 6 ≤ (2 : Int32).toNatClampNeg) by decide) h_x2 dL_law_461 ?_
  refine z_aload_n B dL_law_462 rfl 5 rfl ?_
  refine z_iload B dL_law_463 1 rfl ?_
  refine z_iconst (v := 3) B dL_law_465 (by decide) ?_
  refine z_iadd B dL_law_466 ?_
  refine z_seti (y := 3) (by decide) ?_
  refine z_sld (j := 3) (x := x3) B hX hbl hbA (by decide) (show ¬ ((3 : Int32) < 0 ∨ 6 ≤ (3 : Int32).toNatClampNeg) by decide) h_x3 dL_law_467 ?_
  refine z_cVi (As := [.int x1, .int x2, .int x3]) (rest := []) B cw_L_94 cx_10 dL_law_468 (ci_X9_signal_866 l (σ := (ap b (wx_Z σ z) [] [] [])) (b := b) (lyA (lyZ hK)) x1 x2 x3 q1_x1 q2_x1 q1_x2 q2_x2 (rI_at 405 6 (lIZ (fz_I hF 405 6 rfl rfl)))) (lKA (lKZ (hk_K hK 405 rfl rfl))) rfl (by decide) rfl (Nat.le_of_ble_eq_true rfl) (by decide) (fun r u hu => ?_)
  refine z_eqs (σ' := (ap b (wx_Z σ z) [(405, 0, 1)] [] [])) (hu.2.trans ap_ap) ?_
  show zx p l e _ s m _ below meth c g 8 _ _ _ _ 471 [(5, .int 1), (4, .int 0), (3, .ref (b + 431)), (2, .ref (b + 405)), (1, .ref (b + 0)), (0, .ref bS)] _
  refine z_seti (y := 0) hu.1 ?_
  refine z_istore (lv' := [(6, .int 0), (5, .int 1), (4, .int 0), (3, .ref (b + 431)), (2, .ref (b + 405)), (1, .ref (b + 0)), (0, .ref bS)]) B dL_law_471 (by decide) rfl ?_
  refine z_aload_n B dL_law_473 rfl 4 rfl ?_
  refine z_cVi (As := []) (rest := []) B cw_L_80 cx_10 dL_law_474 (ci_X9_thrown_31 l (σ := (ap b (wx_Z σ z) [(405, 0, 1)] [] [])) (b := b) (lyA (lyZ hK)) (rI_at 405 0 rfl)) (lKA (lKZ (hk_K hK 405 rfl rfl))) rfl (by decide) rfl (Nat.le_of_ble_eq_true rfl) (by decide) (fun r u hu => ?_)
  refine z_eqs (σ' := (ap b (wx_Z σ z) [(405, 0, 1)] [] [])) hu.2 ?_
  show zx p l e _ s m _ below meth c g 8 _ _ _ _ 477 [(6, .int 0), (5, .int 1), (4, .int 0), (3, .ref (b + 431)), (2, .ref (b + 405)), (1, .ref (b + 0)), (0, .ref bS)] _
  refine z_seti (y := 1) hu.1 ?_
  refine z_iload B dL_law_477 1 rfl ?_
  refine z_icmp_eq (tgt := 484) B dL_law_479 (by decide) (fun _ => ?_) (fun h => absurd (by decide) h)
  refine z_iload B dL_law_484 1 rfl ?_
  refine z_if_ne (tgt := 508) B dL_law_486 (by decide) (fun _ => ?_) (fun h => absurd h (by decide))
  refine z_goto (tgt := 1395) B dL_law_508 (by decide) ?_
  exact z_widen (Nat.le_of_ble_eq_true rfl) (Nat.le_of_ble_eq_true rfl) (z_sub _ [2, 6] rfl (kk _))
set_option maxRecDepth 100000 in
set_option maxHeartbeats 4000000 in
theorem lf_3_311 {p : Program} {l : Launch} {e : Env} {s : State} {m : MethodId} {args : Array Value} {below : List Frame} {meth : Method} {c : Code} {g : gx_T} {Q : State → Prop} {σ : sx_T} {b t bS : Nat} {xs : Nat → Int32} (hlt : l.stackTraces = false) (B : zx_B p s m args meth c code RL 8 g) (hX : va_X bS 6 xs s s.heap) (hbl : bS < s.heap.size) (hbA : ¬ gx_b g ≤ bS) (hF : fz_P b t σ) {x1 : Int32} (h_x1 : xs 1 = x1) (q1_x1 : (-2147483648 : Int) ≤ x1.toInt) (q2_x1 : x1.toInt ≤ (-1 : Int)) {x2 : Int32} (h_x2 : xs 2 = x2) (q1_x2 : (0 : Int) ≤ x2.toInt) (q2_x2 : x2.toInt ≤ (99 : Int)) {x3 : Int32} (h_x3 : xs 3 = x3) (q1_x3 : (-2147483648 : Int) ≤ x3.toInt) (q2_x3 : x3.toInt ≤ (-1 : Int)) (kk : ∀ σ', zx p l e room_1 s m args below meth c g 8 600002 7302232 Q σ' 1395 [(4, .int 0), (0, .ref bS)] []) : zx p l e room_1 s m args below meth c g 8 500 100000 Q σ 424 [(4, .int 0), (3, .ref (b + 431)), (2, .ref (b + 405)), (1, .ref (b + 0)), (0, .ref bS)] [] := by
  have hK := fz_lay hF
  refine z_eqs (σ' := (ap b σ [] [] [])) rfl ?_
  refine z_aload_n B dL_law_424 rfl 3 rfl ?_
  refine z_aload_n B dL_law_425 rfl 4 rfl ?_
  refine z_iload B dL_law_426 0 rfl ?_
  refine z_iconst (v := 1) B dL_law_428 (by decide) ?_
  refine z_iadd B dL_law_429 ?_
  refine z_seti (y := 1) (by decide) ?_
  refine z_sld (j := 1) (x := x1) B hX hbl hbA (by decide) (show ¬ ((1 : Int32) < 0 ∨ 6 ≤ (1 : Int32).toNatClampNeg) by decide) h_x1 dL_law_430 ?_
  refine z_aload_n B dL_law_431 rfl 4 rfl ?_
  refine z_iload B dL_law_432 0 rfl ?_
  refine z_iconst (v := 2) B dL_law_434 (by decide) ?_
  refine z_iadd B dL_law_435 ?_
  refine z_seti (y := 2) (by decide) ?_
  refine z_sld (j := 2) (x := x2) B hX hbl hbA (by decide) (show ¬ ((2 : Int32) < 0 ∨ 6 ≤ (2 : Int32).toNatClampNeg) by decide) h_x2 dL_law_436 ?_
  refine z_aload_n B dL_law_437 rfl 4 rfl ?_
  refine z_iload B dL_law_438 0 rfl ?_
  refine z_iconst (v := 3) B dL_law_440 (by decide) ?_
  refine z_iadd B dL_law_441 ?_
  refine z_seti (y := 3) (by decide) ?_
  refine z_sld (j := 3) (x := x3) B hX hbl hbA (by decide) (show ¬ ((3 : Int32) < 0 ∨ 6 ≤ (3 : Int32).toNatClampNeg) by decide) h_x3 dL_law_442 ?_
  refine z_aload_n B dL_law_443 rfl 1 rfl ?_
  refine z_cSWi (As := [.ref (b + 0), .int x1, .int x2, .int x3, .ref (b + 431)]) (rest := []) B cw_L_91 dL_law_444 (ci_L_signal_863 l hlt (σ := (ap b σ [] [] [])) (b := b) (lyA hK) x1 x2 x3 q1_x1 q2_x1) rfl (by decide) rfl (Nat.le_of_ble_eq_true rfl) (by decide) (fun r u hu => ?_)
  obtain ⟨hu1, z, hu⟩ := hu
  refine z_eqs (σ' := (ap b (wx_Z σ z) [] [] [])) (hu.trans az_ap) ?_
  show zx p l e _ s m _ below meth c g 8 _ _ _ _ 447 [(4, .int 0), (3, .ref (b + 431)), (2, .ref (b + 405)), (1, .ref (b + 0)), (0, .ref bS)] _
  refine z_seti (y := 1) hu1 ?_
  refine z_istore (lv' := [(5, .int 1), (4, .int 0), (3, .ref (b + 431)), (2, .ref (b + 405)), (1, .ref (b + 0)), (0, .ref bS)]) B dL_law_447 (by decide) rfl ?_
  refine z_aload_n B dL_law_449 rfl 3 rfl ?_
  refine z_aload_n B dL_law_450 rfl 5 rfl ?_
  refine z_iload B dL_law_451 1 rfl ?_
  refine z_iconst (v := 1) B dL_law_453 (by decide) ?_
  refine z_iadd B dL_law_454 ?_
  refine z_seti (y := 1) (by decide) ?_
  refine z_sld (j := 1) (x := x1) B hX hbl hbA (by decide) (show ¬ ((1 : Int32) < 0 ∨ 6 ≤ (1 : Int32).toNatClampNeg) by decide) h_x1 dL_law_455 ?_
  refine z_aload_n B dL_law_456 rfl 5 rfl ?_
  refine z_iload B dL_law_457 1 rfl ?_
  refine z_iconst (v := 2) B dL_law_459 (by decide) ?_
  refine z_iadd B dL_law_460 ?_
  refine z_seti (y := 2) (by decide) ?_
  refine z_sld (j := 2) (x := x2) B hX hbl hbA (by decide) (show ¬ ((2 : Int32) < 0 ∨ 6 ≤ (2 : Int32).toNatClampNeg) by decide) h_x2 dL_law_461 ?_
  refine z_aload_n B dL_law_462 rfl 5 rfl ?_
  refine z_iload B dL_law_463 1 rfl ?_
  refine z_iconst (v := 3) B dL_law_465 (by decide) ?_
  refine z_iadd B dL_law_466 ?_
  refine z_seti (y := 3) (by decide) ?_
  refine z_sld (j := 3) (x := x3) B hX hbl hbA (by decide) (show ¬ ((3 : Int32) < 0 ∨ 6 ≤ (3 : Int32).toNatClampNeg) by decide) h_x3 dL_law_467 ?_
  refine z_cVi (As := [.int x1, .int x2, .int x3]) (rest := []) B cw_L_94 cx_10 dL_law_468 (ci_X9_signal_867 l (σ := (ap b (wx_Z σ z) [] [] [])) (b := b) (lyA (lyZ hK)) x1 x2 x3 q1_x1 q2_x1 q1_x2 q2_x2 q1_x3 q2_x3 (rI_at 405 6 (lIZ (fz_I hF 405 6 rfl rfl)))) (lKA (lKZ (hk_K hK 405 rfl rfl))) rfl (by decide) rfl (Nat.le_of_ble_eq_true rfl) (by decide) (fun r u hu => ?_)
  refine z_eqs (σ' := (ap b (wx_Z σ z) [(405, 0, 1)] [] [])) (hu.2.trans ap_ap) ?_
  show zx p l e _ s m _ below meth c g 8 _ _ _ _ 471 [(5, .int 1), (4, .int 0), (3, .ref (b + 431)), (2, .ref (b + 405)), (1, .ref (b + 0)), (0, .ref bS)] _
  refine z_seti (y := 0) hu.1 ?_
  refine z_istore (lv' := [(6, .int 0), (5, .int 1), (4, .int 0), (3, .ref (b + 431)), (2, .ref (b + 405)), (1, .ref (b + 0)), (0, .ref bS)]) B dL_law_471 (by decide) rfl ?_
  refine z_aload_n B dL_law_473 rfl 4 rfl ?_
  refine z_cVi (As := []) (rest := []) B cw_L_80 cx_10 dL_law_474 (ci_X9_thrown_31 l (σ := (ap b (wx_Z σ z) [(405, 0, 1)] [] [])) (b := b) (lyA (lyZ hK)) (rI_at 405 0 rfl)) (lKA (lKZ (hk_K hK 405 rfl rfl))) rfl (by decide) rfl (Nat.le_of_ble_eq_true rfl) (by decide) (fun r u hu => ?_)
  refine z_eqs (σ' := (ap b (wx_Z σ z) [(405, 0, 1)] [] [])) hu.2 ?_
  show zx p l e _ s m _ below meth c g 8 _ _ _ _ 477 [(6, .int 0), (5, .int 1), (4, .int 0), (3, .ref (b + 431)), (2, .ref (b + 405)), (1, .ref (b + 0)), (0, .ref bS)] _
  refine z_seti (y := 1) hu.1 ?_
  refine z_iload B dL_law_477 1 rfl ?_
  refine z_icmp_eq (tgt := 484) B dL_law_479 (by decide) (fun _ => ?_) (fun h => absurd (by decide) h)
  refine z_iload B dL_law_484 1 rfl ?_
  refine z_if_ne (tgt := 508) B dL_law_486 (by decide) (fun _ => ?_) (fun h => absurd h (by decide))
  refine z_goto (tgt := 1395) B dL_law_508 (by decide) ?_
  exact z_widen (Nat.le_of_ble_eq_true rfl) (Nat.le_of_ble_eq_true rfl) (z_sub _ [2, 6] rfl (kk _))
set_option maxRecDepth 100000 in
set_option maxHeartbeats 4000000 in
theorem lf_3_312 {p : Program} {l : Launch} {e : Env} {s : State} {m : MethodId} {args : Array Value} {below : List Frame} {meth : Method} {c : Code} {g : gx_T} {Q : State → Prop} {σ : sx_T} {b t bS : Nat} {xs : Nat → Int32} (hlt : l.stackTraces = false) (B : zx_B p s m args meth c code RL 8 g) (hX : va_X bS 6 xs s s.heap) (hbl : bS < s.heap.size) (hbA : ¬ gx_b g ≤ bS) (hF : fz_P b t σ) {x1 : Int32} (h_x1 : xs 1 = x1) (q1_x1 : (-2147483648 : Int) ≤ x1.toInt) (q2_x1 : x1.toInt ≤ (-1 : Int)) {x2 : Int32} (h_x2 : xs 2 = x2) (q1_x2 : (0 : Int) ≤ x2.toInt) (q2_x2 : x2.toInt ≤ (99 : Int)) {x3 : Int32} (h_x3 : xs 3 = x3) (q1_x3 : (0 : Int) ≤ x3.toInt) (q2_x3 : x3.toInt ≤ (99 : Int)) (kk : ∀ σ', zx p l e room_1 s m args below meth c g 8 600002 7302232 Q σ' 1395 [(4, .int 0), (0, .ref bS)] []) : zx p l e room_1 s m args below meth c g 8 500 100000 Q σ 424 [(4, .int 0), (3, .ref (b + 431)), (2, .ref (b + 405)), (1, .ref (b + 0)), (0, .ref bS)] [] := by
  have hK := fz_lay hF
  refine z_eqs (σ' := (ap b σ [] [] [])) rfl ?_
  refine z_aload_n B dL_law_424 rfl 3 rfl ?_
  refine z_aload_n B dL_law_425 rfl 4 rfl ?_
  refine z_iload B dL_law_426 0 rfl ?_
  refine z_iconst (v := 1) B dL_law_428 (by decide) ?_
  refine z_iadd B dL_law_429 ?_
  refine z_seti (y := 1) (by decide) ?_
  refine z_sld (j := 1) (x := x1) B hX hbl hbA (by decide) (show ¬ ((1 : Int32) < 0 ∨ 6 ≤ (1 : Int32).toNatClampNeg) by decide) h_x1 dL_law_430 ?_
  refine z_aload_n B dL_law_431 rfl 4 rfl ?_
  refine z_iload B dL_law_432 0 rfl ?_
  refine z_iconst (v := 2) B dL_law_434 (by decide) ?_
  refine z_iadd B dL_law_435 ?_
  refine z_seti (y := 2) (by decide) ?_
  refine z_sld (j := 2) (x := x2) B hX hbl hbA (by decide) (show ¬ ((2 : Int32) < 0 ∨ 6 ≤ (2 : Int32).toNatClampNeg) by decide) h_x2 dL_law_436 ?_
  refine z_aload_n B dL_law_437 rfl 4 rfl ?_
  refine z_iload B dL_law_438 0 rfl ?_
  refine z_iconst (v := 3) B dL_law_440 (by decide) ?_
  refine z_iadd B dL_law_441 ?_
  refine z_seti (y := 3) (by decide) ?_
  refine z_sld (j := 3) (x := x3) B hX hbl hbA (by decide) (show ¬ ((3 : Int32) < 0 ∨ 6 ≤ (3 : Int32).toNatClampNeg) by decide) h_x3 dL_law_442 ?_
  refine z_aload_n B dL_law_443 rfl 1 rfl ?_
  refine z_cSWi (As := [.ref (b + 0), .int x1, .int x2, .int x3, .ref (b + 431)]) (rest := []) B cw_L_91 dL_law_444 (ci_L_signal_863 l hlt (σ := (ap b σ [] [] [])) (b := b) (lyA hK) x1 x2 x3 q1_x1 q2_x1) rfl (by decide) rfl (Nat.le_of_ble_eq_true rfl) (by decide) (fun r u hu => ?_)
  obtain ⟨hu1, z, hu⟩ := hu
  refine z_eqs (σ' := (ap b (wx_Z σ z) [] [] [])) (hu.trans az_ap) ?_
  show zx p l e _ s m _ below meth c g 8 _ _ _ _ 447 [(4, .int 0), (3, .ref (b + 431)), (2, .ref (b + 405)), (1, .ref (b + 0)), (0, .ref bS)] _
  refine z_seti (y := 1) hu1 ?_
  refine z_istore (lv' := [(5, .int 1), (4, .int 0), (3, .ref (b + 431)), (2, .ref (b + 405)), (1, .ref (b + 0)), (0, .ref bS)]) B dL_law_447 (by decide) rfl ?_
  refine z_aload_n B dL_law_449 rfl 3 rfl ?_
  refine z_aload_n B dL_law_450 rfl 5 rfl ?_
  refine z_iload B dL_law_451 1 rfl ?_
  refine z_iconst (v := 1) B dL_law_453 (by decide) ?_
  refine z_iadd B dL_law_454 ?_
  refine z_seti (y := 1) (by decide) ?_
  refine z_sld (j := 1) (x := x1) B hX hbl hbA (by decide) (show ¬ ((1 : Int32) < 0 ∨ 6 ≤ (1 : Int32).toNatClampNeg) by decide) h_x1 dL_law_455 ?_
  refine z_aload_n B dL_law_456 rfl 5 rfl ?_
  refine z_iload B dL_law_457 1 rfl ?_
  refine z_iconst (v := 2) B dL_law_459 (by decide) ?_
  refine z_iadd B dL_law_460 ?_
  refine z_seti (y := 2) (by decide) ?_
  refine z_sld (j := 2) (x := x2) B hX hbl hbA (by decide) (show ¬ ((2 : Int32) < 0 ∨ 6 ≤ (2 : Int32).toNatClampNeg) by decide) h_x2 dL_law_461 ?_
  refine z_aload_n B dL_law_462 rfl 5 rfl ?_
  refine z_iload B dL_law_463 1 rfl ?_
  refine z_iconst (v := 3) B dL_law_465 (by decide) ?_
  refine z_iadd B dL_law_466 ?_
  refine z_seti (y := 3) (by decide) ?_
  refine z_sld (j := 3) (x := x3) B hX hbl hbA (by decide) (show ¬ ((3 : Int32) < 0 ∨ 6 ≤ (3 : Int32).toNatClampNeg) by decide) h_x3 dL_law_467 ?_
  refine z_cVi (As := [.int x1, .int x2, .int x3]) (rest := []) B cw_L_94 cx_10 dL_law_468 (ci_X9_signal_868 l (σ := (ap b (wx_Z σ z) [] [] [])) (b := b) (lyA (lyZ hK)) x1 x2 x3 q1_x1 q2_x1 q1_x2 q2_x2 q1_x3 q2_x3 (rI_at 405 6 (lIZ (fz_I hF 405 6 rfl rfl)))) (lKA (lKZ (hk_K hK 405 rfl rfl))) rfl (by decide) rfl (Nat.le_of_ble_eq_true rfl) (by decide) (fun r u hu => ?_)
  refine z_eqs (σ' := (ap b (wx_Z σ z) [(405, 0, 1)] [] [])) (hu.2.trans ap_ap) ?_
  show zx p l e _ s m _ below meth c g 8 _ _ _ _ 471 [(5, .int 1), (4, .int 0), (3, .ref (b + 431)), (2, .ref (b + 405)), (1, .ref (b + 0)), (0, .ref bS)] _
  refine z_seti (y := 0) hu.1 ?_
  refine z_istore (lv' := [(6, .int 0), (5, .int 1), (4, .int 0), (3, .ref (b + 431)), (2, .ref (b + 405)), (1, .ref (b + 0)), (0, .ref bS)]) B dL_law_471 (by decide) rfl ?_
  refine z_aload_n B dL_law_473 rfl 4 rfl ?_
  refine z_cVi (As := []) (rest := []) B cw_L_80 cx_10 dL_law_474 (ci_X9_thrown_31 l (σ := (ap b (wx_Z σ z) [(405, 0, 1)] [] [])) (b := b) (lyA (lyZ hK)) (rI_at 405 0 rfl)) (lKA (lKZ (hk_K hK 405 rfl rfl))) rfl (by decide) rfl (Nat.le_of_ble_eq_true rfl) (by decide) (fun r u hu => ?_)
  refine z_eqs (σ' := (ap b (wx_Z σ z) [(405, 0, 1)] [] [])) hu.2 ?_
  show zx p l e _ s m _ below meth c g 8 _ _ _ _ 477 [(6, .int 0), (5, .int 1), (4, .int 0), (3, .ref (b + 431)), (2, .ref (b + 405)), (1, .ref (b + 0)), (0, .ref bS)] _
  refine z_seti (y := 1) hu.1 ?_
  refine z_iload B dL_law_477 1 rfl ?_
  refine z_icmp_eq (tgt := 484) B dL_law_479 (by decide) (fun _ => ?_) (fun h => absurd (by decide) h)
  refine z_iload B dL_law_484 1 rfl ?_
  refine z_if_ne (tgt := 508) B dL_law_486 (by decide) (fun _ => ?_) (fun h => absurd h (by decide))
  refine z_goto (tgt := 1395) B dL_law_508 (by decide) ?_
  exact z_widen (Nat.le_of_ble_eq_true rfl) (Nat.le_of_ble_eq_true rfl) (z_sub _ [2, 6] rfl (kk _))
set_option maxRecDepth 100000 in
set_option maxHeartbeats 4000000 in
theorem lf_3_313 {p : Program} {l : Launch} {e : Env} {s : State} {m : MethodId} {args : Array Value} {below : List Frame} {meth : Method} {c : Code} {g : gx_T} {Q : State → Prop} {σ : sx_T} {b t bS : Nat} {xs : Nat → Int32} (hlt : l.stackTraces = false) (B : zx_B p s m args meth c code RL 8 g) (hX : va_X bS 6 xs s s.heap) (hbl : bS < s.heap.size) (hbA : ¬ gx_b g ≤ bS) (hF : fz_P b t σ) {x1 : Int32} (h_x1 : xs 1 = x1) (q1_x1 : (-2147483648 : Int) ≤ x1.toInt) (q2_x1 : x1.toInt ≤ (-1 : Int)) {x2 : Int32} (h_x2 : xs 2 = x2) (q1_x2 : (0 : Int) ≤ x2.toInt) (q2_x2 : x2.toInt ≤ (99 : Int)) {x3 : Int32} (h_x3 : xs 3 = x3) (q1_x3 : (100 : Int) ≤ x3.toInt) (q2_x3 : x3.toInt ≤ (2147483647 : Int)) (kk : ∀ σ', zx p l e room_1 s m args below meth c g 8 600002 7302232 Q σ' 1395 [(4, .int 0), (0, .ref bS)] []) : zx p l e room_1 s m args below meth c g 8 500 100000 Q σ 424 [(4, .int 0), (3, .ref (b + 431)), (2, .ref (b + 405)), (1, .ref (b + 0)), (0, .ref bS)] [] := by
  have hK := fz_lay hF
  refine z_eqs (σ' := (ap b σ [] [] [])) rfl ?_
  refine z_aload_n B dL_law_424 rfl 3 rfl ?_
  refine z_aload_n B dL_law_425 rfl 4 rfl ?_
  refine z_iload B dL_law_426 0 rfl ?_
  refine z_iconst (v := 1) B dL_law_428 (by decide) ?_
  refine z_iadd B dL_law_429 ?_
  refine z_seti (y := 1) (by decide) ?_
  refine z_sld (j := 1) (x := x1) B hX hbl hbA (by decide) (show ¬ ((1 : Int32) < 0 ∨ 6 ≤ (1 : Int32).toNatClampNeg) by decide) h_x1 dL_law_430 ?_
  refine z_aload_n B dL_law_431 rfl 4 rfl ?_
  refine z_iload B dL_law_432 0 rfl ?_
  refine z_iconst (v := 2) B dL_law_434 (by decide) ?_
  refine z_iadd B dL_law_435 ?_
  refine z_seti (y := 2) (by decide) ?_
  refine z_sld (j := 2) (x := x2) B hX hbl hbA (by decide) (show ¬ ((2 : Int32) < 0 ∨ 6 ≤ (2 : Int32).toNatClampNeg) by decide) h_x2 dL_law_436 ?_
  refine z_aload_n B dL_law_437 rfl 4 rfl ?_
  refine z_iload B dL_law_438 0 rfl ?_
  refine z_iconst (v := 3) B dL_law_440 (by decide) ?_
  refine z_iadd B dL_law_441 ?_
  refine z_seti (y := 3) (by decide) ?_
  refine z_sld (j := 3) (x := x3) B hX hbl hbA (by decide) (show ¬ ((3 : Int32) < 0 ∨ 6 ≤ (3 : Int32).toNatClampNeg) by decide) h_x3 dL_law_442 ?_
  refine z_aload_n B dL_law_443 rfl 1 rfl ?_
  refine z_cSWi (As := [.ref (b + 0), .int x1, .int x2, .int x3, .ref (b + 431)]) (rest := []) B cw_L_91 dL_law_444 (ci_L_signal_863 l hlt (σ := (ap b σ [] [] [])) (b := b) (lyA hK) x1 x2 x3 q1_x1 q2_x1) rfl (by decide) rfl (Nat.le_of_ble_eq_true rfl) (by decide) (fun r u hu => ?_)
  obtain ⟨hu1, z, hu⟩ := hu
  refine z_eqs (σ' := (ap b (wx_Z σ z) [] [] [])) (hu.trans az_ap) ?_
  show zx p l e _ s m _ below meth c g 8 _ _ _ _ 447 [(4, .int 0), (3, .ref (b + 431)), (2, .ref (b + 405)), (1, .ref (b + 0)), (0, .ref bS)] _
  refine z_seti (y := 1) hu1 ?_
  refine z_istore (lv' := [(5, .int 1), (4, .int 0), (3, .ref (b + 431)), (2, .ref (b + 405)), (1, .ref (b + 0)), (0, .ref bS)]) B dL_law_447 (by decide) rfl ?_
  refine z_aload_n B dL_law_449 rfl 3 rfl ?_
  refine z_aload_n B dL_law_450 rfl 5 rfl ?_
  refine z_iload B dL_law_451 1 rfl ?_
  refine z_iconst (v := 1) B dL_law_453 (by decide) ?_
  refine z_iadd B dL_law_454 ?_
  refine z_seti (y := 1) (by decide) ?_
  refine z_sld (j := 1) (x := x1) B hX hbl hbA (by decide) (show ¬ ((1 : Int32) < 0 ∨ 6 ≤ (1 : Int32).toNatClampNeg) by decide) h_x1 dL_law_455 ?_
  refine z_aload_n B dL_law_456 rfl 5 rfl ?_
  refine z_iload B dL_law_457 1 rfl ?_
  refine z_iconst (v := 2) B dL_law_459 (by decide) ?_
  refine z_iadd B dL_law_460 ?_
  refine z_seti (y := 2) (by decide) ?_
  refine z_sld (j := 2) (x := x2) B hX hbl hbA (by decide) (show ¬ ((2 : Int32) < 0 ∨ 6 ≤ (2 : Int32).toNatClampNeg) by decide) h_x2 dL_law_461 ?_
  refine z_aload_n B dL_law_462 rfl 5 rfl ?_
  refine z_iload B dL_law_463 1 rfl ?_
  refine z_iconst (v := 3) B dL_law_465 (by decide) ?_
  refine z_iadd B dL_law_466 ?_
  refine z_seti (y := 3) (by decide) ?_
  refine z_sld (j := 3) (x := x3) B hX hbl hbA (by decide) (show ¬ ((3 : Int32) < 0 ∨ 6 ≤ (3 : Int32).toNatClampNeg) by decide) h_x3 dL_law_467 ?_
  refine z_cVi (As := [.int x1, .int x2, .int x3]) (rest := []) B cw_L_94 cx_10 dL_law_468 (ci_X9_signal_869 l (σ := (ap b (wx_Z σ z) [] [] [])) (b := b) (lyA (lyZ hK)) x1 x2 x3 q1_x1 q2_x1 q1_x2 q2_x2 q1_x3 q2_x3 (rI_at 405 6 (lIZ (fz_I hF 405 6 rfl rfl)))) (lKA (lKZ (hk_K hK 405 rfl rfl))) rfl (by decide) rfl (Nat.le_of_ble_eq_true rfl) (by decide) (fun r u hu => ?_)
  refine z_eqs (σ' := (ap b (wx_Z σ z) [(405, 0, 1)] [] [])) (hu.2.trans ap_ap) ?_
  show zx p l e _ s m _ below meth c g 8 _ _ _ _ 471 [(5, .int 1), (4, .int 0), (3, .ref (b + 431)), (2, .ref (b + 405)), (1, .ref (b + 0)), (0, .ref bS)] _
  refine z_seti (y := 0) hu.1 ?_
  refine z_istore (lv' := [(6, .int 0), (5, .int 1), (4, .int 0), (3, .ref (b + 431)), (2, .ref (b + 405)), (1, .ref (b + 0)), (0, .ref bS)]) B dL_law_471 (by decide) rfl ?_
  refine z_aload_n B dL_law_473 rfl 4 rfl ?_
  refine z_cVi (As := []) (rest := []) B cw_L_80 cx_10 dL_law_474 (ci_X9_thrown_31 l (σ := (ap b (wx_Z σ z) [(405, 0, 1)] [] [])) (b := b) (lyA (lyZ hK)) (rI_at 405 0 rfl)) (lKA (lKZ (hk_K hK 405 rfl rfl))) rfl (by decide) rfl (Nat.le_of_ble_eq_true rfl) (by decide) (fun r u hu => ?_)
  refine z_eqs (σ' := (ap b (wx_Z σ z) [(405, 0, 1)] [] [])) hu.2 ?_
  show zx p l e _ s m _ below meth c g 8 _ _ _ _ 477 [(6, .int 0), (5, .int 1), (4, .int 0), (3, .ref (b + 431)), (2, .ref (b + 405)), (1, .ref (b + 0)), (0, .ref bS)] _
  refine z_seti (y := 1) hu.1 ?_
  refine z_iload B dL_law_477 1 rfl ?_
  refine z_icmp_eq (tgt := 484) B dL_law_479 (by decide) (fun _ => ?_) (fun h => absurd (by decide) h)
  refine z_iload B dL_law_484 1 rfl ?_
  refine z_if_ne (tgt := 508) B dL_law_486 (by decide) (fun _ => ?_) (fun h => absurd h (by decide))
  refine z_goto (tgt := 1395) B dL_law_508 (by decide) ?_
  exact z_widen (Nat.le_of_ble_eq_true rfl) (Nat.le_of_ble_eq_true rfl) (z_sub _ [2, 6] rfl (kk _))
set_option maxRecDepth 100000 in
set_option maxHeartbeats 4000000 in
theorem lf_3_314 {p : Program} {l : Launch} {e : Env} {s : State} {m : MethodId} {args : Array Value} {below : List Frame} {meth : Method} {c : Code} {g : gx_T} {Q : State → Prop} {σ : sx_T} {b t bS : Nat} {xs : Nat → Int32} (hlt : l.stackTraces = false) (B : zx_B p s m args meth c code RL 8 g) (hX : va_X bS 6 xs s s.heap) (hbl : bS < s.heap.size) (hbA : ¬ gx_b g ≤ bS) (hF : fz_P b t σ) {x1 : Int32} (h_x1 : xs 1 = x1) (q1_x1 : (-2147483648 : Int) ≤ x1.toInt) (q2_x1 : x1.toInt ≤ (-1 : Int)) {x2 : Int32} (h_x2 : xs 2 = x2) (q1_x2 : (100 : Int) ≤ x2.toInt) (q2_x2 : x2.toInt ≤ (2147483647 : Int)) {x3 : Int32} (h_x3 : xs 3 = x3) (q1_x3 : (-2147483648 : Int) ≤ x3.toInt) (q2_x3 : x3.toInt ≤ (2147483647 : Int)) (kk : ∀ σ', zx p l e room_1 s m args below meth c g 8 600002 7302232 Q σ' 1395 [(4, .int 0), (0, .ref bS)] []) : zx p l e room_1 s m args below meth c g 8 500 100000 Q σ 424 [(4, .int 0), (3, .ref (b + 431)), (2, .ref (b + 405)), (1, .ref (b + 0)), (0, .ref bS)] [] := by
  have hK := fz_lay hF
  refine z_eqs (σ' := (ap b σ [] [] [])) rfl ?_
  refine z_aload_n B dL_law_424 rfl 3 rfl ?_
  refine z_aload_n B dL_law_425 rfl 4 rfl ?_
  refine z_iload B dL_law_426 0 rfl ?_
  refine z_iconst (v := 1) B dL_law_428 (by decide) ?_
  refine z_iadd B dL_law_429 ?_
  refine z_seti (y := 1) (by decide) ?_
  refine z_sld (j := 1) (x := x1) B hX hbl hbA (by decide) (show ¬ ((1 : Int32) < 0 ∨ 6 ≤ (1 : Int32).toNatClampNeg) by decide) h_x1 dL_law_430 ?_
  refine z_aload_n B dL_law_431 rfl 4 rfl ?_
  refine z_iload B dL_law_432 0 rfl ?_
  refine z_iconst (v := 2) B dL_law_434 (by decide) ?_
  refine z_iadd B dL_law_435 ?_
  refine z_seti (y := 2) (by decide) ?_
  refine z_sld (j := 2) (x := x2) B hX hbl hbA (by decide) (show ¬ ((2 : Int32) < 0 ∨ 6 ≤ (2 : Int32).toNatClampNeg) by decide) h_x2 dL_law_436 ?_
  refine z_aload_n B dL_law_437 rfl 4 rfl ?_
  refine z_iload B dL_law_438 0 rfl ?_
  refine z_iconst (v := 3) B dL_law_440 (by decide) ?_
  refine z_iadd B dL_law_441 ?_
  refine z_seti (y := 3) (by decide) ?_
  refine z_sld (j := 3) (x := x3) B hX hbl hbA (by decide) (show ¬ ((3 : Int32) < 0 ∨ 6 ≤ (3 : Int32).toNatClampNeg) by decide) h_x3 dL_law_442 ?_
  refine z_aload_n B dL_law_443 rfl 1 rfl ?_
  refine z_cSWi (As := [.ref (b + 0), .int x1, .int x2, .int x3, .ref (b + 431)]) (rest := []) B cw_L_91 dL_law_444 (ci_L_signal_863 l hlt (σ := (ap b σ [] [] [])) (b := b) (lyA hK) x1 x2 x3 q1_x1 q2_x1) rfl (by decide) rfl (Nat.le_of_ble_eq_true rfl) (by decide) (fun r u hu => ?_)
  obtain ⟨hu1, z, hu⟩ := hu
  refine z_eqs (σ' := (ap b (wx_Z σ z) [] [] [])) (hu.trans az_ap) ?_
  show zx p l e _ s m _ below meth c g 8 _ _ _ _ 447 [(4, .int 0), (3, .ref (b + 431)), (2, .ref (b + 405)), (1, .ref (b + 0)), (0, .ref bS)] _
  refine z_seti (y := 1) hu1 ?_
  refine z_istore (lv' := [(5, .int 1), (4, .int 0), (3, .ref (b + 431)), (2, .ref (b + 405)), (1, .ref (b + 0)), (0, .ref bS)]) B dL_law_447 (by decide) rfl ?_
  refine z_aload_n B dL_law_449 rfl 3 rfl ?_
  refine z_aload_n B dL_law_450 rfl 5 rfl ?_
  refine z_iload B dL_law_451 1 rfl ?_
  refine z_iconst (v := 1) B dL_law_453 (by decide) ?_
  refine z_iadd B dL_law_454 ?_
  refine z_seti (y := 1) (by decide) ?_
  refine z_sld (j := 1) (x := x1) B hX hbl hbA (by decide) (show ¬ ((1 : Int32) < 0 ∨ 6 ≤ (1 : Int32).toNatClampNeg) by decide) h_x1 dL_law_455 ?_
  refine z_aload_n B dL_law_456 rfl 5 rfl ?_
  refine z_iload B dL_law_457 1 rfl ?_
  refine z_iconst (v := 2) B dL_law_459 (by decide) ?_
  refine z_iadd B dL_law_460 ?_
  refine z_seti (y := 2) (by decide) ?_
  refine z_sld (j := 2) (x := x2) B hX hbl hbA (by decide) (show ¬ ((2 : Int32) < 0 ∨ 6 ≤ (2 : Int32).toNatClampNeg) by decide) h_x2 dL_law_461 ?_
  refine z_aload_n B dL_law_462 rfl 5 rfl ?_
  refine z_iload B dL_law_463 1 rfl ?_
  refine z_iconst (v := 3) B dL_law_465 (by decide) ?_
  refine z_iadd B dL_law_466 ?_
  refine z_seti (y := 3) (by decide) ?_
  refine z_sld (j := 3) (x := x3) B hX hbl hbA (by decide) (show ¬ ((3 : Int32) < 0 ∨ 6 ≤ (3 : Int32).toNatClampNeg) by decide) h_x3 dL_law_467 ?_
  refine z_cVi (As := [.int x1, .int x2, .int x3]) (rest := []) B cw_L_94 cx_10 dL_law_468 (ci_X9_signal_870 l (σ := (ap b (wx_Z σ z) [] [] [])) (b := b) (lyA (lyZ hK)) x1 x2 x3 q1_x1 q2_x1 q1_x2 q2_x2 (rI_at 405 6 (lIZ (fz_I hF 405 6 rfl rfl)))) (lKA (lKZ (hk_K hK 405 rfl rfl))) rfl (by decide) rfl (Nat.le_of_ble_eq_true rfl) (by decide) (fun r u hu => ?_)
  refine z_eqs (σ' := (ap b (wx_Z σ z) [(405, 0, 1)] [] [])) (hu.2.trans ap_ap) ?_
  show zx p l e _ s m _ below meth c g 8 _ _ _ _ 471 [(5, .int 1), (4, .int 0), (3, .ref (b + 431)), (2, .ref (b + 405)), (1, .ref (b + 0)), (0, .ref bS)] _
  refine z_seti (y := 0) hu.1 ?_
  refine z_istore (lv' := [(6, .int 0), (5, .int 1), (4, .int 0), (3, .ref (b + 431)), (2, .ref (b + 405)), (1, .ref (b + 0)), (0, .ref bS)]) B dL_law_471 (by decide) rfl ?_
  refine z_aload_n B dL_law_473 rfl 4 rfl ?_
  refine z_cVi (As := []) (rest := []) B cw_L_80 cx_10 dL_law_474 (ci_X9_thrown_31 l (σ := (ap b (wx_Z σ z) [(405, 0, 1)] [] [])) (b := b) (lyA (lyZ hK)) (rI_at 405 0 rfl)) (lKA (lKZ (hk_K hK 405 rfl rfl))) rfl (by decide) rfl (Nat.le_of_ble_eq_true rfl) (by decide) (fun r u hu => ?_)
  refine z_eqs (σ' := (ap b (wx_Z σ z) [(405, 0, 1)] [] [])) hu.2 ?_
  show zx p l e _ s m _ below meth c g 8 _ _ _ _ 477 [(6, .int 0), (5, .int 1), (4, .int 0), (3, .ref (b + 431)), (2, .ref (b + 405)), (1, .ref (b + 0)), (0, .ref bS)] _
  refine z_seti (y := 1) hu.1 ?_
  refine z_iload B dL_law_477 1 rfl ?_
  refine z_icmp_eq (tgt := 484) B dL_law_479 (by decide) (fun _ => ?_) (fun h => absurd (by decide) h)
  refine z_iload B dL_law_484 1 rfl ?_
  refine z_if_ne (tgt := 508) B dL_law_486 (by decide) (fun _ => ?_) (fun h => absurd h (by decide))
  refine z_goto (tgt := 1395) B dL_law_508 (by decide) ?_
  exact z_widen (Nat.le_of_ble_eq_true rfl) (Nat.le_of_ble_eq_true rfl) (z_sub _ [2, 6] rfl (kk _))
set_option maxRecDepth 100000 in
set_option maxHeartbeats 4000000 in
theorem lf_3_315 {p : Program} {l : Launch} {e : Env} {s : State} {m : MethodId} {args : Array Value} {below : List Frame} {meth : Method} {c : Code} {g : gx_T} {Q : State → Prop} {σ : sx_T} {b t bS : Nat} {xs : Nat → Int32} (hlt : l.stackTraces = false) (B : zx_B p s m args meth c code RL 8 g) (hX : va_X bS 6 xs s s.heap) (hbl : bS < s.heap.size) (hbA : ¬ gx_b g ≤ bS) (hF : fz_P b t σ) {x1 : Int32} (h_x1 : xs 1 = x1) (q1_x1 : (0 : Int) ≤ x1.toInt) (q2_x1 : x1.toInt ≤ (2147483647 : Int)) {x2 : Int32} (h_x2 : xs 2 = x2) (q1_x2 : (-2147483648 : Int) ≤ x2.toInt) (q2_x2 : x2.toInt ≤ (-1 : Int)) {x3 : Int32} (h_x3 : xs 3 = x3) (q1_x3 : (-2147483648 : Int) ≤ x3.toInt) (q2_x3 : x3.toInt ≤ (2147483647 : Int)) (kk : ∀ σ', zx p l e room_1 s m args below meth c g 8 600002 7302232 Q σ' 1395 [(4, .int 0), (0, .ref bS)] []) : zx p l e room_1 s m args below meth c g 8 500 100000 Q σ 424 [(4, .int 0), (3, .ref (b + 431)), (2, .ref (b + 405)), (1, .ref (b + 0)), (0, .ref bS)] [] := by
  have hK := fz_lay hF
  refine z_eqs (σ' := (ap b σ [] [] [])) rfl ?_
  refine z_aload_n B dL_law_424 rfl 3 rfl ?_
  refine z_aload_n B dL_law_425 rfl 4 rfl ?_
  refine z_iload B dL_law_426 0 rfl ?_
  refine z_iconst (v := 1) B dL_law_428 (by decide) ?_
  refine z_iadd B dL_law_429 ?_
  refine z_seti (y := 1) (by decide) ?_
  refine z_sld (j := 1) (x := x1) B hX hbl hbA (by decide) (show ¬ ((1 : Int32) < 0 ∨ 6 ≤ (1 : Int32).toNatClampNeg) by decide) h_x1 dL_law_430 ?_
  refine z_aload_n B dL_law_431 rfl 4 rfl ?_
  refine z_iload B dL_law_432 0 rfl ?_
  refine z_iconst (v := 2) B dL_law_434 (by decide) ?_
  refine z_iadd B dL_law_435 ?_
  refine z_seti (y := 2) (by decide) ?_
  refine z_sld (j := 2) (x := x2) B hX hbl hbA (by decide) (show ¬ ((2 : Int32) < 0 ∨ 6 ≤ (2 : Int32).toNatClampNeg) by decide) h_x2 dL_law_436 ?_
  refine z_aload_n B dL_law_437 rfl 4 rfl ?_
  refine z_iload B dL_law_438 0 rfl ?_
  refine z_iconst (v := 3) B dL_law_440 (by decide) ?_
  refine z_iadd B dL_law_441 ?_
  refine z_seti (y := 3) (by decide) ?_
  refine z_sld (j := 3) (x := x3) B hX hbl hbA (by decide) (show ¬ ((3 : Int32) < 0 ∨ 6 ≤ (3 : Int32).toNatClampNeg) by decide) h_x3 dL_law_442 ?_
  refine z_aload_n B dL_law_443 rfl 1 rfl ?_
  refine z_cSWi (As := [.ref (b + 0), .int x1, .int x2, .int x3, .ref (b + 431)]) (rest := []) B cw_L_91 dL_law_444 (ci_L_signal_873 l hlt (σ := (ap b σ [] [] [])) (b := b) (lyA hK) x1 x2 x3 q1_x1 q2_x1 (rI_at 0 7 (fz_I hF 0 7 rfl rfl))) rfl (by decide) rfl (Nat.le_of_ble_eq_true rfl) (by decide) (fun r u hu => ?_)
  obtain ⟨hu1, z, hu⟩ := hu
  refine z_eqs (σ' := (ap b (wx_Z σ z) [] [] [])) (hu.trans az_ap) ?_
  show zx p l e _ s m _ below meth c g 8 _ _ _ _ 447 [(4, .int 0), (3, .ref (b + 431)), (2, .ref (b + 405)), (1, .ref (b + 0)), (0, .ref bS)] _
  refine z_seti (y := 1) hu1 ?_
  refine z_istore (lv' := [(5, .int 1), (4, .int 0), (3, .ref (b + 431)), (2, .ref (b + 405)), (1, .ref (b + 0)), (0, .ref bS)]) B dL_law_447 (by decide) rfl ?_
  refine z_aload_n B dL_law_449 rfl 3 rfl ?_
  refine z_aload_n B dL_law_450 rfl 5 rfl ?_
  refine z_iload B dL_law_451 1 rfl ?_
  refine z_iconst (v := 1) B dL_law_453 (by decide) ?_
  refine z_iadd B dL_law_454 ?_
  refine z_seti (y := 1) (by decide) ?_
  refine z_sld (j := 1) (x := x1) B hX hbl hbA (by decide) (show ¬ ((1 : Int32) < 0 ∨ 6 ≤ (1 : Int32).toNatClampNeg) by decide) h_x1 dL_law_455 ?_
  refine z_aload_n B dL_law_456 rfl 5 rfl ?_
  refine z_iload B dL_law_457 1 rfl ?_
  refine z_iconst (v := 2) B dL_law_459 (by decide) ?_
  refine z_iadd B dL_law_460 ?_
  refine z_seti (y := 2) (by decide) ?_
  refine z_sld (j := 2) (x := x2) B hX hbl hbA (by decide) (show ¬ ((2 : Int32) < 0 ∨ 6 ≤ (2 : Int32).toNatClampNeg) by decide) h_x2 dL_law_461 ?_
  refine z_aload_n B dL_law_462 rfl 5 rfl ?_
  refine z_iload B dL_law_463 1 rfl ?_
  refine z_iconst (v := 3) B dL_law_465 (by decide) ?_
  refine z_iadd B dL_law_466 ?_
  refine z_seti (y := 3) (by decide) ?_
  refine z_sld (j := 3) (x := x3) B hX hbl hbA (by decide) (show ¬ ((3 : Int32) < 0 ∨ 6 ≤ (3 : Int32).toNatClampNeg) by decide) h_x3 dL_law_467 ?_
  refine z_cVi (As := [.int x1, .int x2, .int x3]) (rest := []) B cw_L_94 cx_10 dL_law_468 (ci_X9_signal_876 l (σ := (ap b (wx_Z σ z) [] [] [])) (b := b) (lyA (lyZ hK)) x1 x2 x3 q1_x1 q2_x1 q1_x2 q2_x2 (rI_at 405 6 (lIZ (fz_I hF 405 6 rfl rfl)))) (lKA (lKZ (hk_K hK 405 rfl rfl))) rfl (by decide) rfl (Nat.le_of_ble_eq_true rfl) (by decide) (fun r u hu => ?_)
  refine z_eqs (σ' := (ap b (wx_Z σ z) [(405, 0, 1)] [] [])) (hu.2.trans ap_ap) ?_
  show zx p l e _ s m _ below meth c g 8 _ _ _ _ 471 [(5, .int 1), (4, .int 0), (3, .ref (b + 431)), (2, .ref (b + 405)), (1, .ref (b + 0)), (0, .ref bS)] _
  refine z_seti (y := 0) hu.1 ?_
  refine z_istore (lv' := [(6, .int 0), (5, .int 1), (4, .int 0), (3, .ref (b + 431)), (2, .ref (b + 405)), (1, .ref (b + 0)), (0, .ref bS)]) B dL_law_471 (by decide) rfl ?_
  refine z_aload_n B dL_law_473 rfl 4 rfl ?_
  refine z_cVi (As := []) (rest := []) B cw_L_80 cx_10 dL_law_474 (ci_X9_thrown_31 l (σ := (ap b (wx_Z σ z) [(405, 0, 1)] [] [])) (b := b) (lyA (lyZ hK)) (rI_at 405 0 rfl)) (lKA (lKZ (hk_K hK 405 rfl rfl))) rfl (by decide) rfl (Nat.le_of_ble_eq_true rfl) (by decide) (fun r u hu => ?_)
  refine z_eqs (σ' := (ap b (wx_Z σ z) [(405, 0, 1)] [] [])) hu.2 ?_
  show zx p l e _ s m _ below meth c g 8 _ _ _ _ 477 [(6, .int 0), (5, .int 1), (4, .int 0), (3, .ref (b + 431)), (2, .ref (b + 405)), (1, .ref (b + 0)), (0, .ref bS)] _
  refine z_seti (y := 1) hu.1 ?_
  refine z_iload B dL_law_477 1 rfl ?_
  refine z_icmp_eq (tgt := 484) B dL_law_479 (by decide) (fun _ => ?_) (fun h => absurd (by decide) h)
  refine z_iload B dL_law_484 1 rfl ?_
  refine z_if_ne (tgt := 508) B dL_law_486 (by decide) (fun _ => ?_) (fun h => absurd h (by decide))
  refine z_goto (tgt := 1395) B dL_law_508 (by decide) ?_
  exact z_widen (Nat.le_of_ble_eq_true rfl) (Nat.le_of_ble_eq_true rfl) (z_sub _ [2, 6] rfl (kk _))
set_option maxRecDepth 100000 in
set_option maxHeartbeats 4000000 in
theorem lf_3_316 {p : Program} {l : Launch} {e : Env} {s : State} {m : MethodId} {args : Array Value} {below : List Frame} {meth : Method} {c : Code} {g : gx_T} {Q : State → Prop} {σ : sx_T} {b t bS : Nat} {xs : Nat → Int32} (hlt : l.stackTraces = false) (B : zx_B p s m args meth c code RL 8 g) (hX : va_X bS 6 xs s s.heap) (hbl : bS < s.heap.size) (hbA : ¬ gx_b g ≤ bS) (hF : fz_P b t σ) {x1 : Int32} (h_x1 : xs 1 = x1) (q1_x1 : (0 : Int) ≤ x1.toInt) (q2_x1 : x1.toInt ≤ (2147483647 : Int)) {x2 : Int32} (h_x2 : xs 2 = x2) (q1_x2 : (0 : Int) ≤ x2.toInt) (q2_x2 : x2.toInt ≤ (99 : Int)) {x3 : Int32} (h_x3 : xs 3 = x3) (q1_x3 : (-2147483648 : Int) ≤ x3.toInt) (q2_x3 : x3.toInt ≤ (-1 : Int)) (kk : ∀ σ', zx p l e room_1 s m args below meth c g 8 600002 7302232 Q σ' 1395 [(4, .int 0), (0, .ref bS)] []) : zx p l e room_1 s m args below meth c g 8 500 100000 Q σ 424 [(4, .int 0), (3, .ref (b + 431)), (2, .ref (b + 405)), (1, .ref (b + 0)), (0, .ref bS)] [] := by
  have hK := fz_lay hF
  refine z_eqs (σ' := (ap b σ [] [] [])) rfl ?_
  refine z_aload_n B dL_law_424 rfl 3 rfl ?_
  refine z_aload_n B dL_law_425 rfl 4 rfl ?_
  refine z_iload B dL_law_426 0 rfl ?_
  refine z_iconst (v := 1) B dL_law_428 (by decide) ?_
  refine z_iadd B dL_law_429 ?_
  refine z_seti (y := 1) (by decide) ?_
  refine z_sld (j := 1) (x := x1) B hX hbl hbA (by decide) (show ¬ ((1 : Int32) < 0 ∨ 6 ≤ (1 : Int32).toNatClampNeg) by decide) h_x1 dL_law_430 ?_
  refine z_aload_n B dL_law_431 rfl 4 rfl ?_
  refine z_iload B dL_law_432 0 rfl ?_
  refine z_iconst (v := 2) B dL_law_434 (by decide) ?_
  refine z_iadd B dL_law_435 ?_
  refine z_seti (y := 2) (by decide) ?_
  refine z_sld (j := 2) (x := x2) B hX hbl hbA (by decide) (show ¬ ((2 : Int32) < 0 ∨ 6 ≤ (2 : Int32).toNatClampNeg) by decide) h_x2 dL_law_436 ?_
  refine z_aload_n B dL_law_437 rfl 4 rfl ?_
  refine z_iload B dL_law_438 0 rfl ?_
  refine z_iconst (v := 3) B dL_law_440 (by decide) ?_
  refine z_iadd B dL_law_441 ?_
  refine z_seti (y := 3) (by decide) ?_
  refine z_sld (j := 3) (x := x3) B hX hbl hbA (by decide) (show ¬ ((3 : Int32) < 0 ∨ 6 ≤ (3 : Int32).toNatClampNeg) by decide) h_x3 dL_law_442 ?_
  refine z_aload_n B dL_law_443 rfl 1 rfl ?_
  refine z_cSWi (As := [.ref (b + 0), .int x1, .int x2, .int x3, .ref (b + 431)]) (rest := []) B cw_L_91 dL_law_444 (ci_L_signal_873 l hlt (σ := (ap b σ [] [] [])) (b := b) (lyA hK) x1 x2 x3 q1_x1 q2_x1 (rI_at 0 7 (fz_I hF 0 7 rfl rfl))) rfl (by decide) rfl (Nat.le_of_ble_eq_true rfl) (by decide) (fun r u hu => ?_)
  obtain ⟨hu1, z, hu⟩ := hu
  refine z_eqs (σ' := (ap b (wx_Z σ z) [] [] [])) (hu.trans az_ap) ?_
  show zx p l e _ s m _ below meth c g 8 _ _ _ _ 447 [(4, .int 0), (3, .ref (b + 431)), (2, .ref (b + 405)), (1, .ref (b + 0)), (0, .ref bS)] _
  refine z_seti (y := 1) hu1 ?_
  refine z_istore (lv' := [(5, .int 1), (4, .int 0), (3, .ref (b + 431)), (2, .ref (b + 405)), (1, .ref (b + 0)), (0, .ref bS)]) B dL_law_447 (by decide) rfl ?_
  refine z_aload_n B dL_law_449 rfl 3 rfl ?_
  refine z_aload_n B dL_law_450 rfl 5 rfl ?_
  refine z_iload B dL_law_451 1 rfl ?_
  refine z_iconst (v := 1) B dL_law_453 (by decide) ?_
  refine z_iadd B dL_law_454 ?_
  refine z_seti (y := 1) (by decide) ?_
  refine z_sld (j := 1) (x := x1) B hX hbl hbA (by decide) (show ¬ ((1 : Int32) < 0 ∨ 6 ≤ (1 : Int32).toNatClampNeg) by decide) h_x1 dL_law_455 ?_
  refine z_aload_n B dL_law_456 rfl 5 rfl ?_
  refine z_iload B dL_law_457 1 rfl ?_
  refine z_iconst (v := 2) B dL_law_459 (by decide) ?_
  refine z_iadd B dL_law_460 ?_
  refine z_seti (y := 2) (by decide) ?_
  refine z_sld (j := 2) (x := x2) B hX hbl hbA (by decide) (show ¬ ((2 : Int32) < 0 ∨ 6 ≤ (2 : Int32).toNatClampNeg) by decide) h_x2 dL_law_461 ?_
  refine z_aload_n B dL_law_462 rfl 5 rfl ?_
  refine z_iload B dL_law_463 1 rfl ?_
  refine z_iconst (v := 3) B dL_law_465 (by decide) ?_
  refine z_iadd B dL_law_466 ?_
  refine z_seti (y := 3) (by decide) ?_
  refine z_sld (j := 3) (x := x3) B hX hbl hbA (by decide) (show ¬ ((3 : Int32) < 0 ∨ 6 ≤ (3 : Int32).toNatClampNeg) by decide) h_x3 dL_law_467 ?_
  refine z_cVi (As := [.int x1, .int x2, .int x3]) (rest := []) B cw_L_94 cx_10 dL_law_468 (ci_X9_signal_877 l (σ := (ap b (wx_Z σ z) [] [] [])) (b := b) (lyA (lyZ hK)) x1 x2 x3 q1_x1 q2_x1 q1_x2 q2_x2 q1_x3 q2_x3 (rI_at 405 6 (lIZ (fz_I hF 405 6 rfl rfl)))) (lKA (lKZ (hk_K hK 405 rfl rfl))) rfl (by decide) rfl (Nat.le_of_ble_eq_true rfl) (by decide) (fun r u hu => ?_)
  refine z_eqs (σ' := (ap b (wx_Z σ z) [(405, 0, 1)] [] [])) (hu.2.trans ap_ap) ?_
  show zx p l e _ s m _ below meth c g 8 _ _ _ _ 471 [(5, .int 1), (4, .int 0), (3, .ref (b + 431)), (2, .ref (b + 405)), (1, .ref (b + 0)), (0, .ref bS)] _
  refine z_seti (y := 0) hu.1 ?_
  refine z_istore (lv' := [(6, .int 0), (5, .int 1), (4, .int 0), (3, .ref (b + 431)), (2, .ref (b + 405)), (1, .ref (b + 0)), (0, .ref bS)]) B dL_law_471 (by decide) rfl ?_
  refine z_aload_n B dL_law_473 rfl 4 rfl ?_
  refine z_cVi (As := []) (rest := []) B cw_L_80 cx_10 dL_law_474 (ci_X9_thrown_31 l (σ := (ap b (wx_Z σ z) [(405, 0, 1)] [] [])) (b := b) (lyA (lyZ hK)) (rI_at 405 0 rfl)) (lKA (lKZ (hk_K hK 405 rfl rfl))) rfl (by decide) rfl (Nat.le_of_ble_eq_true rfl) (by decide) (fun r u hu => ?_)
  refine z_eqs (σ' := (ap b (wx_Z σ z) [(405, 0, 1)] [] [])) hu.2 ?_
  show zx p l e _ s m _ below meth c g 8 _ _ _ _ 477 [(6, .int 0), (5, .int 1), (4, .int 0), (3, .ref (b + 431)), (2, .ref (b + 405)), (1, .ref (b + 0)), (0, .ref bS)] _
  refine z_seti (y := 1) hu.1 ?_
  refine z_iload B dL_law_477 1 rfl ?_
  refine z_icmp_eq (tgt := 484) B dL_law_479 (by decide) (fun _ => ?_) (fun h => absurd (by decide) h)
  refine z_iload B dL_law_484 1 rfl ?_
  refine z_if_ne (tgt := 508) B dL_law_486 (by decide) (fun _ => ?_) (fun h => absurd h (by decide))
  refine z_goto (tgt := 1395) B dL_law_508 (by decide) ?_
  exact z_widen (Nat.le_of_ble_eq_true rfl) (Nat.le_of_ble_eq_true rfl) (z_sub _ [2, 6] rfl (kk _))
set_option maxRecDepth 100000 in
set_option maxHeartbeats 4000000 in
theorem lf_3_317 {p : Program} {l : Launch} {e : Env} {s : State} {m : MethodId} {args : Array Value} {below : List Frame} {meth : Method} {c : Code} {g : gx_T} {Q : State → Prop} {σ : sx_T} {b t bS : Nat} {xs : Nat → Int32} (hlt : l.stackTraces = false) (B : zx_B p s m args meth c code RL 8 g) (hX : va_X bS 6 xs s s.heap) (hbl : bS < s.heap.size) (hbA : ¬ gx_b g ≤ bS) (hF : fz_P b t σ) {x1 : Int32} (h_x1 : xs 1 = x1) (q1_x1 : (0 : Int) ≤ x1.toInt) (q2_x1 : x1.toInt ≤ (2147483647 : Int)) {x2 : Int32} (h_x2 : xs 2 = x2) (q1_x2 : (0 : Int) ≤ x2.toInt) (q2_x2 : x2.toInt ≤ (99 : Int)) {x3 : Int32} (h_x3 : xs 3 = x3) (q1_x3 : (0 : Int) ≤ x3.toInt) (q2_x3 : x3.toInt ≤ (99 : Int)) (kk : ∀ σ', zx p l e room_1 s m args below meth c g 8 600002 7302232 Q σ' 1395 [(4, .int 0), (0, .ref bS)] []) : zx p l e room_1 s m args below meth c g 8 500 100000 Q σ 424 [(4, .int 0), (3, .ref (b + 431)), (2, .ref (b + 405)), (1, .ref (b + 0)), (0, .ref bS)] [] := by
  have hK := fz_lay hF
  refine z_eqs (σ' := (ap b σ [] [] [])) rfl ?_
  refine z_aload_n B dL_law_424 rfl 3 rfl ?_
  refine z_aload_n B dL_law_425 rfl 4 rfl ?_
  refine z_iload B dL_law_426 0 rfl ?_
  refine z_iconst (v := 1) B dL_law_428 (by decide) ?_
  refine z_iadd B dL_law_429 ?_
  refine z_seti (y := 1) (by decide) ?_
  refine z_sld (j := 1) (x := x1) B hX hbl hbA (by decide) (show ¬ ((1 : Int32) < 0 ∨ 6 ≤ (1 : Int32).toNatClampNeg) by decide) h_x1 dL_law_430 ?_
  refine z_aload_n B dL_law_431 rfl 4 rfl ?_
  refine z_iload B dL_law_432 0 rfl ?_
  refine z_iconst (v := 2) B dL_law_434 (by decide) ?_
  refine z_iadd B dL_law_435 ?_
  refine z_seti (y := 2) (by decide) ?_
  refine z_sld (j := 2) (x := x2) B hX hbl hbA (by decide) (show ¬ ((2 : Int32) < 0 ∨ 6 ≤ (2 : Int32).toNatClampNeg) by decide) h_x2 dL_law_436 ?_
  refine z_aload_n B dL_law_437 rfl 4 rfl ?_
  refine z_iload B dL_law_438 0 rfl ?_
  refine z_iconst (v := 3) B dL_law_440 (by decide) ?_
  refine z_iadd B dL_law_441 ?_
  refine z_seti (y := 3) (by decide) ?_
  refine z_sld (j := 3) (x := x3) B hX hbl hbA (by decide) (show ¬ ((3 : Int32) < 0 ∨ 6 ≤ (3 : Int32).toNatClampNeg) by decide) h_x3 dL_law_442 ?_
  refine z_aload_n B dL_law_443 rfl 1 rfl ?_
  refine z_cSWi (As := [.ref (b + 0), .int x1, .int x2, .int x3, .ref (b + 431)]) (rest := []) B cw_L_91 dL_law_444 (ci_L_signal_873 l hlt (σ := (ap b σ [] [] [])) (b := b) (lyA hK) x1 x2 x3 q1_x1 q2_x1 (rI_at 0 7 (fz_I hF 0 7 rfl rfl))) rfl (by decide) rfl (Nat.le_of_ble_eq_true rfl) (by decide) (fun r u hu => ?_)
  obtain ⟨hu1, z, hu⟩ := hu
  refine z_eqs (σ' := (ap b (wx_Z σ z) [] [] [])) (hu.trans az_ap) ?_
  show zx p l e _ s m _ below meth c g 8 _ _ _ _ 447 [(4, .int 0), (3, .ref (b + 431)), (2, .ref (b + 405)), (1, .ref (b + 0)), (0, .ref bS)] _
  refine z_seti (y := 1) hu1 ?_
  refine z_istore (lv' := [(5, .int 1), (4, .int 0), (3, .ref (b + 431)), (2, .ref (b + 405)), (1, .ref (b + 0)), (0, .ref bS)]) B dL_law_447 (by decide) rfl ?_
  refine z_aload_n B dL_law_449 rfl 3 rfl ?_
  refine z_aload_n B dL_law_450 rfl 5 rfl ?_
  refine z_iload B dL_law_451 1 rfl ?_
  refine z_iconst (v := 1) B dL_law_453 (by decide) ?_
  refine z_iadd B dL_law_454 ?_
  refine z_seti (y := 1) (by decide) ?_
  refine z_sld (j := 1) (x := x1) B hX hbl hbA (by decide) (show ¬ ((1 : Int32) < 0 ∨ 6 ≤ (1 : Int32).toNatClampNeg) by decide) h_x1 dL_law_455 ?_
  refine z_aload_n B dL_law_456 rfl 5 rfl ?_
  refine z_iload B dL_law_457 1 rfl ?_
  refine z_iconst (v := 2) B dL_law_459 (by decide) ?_
  refine z_iadd B dL_law_460 ?_
  refine z_seti (y := 2) (by decide) ?_
  refine z_sld (j := 2) (x := x2) B hX hbl hbA (by decide) (show ¬ ((2 : Int32) < 0 ∨ 6 ≤ (2 : Int32).toNatClampNeg) by decide) h_x2 dL_law_461 ?_
  refine z_aload_n B dL_law_462 rfl 5 rfl ?_
  refine z_iload B dL_law_463 1 rfl ?_
  refine z_iconst (v := 3) B dL_law_465 (by decide) ?_
  refine z_iadd B dL_law_466 ?_
  refine z_seti (y := 3) (by decide) ?_
  refine z_sld (j := 3) (x := x3) B hX hbl hbA (by decide) (show ¬ ((3 : Int32) < 0 ∨ 6 ≤ (3 : Int32).toNatClampNeg) by decide) h_x3 dL_law_467 ?_
  refine z_cVi (As := [.int x1, .int x2, .int x3]) (rest := []) B cw_L_94 cx_10 dL_law_468 (ci_X9_signal_878 l (σ := (ap b (wx_Z σ z) [] [] [])) (b := b) (lyA (lyZ hK)) x1 x2 x3 q1_x1 q2_x1 q1_x2 q2_x2 q1_x3 q2_x3 (rI_at 405 6 (lIZ (fz_I hF 405 6 rfl rfl)))) (lKA (lKZ (hk_K hK 405 rfl rfl))) rfl (by decide) rfl (Nat.le_of_ble_eq_true rfl) (by decide) (fun r u hu => ?_)
  refine z_eqs (σ' := (ap b (wx_Z σ z) [(405, 0, 1)] [] [])) (hu.2.trans ap_ap) ?_
  show zx p l e _ s m _ below meth c g 8 _ _ _ _ 471 [(5, .int 1), (4, .int 0), (3, .ref (b + 431)), (2, .ref (b + 405)), (1, .ref (b + 0)), (0, .ref bS)] _
  refine z_seti (y := 0) hu.1 ?_
  refine z_istore (lv' := [(6, .int 0), (5, .int 1), (4, .int 0), (3, .ref (b + 431)), (2, .ref (b + 405)), (1, .ref (b + 0)), (0, .ref bS)]) B dL_law_471 (by decide) rfl ?_
  refine z_aload_n B dL_law_473 rfl 4 rfl ?_
  refine z_cVi (As := []) (rest := []) B cw_L_80 cx_10 dL_law_474 (ci_X9_thrown_31 l (σ := (ap b (wx_Z σ z) [(405, 0, 1)] [] [])) (b := b) (lyA (lyZ hK)) (rI_at 405 0 rfl)) (lKA (lKZ (hk_K hK 405 rfl rfl))) rfl (by decide) rfl (Nat.le_of_ble_eq_true rfl) (by decide) (fun r u hu => ?_)
  refine z_eqs (σ' := (ap b (wx_Z σ z) [(405, 0, 1)] [] [])) hu.2 ?_
  show zx p l e _ s m _ below meth c g 8 _ _ _ _ 477 [(6, .int 0), (5, .int 1), (4, .int 0), (3, .ref (b + 431)), (2, .ref (b + 405)), (1, .ref (b + 0)), (0, .ref bS)] _
  refine z_seti (y := 1) hu.1 ?_
  refine z_iload B dL_law_477 1 rfl ?_
  refine z_icmp_eq (tgt := 484) B dL_law_479 (by decide) (fun _ => ?_) (fun h => absurd (by decide) h)
  refine z_iload B dL_law_484 1 rfl ?_
  refine z_if_ne (tgt := 508) B dL_law_486 (by decide) (fun _ => ?_) (fun h => absurd h (by decide))
  refine z_goto (tgt := 1395) B dL_law_508 (by decide) ?_
  exact z_widen (Nat.le_of_ble_eq_true rfl) (Nat.le_of_ble_eq_true rfl) (z_sub _ [2, 6] rfl (kk _))
set_option maxRecDepth 100000 in
set_option maxHeartbeats 4000000 in
theorem lf_3_318 {p : Program} {l : Launch} {e : Env} {s : State} {m : MethodId} {args : Array Value} {below : List Frame} {meth : Method} {c : Code} {g : gx_T} {Q : State → Prop} {σ : sx_T} {b t bS : Nat} {xs : Nat → Int32} (hlt : l.stackTraces = false) (B : zx_B p s m args meth c code RL 8 g) (hX : va_X bS 6 xs s s.heap) (hbl : bS < s.heap.size) (hbA : ¬ gx_b g ≤ bS) (hF : fz_P b t σ) {x1 : Int32} (h_x1 : xs 1 = x1) (q1_x1 : (0 : Int) ≤ x1.toInt) (q2_x1 : x1.toInt ≤ (2147483647 : Int)) {x2 : Int32} (h_x2 : xs 2 = x2) (q1_x2 : (0 : Int) ≤ x2.toInt) (q2_x2 : x2.toInt ≤ (99 : Int)) {x3 : Int32} (h_x3 : xs 3 = x3) (q1_x3 : (100 : Int) ≤ x3.toInt) (q2_x3 : x3.toInt ≤ (2147483647 : Int)) (kk : ∀ σ', zx p l e room_1 s m args below meth c g 8 600002 7302232 Q σ' 1395 [(4, .int 0), (0, .ref bS)] []) : zx p l e room_1 s m args below meth c g 8 500 100000 Q σ 424 [(4, .int 0), (3, .ref (b + 431)), (2, .ref (b + 405)), (1, .ref (b + 0)), (0, .ref bS)] [] := by
  have hK := fz_lay hF
  refine z_eqs (σ' := (ap b σ [] [] [])) rfl ?_
  refine z_aload_n B dL_law_424 rfl 3 rfl ?_
  refine z_aload_n B dL_law_425 rfl 4 rfl ?_
  refine z_iload B dL_law_426 0 rfl ?_
  refine z_iconst (v := 1) B dL_law_428 (by decide) ?_
  refine z_iadd B dL_law_429 ?_
  refine z_seti (y := 1) (by decide) ?_
  refine z_sld (j := 1) (x := x1) B hX hbl hbA (by decide) (show ¬ ((1 : Int32) < 0 ∨ 6 ≤ (1 : Int32).toNatClampNeg) by decide) h_x1 dL_law_430 ?_
  refine z_aload_n B dL_law_431 rfl 4 rfl ?_
  refine z_iload B dL_law_432 0 rfl ?_
  refine z_iconst (v := 2) B dL_law_434 (by decide) ?_
  refine z_iadd B dL_law_435 ?_
  refine z_seti (y := 2) (by decide) ?_
  refine z_sld (j := 2) (x := x2) B hX hbl hbA (by decide) (show ¬ ((2 : Int32) < 0 ∨ 6 ≤ (2 : Int32).toNatClampNeg) by decide) h_x2 dL_law_436 ?_
  refine z_aload_n B dL_law_437 rfl 4 rfl ?_
  refine z_iload B dL_law_438 0 rfl ?_
  refine z_iconst (v := 3) B dL_law_440 (by decide) ?_
  refine z_iadd B dL_law_441 ?_
  refine z_seti (y := 3) (by decide) ?_
  refine z_sld (j := 3) (x := x3) B hX hbl hbA (by decide) (show ¬ ((3 : Int32) < 0 ∨ 6 ≤ (3 : Int32).toNatClampNeg) by decide) h_x3 dL_law_442 ?_
  refine z_aload_n B dL_law_443 rfl 1 rfl ?_
  refine z_cSWi (As := [.ref (b + 0), .int x1, .int x2, .int x3, .ref (b + 431)]) (rest := []) B cw_L_91 dL_law_444 (ci_L_signal_873 l hlt (σ := (ap b σ [] [] [])) (b := b) (lyA hK) x1 x2 x3 q1_x1 q2_x1 (rI_at 0 7 (fz_I hF 0 7 rfl rfl))) rfl (by decide) rfl (Nat.le_of_ble_eq_true rfl) (by decide) (fun r u hu => ?_)
  obtain ⟨hu1, z, hu⟩ := hu
  refine z_eqs (σ' := (ap b (wx_Z σ z) [] [] [])) (hu.trans az_ap) ?_
  show zx p l e _ s m _ below meth c g 8 _ _ _ _ 447 [(4, .int 0), (3, .ref (b + 431)), (2, .ref (b + 405)), (1, .ref (b + 0)), (0, .ref bS)] _
  refine z_seti (y := 1) hu1 ?_
  refine z_istore (lv' := [(5, .int 1), (4, .int 0), (3, .ref (b + 431)), (2, .ref (b + 405)), (1, .ref (b + 0)), (0, .ref bS)]) B dL_law_447 (by decide) rfl ?_
  refine z_aload_n B dL_law_449 rfl 3 rfl ?_
  refine z_aload_n B dL_law_450 rfl 5 rfl ?_
  refine z_iload B dL_law_451 1 rfl ?_
  refine z_iconst (v := 1) B dL_law_453 (by decide) ?_
  refine z_iadd B dL_law_454 ?_
  refine z_seti (y := 1) (by decide) ?_
  refine z_sld (j := 1) (x := x1) B hX hbl hbA (by decide) (show ¬ ((1 : Int32) < 0 ∨ 6 ≤ (1 : Int32).toNatClampNeg) by decide) h_x1 dL_law_455 ?_
  refine z_aload_n B dL_law_456 rfl 5 rfl ?_
  refine z_iload B dL_law_457 1 rfl ?_
  refine z_iconst (v := 2) B dL_law_459 (by decide) ?_
  refine z_iadd B dL_law_460 ?_
  refine z_seti (y := 2) (by decide) ?_
  refine z_sld (j := 2) (x := x2) B hX hbl hbA (by decide) (show ¬ ((2 : Int32) < 0 ∨ 6 ≤ (2 : Int32).toNatClampNeg) by decide) h_x2 dL_law_461 ?_
  refine z_aload_n B dL_law_462 rfl 5 rfl ?_
  refine z_iload B dL_law_463 1 rfl ?_
  refine z_iconst (v := 3) B dL_law_465 (by decide) ?_
  refine z_iadd B dL_law_466 ?_
  refine z_seti (y := 3) (by decide) ?_
  refine z_sld (j := 3) (x := x3) B hX hbl hbA (by decide) (show ¬ ((3 : Int32) < 0 ∨ 6 ≤ (3 : Int32).toNatClampNeg) by decide) h_x3 dL_law_467 ?_
  refine z_cVi (As := [.int x1, .int x2, .int x3]) (rest := []) B cw_L_94 cx_10 dL_law_468 (ci_X9_signal_879 l (σ := (ap b (wx_Z σ z) [] [] [])) (b := b) (lyA (lyZ hK)) x1 x2 x3 q1_x1 q2_x1 q1_x2 q2_x2 q1_x3 q2_x3 (rI_at 405 6 (lIZ (fz_I hF 405 6 rfl rfl)))) (lKA (lKZ (hk_K hK 405 rfl rfl))) rfl (by decide) rfl (Nat.le_of_ble_eq_true rfl) (by decide) (fun r u hu => ?_)
  refine z_eqs (σ' := (ap b (wx_Z σ z) [(405, 0, 1)] [] [])) (hu.2.trans ap_ap) ?_
  show zx p l e _ s m _ below meth c g 8 _ _ _ _ 471 [(5, .int 1), (4, .int 0), (3, .ref (b + 431)), (2, .ref (b + 405)), (1, .ref (b + 0)), (0, .ref bS)] _
  refine z_seti (y := 0) hu.1 ?_
  refine z_istore (lv' := [(6, .int 0), (5, .int 1), (4, .int 0), (3, .ref (b + 431)), (2, .ref (b + 405)), (1, .ref (b + 0)), (0, .ref bS)]) B dL_law_471 (by decide) rfl ?_
  refine z_aload_n B dL_law_473 rfl 4 rfl ?_
  refine z_cVi (As := []) (rest := []) B cw_L_80 cx_10 dL_law_474 (ci_X9_thrown_31 l (σ := (ap b (wx_Z σ z) [(405, 0, 1)] [] [])) (b := b) (lyA (lyZ hK)) (rI_at 405 0 rfl)) (lKA (lKZ (hk_K hK 405 rfl rfl))) rfl (by decide) rfl (Nat.le_of_ble_eq_true rfl) (by decide) (fun r u hu => ?_)
  refine z_eqs (σ' := (ap b (wx_Z σ z) [(405, 0, 1)] [] [])) hu.2 ?_
  show zx p l e _ s m _ below meth c g 8 _ _ _ _ 477 [(6, .int 0), (5, .int 1), (4, .int 0), (3, .ref (b + 431)), (2, .ref (b + 405)), (1, .ref (b + 0)), (0, .ref bS)] _
  refine z_seti (y := 1) hu.1 ?_
  refine z_iload B dL_law_477 1 rfl ?_
  refine z_icmp_eq (tgt := 484) B dL_law_479 (by decide) (fun _ => ?_) (fun h => absurd (by decide) h)
  refine z_iload B dL_law_484 1 rfl ?_
  refine z_if_ne (tgt := 508) B dL_law_486 (by decide) (fun _ => ?_) (fun h => absurd h (by decide))
  refine z_goto (tgt := 1395) B dL_law_508 (by decide) ?_
  exact z_widen (Nat.le_of_ble_eq_true rfl) (Nat.le_of_ble_eq_true rfl) (z_sub _ [2, 6] rfl (kk _))
set_option maxRecDepth 100000 in
set_option maxHeartbeats 4000000 in
theorem lf_3_319 {p : Program} {l : Launch} {e : Env} {s : State} {m : MethodId} {args : Array Value} {below : List Frame} {meth : Method} {c : Code} {g : gx_T} {Q : State → Prop} {σ : sx_T} {b t bS : Nat} {xs : Nat → Int32} (hlt : l.stackTraces = false) (B : zx_B p s m args meth c code RL 8 g) (hX : va_X bS 6 xs s s.heap) (hbl : bS < s.heap.size) (hbA : ¬ gx_b g ≤ bS) (hF : fz_P b t σ) {x1 : Int32} (h_x1 : xs 1 = x1) (q1_x1 : (0 : Int) ≤ x1.toInt) (q2_x1 : x1.toInt ≤ (2147483647 : Int)) {x2 : Int32} (h_x2 : xs 2 = x2) (q1_x2 : (100 : Int) ≤ x2.toInt) (q2_x2 : x2.toInt ≤ (2147483647 : Int)) {x3 : Int32} (h_x3 : xs 3 = x3) (q1_x3 : (-2147483648 : Int) ≤ x3.toInt) (q2_x3 : x3.toInt ≤ (2147483647 : Int)) (kk : ∀ σ', zx p l e room_1 s m args below meth c g 8 600002 7302232 Q σ' 1395 [(4, .int 0), (0, .ref bS)] []) : zx p l e room_1 s m args below meth c g 8 500 100000 Q σ 424 [(4, .int 0), (3, .ref (b + 431)), (2, .ref (b + 405)), (1, .ref (b + 0)), (0, .ref bS)] [] := by
  have hK := fz_lay hF
  refine z_eqs (σ' := (ap b σ [] [] [])) rfl ?_
  refine z_aload_n B dL_law_424 rfl 3 rfl ?_
  refine z_aload_n B dL_law_425 rfl 4 rfl ?_
  refine z_iload B dL_law_426 0 rfl ?_
  refine z_iconst (v := 1) B dL_law_428 (by decide) ?_
  refine z_iadd B dL_law_429 ?_
  refine z_seti (y := 1) (by decide) ?_
  refine z_sld (j := 1) (x := x1) B hX hbl hbA (by decide) (show ¬ ((1 : Int32) < 0 ∨ 6 ≤ (1 : Int32).toNatClampNeg) by decide) h_x1 dL_law_430 ?_
  refine z_aload_n B dL_law_431 rfl 4 rfl ?_
  refine z_iload B dL_law_432 0 rfl ?_
  refine z_iconst (v := 2) B dL_law_434 (by decide) ?_
  refine z_iadd B dL_law_435 ?_
  refine z_seti (y := 2) (by decide) ?_
  refine z_sld (j := 2) (x := x2) B hX hbl hbA (by decide) (show ¬ ((2 : Int32) < 0 ∨ 6 ≤ (2 : Int32).toNatClampNeg) by decide) h_x2 dL_law_436 ?_
  refine z_aload_n B dL_law_437 rfl 4 rfl ?_
  refine z_iload B dL_law_438 0 rfl ?_
  refine z_iconst (v := 3) B dL_law_440 (by decide) ?_
  refine z_iadd B dL_law_441 ?_
  refine z_seti (y := 3) (by decide) ?_
  refine z_sld (j := 3) (x := x3) B hX hbl hbA (by decide) (show ¬ ((3 : Int32) < 0 ∨ 6 ≤ (3 : Int32).toNatClampNeg) by decide) h_x3 dL_law_442 ?_
  refine z_aload_n B dL_law_443 rfl 1 rfl ?_
  refine z_cSWi (As := [.ref (b + 0), .int x1, .int x2, .int x3, .ref (b + 431)]) (rest := []) B cw_L_91 dL_law_444 (ci_L_signal_873 l hlt (σ := (ap b σ [] [] [])) (b := b) (lyA hK) x1 x2 x3 q1_x1 q2_x1 (rI_at 0 7 (fz_I hF 0 7 rfl rfl))) rfl (by decide) rfl (Nat.le_of_ble_eq_true rfl) (by decide) (fun r u hu => ?_)
  obtain ⟨hu1, z, hu⟩ := hu
  refine z_eqs (σ' := (ap b (wx_Z σ z) [] [] [])) (hu.trans az_ap) ?_
  show zx p l e _ s m _ below meth c g 8 _ _ _ _ 447 [(4, .int 0), (3, .ref (b + 431)), (2, .ref (b + 405)), (1, .ref (b + 0)), (0, .ref bS)] _
  refine z_seti (y := 1) hu1 ?_
  refine z_istore (lv' := [(5, .int 1), (4, .int 0), (3, .ref (b + 431)), (2, .ref (b + 405)), (1, .ref (b + 0)), (0, .ref bS)]) B dL_law_447 (by decide) rfl ?_
  refine z_aload_n B dL_law_449 rfl 3 rfl ?_
  refine z_aload_n B dL_law_450 rfl 5 rfl ?_
  refine z_iload B dL_law_451 1 rfl ?_
  refine z_iconst (v := 1) B dL_law_453 (by decide) ?_
  refine z_iadd B dL_law_454 ?_
  refine z_seti (y := 1) (by decide) ?_
  refine z_sld (j := 1) (x := x1) B hX hbl hbA (by decide) (show ¬ ((1 : Int32) < 0 ∨ 6 ≤ (1 : Int32).toNatClampNeg) by decide) h_x1 dL_law_455 ?_
  refine z_aload_n B dL_law_456 rfl 5 rfl ?_
  refine z_iload B dL_law_457 1 rfl ?_
  refine z_iconst (v := 2) B dL_law_459 (by decide) ?_
  refine z_iadd B dL_law_460 ?_
  refine z_seti (y := 2) (by decide) ?_
  refine z_sld (j := 2) (x := x2) B hX hbl hbA (by decide) (show ¬ ((2 : Int32) < 0 ∨ 6 ≤ (2 : Int32).toNatClampNeg) by decide) h_x2 dL_law_461 ?_
  refine z_aload_n B dL_law_462 rfl 5 rfl ?_
  refine z_iload B dL_law_463 1 rfl ?_
  refine z_iconst (v := 3) B dL_law_465 (by decide) ?_
  refine z_iadd B dL_law_466 ?_
  refine z_seti (y := 3) (by decide) ?_
  refine z_sld (j := 3) (x := x3) B hX hbl hbA (by decide) (show ¬ ((3 : Int32) < 0 ∨ 6 ≤ (3 : Int32).toNatClampNeg) by decide) h_x3 dL_law_467 ?_
  refine z_cVi (As := [.int x1, .int x2, .int x3]) (rest := []) B cw_L_94 cx_10 dL_law_468 (ci_X9_signal_880 l (σ := (ap b (wx_Z σ z) [] [] [])) (b := b) (lyA (lyZ hK)) x1 x2 x3 q1_x1 q2_x1 q1_x2 q2_x2 (rI_at 405 6 (lIZ (fz_I hF 405 6 rfl rfl)))) (lKA (lKZ (hk_K hK 405 rfl rfl))) rfl (by decide) rfl (Nat.le_of_ble_eq_true rfl) (by decide) (fun r u hu => ?_)
  refine z_eqs (σ' := (ap b (wx_Z σ z) [(405, 0, 1)] [] [])) (hu.2.trans ap_ap) ?_
  show zx p l e _ s m _ below meth c g 8 _ _ _ _ 471 [(5, .int 1), (4, .int 0), (3, .ref (b + 431)), (2, .ref (b + 405)), (1, .ref (b + 0)), (0, .ref bS)] _
  refine z_seti (y := 0) hu.1 ?_
  refine z_istore (lv' := [(6, .int 0), (5, .int 1), (4, .int 0), (3, .ref (b + 431)), (2, .ref (b + 405)), (1, .ref (b + 0)), (0, .ref bS)]) B dL_law_471 (by decide) rfl ?_
  refine z_aload_n B dL_law_473 rfl 4 rfl ?_
  refine z_cVi (As := []) (rest := []) B cw_L_80 cx_10 dL_law_474 (ci_X9_thrown_31 l (σ := (ap b (wx_Z σ z) [(405, 0, 1)] [] [])) (b := b) (lyA (lyZ hK)) (rI_at 405 0 rfl)) (lKA (lKZ (hk_K hK 405 rfl rfl))) rfl (by decide) rfl (Nat.le_of_ble_eq_true rfl) (by decide) (fun r u hu => ?_)
  refine z_eqs (σ' := (ap b (wx_Z σ z) [(405, 0, 1)] [] [])) hu.2 ?_
  show zx p l e _ s m _ below meth c g 8 _ _ _ _ 477 [(6, .int 0), (5, .int 1), (4, .int 0), (3, .ref (b + 431)), (2, .ref (b + 405)), (1, .ref (b + 0)), (0, .ref bS)] _
  refine z_seti (y := 1) hu.1 ?_
  refine z_iload B dL_law_477 1 rfl ?_
  refine z_icmp_eq (tgt := 484) B dL_law_479 (by decide) (fun _ => ?_) (fun h => absurd (by decide) h)
  refine z_iload B dL_law_484 1 rfl ?_
  refine z_if_ne (tgt := 508) B dL_law_486 (by decide) (fun _ => ?_) (fun h => absurd h (by decide))
  refine z_goto (tgt := 1395) B dL_law_508 (by decide) ?_
  exact z_widen (Nat.le_of_ble_eq_true rfl) (Nat.le_of_ble_eq_true rfl) (z_sub _ [2, 6] rfl (kk _))
set_option maxRecDepth 100000 in
set_option maxHeartbeats 4000000 in
theorem lf_4_320 {p : Program} {l : Launch} {e : Env} {s : State} {m : MethodId} {args : Array Value} {below : List Frame} {meth : Method} {c : Code} {g : gx_T} {Q : State → Prop} {σ : sx_T} {b t bS : Nat} {xs : Nat → Int32} (hlt : l.stackTraces = false) (B : zx_B p s m args meth c code RL 8 g) (hX : va_X bS 6 xs s s.heap) (hbl : bS < s.heap.size) (hbA : ¬ gx_b g ≤ bS) (hF : fz_P b t σ) {x1 : Int32} (h_x1 : xs 1 = x1) (q1_x1 : (-2147483648 : Int) ≤ x1.toInt) (q2_x1 : x1.toInt ≤ (-1 : Int)) (kk : ∀ σ', zx p l e room_1 s m args below meth c g 8 600002 7302232 Q σ' 1395 [(4, .int 0), (0, .ref bS)] []) : zx p l e room_1 s m args below meth c g 8 500 100000 Q σ 511 [(4, .int 0), (3, .ref (b + 431)), (2, .ref (b + 405)), (1, .ref (b + 0)), (0, .ref bS)] [] := by
  have hK := fz_lay hF
  refine z_eqs (σ' := (ap b σ [] [] [])) rfl ?_
  refine z_aload_n B dL_law_511 rfl 3 rfl ?_
  refine z_aload_n B dL_law_512 rfl 4 rfl ?_
  refine z_iload B dL_law_513 0 rfl ?_
  refine z_iconst (v := 1) B dL_law_515 (by decide) ?_
  refine z_iadd B dL_law_516 ?_
  refine z_seti (y := 1) (by decide) ?_
  refine z_sld (j := 1) (x := x1) B hX hbl hbA (by decide) (show ¬ ((1 : Int32) < 0 ∨ 6 ≤ (1 : Int32).toNatClampNeg) by decide) h_x1 dL_law_517 ?_
  refine z_aload_n B dL_law_518 rfl 1 rfl ?_
  refine z_cSWi (As := [.ref (b + 0), .int x1, .ref (b + 431)]) (rest := []) B cw_L_95 dL_law_519 (ci_L_cancel_882 l hlt (σ := (ap b σ [] [] [])) (b := b) (lyA hK) x1 q1_x1 q2_x1) rfl (by decide) rfl (Nat.le_of_ble_eq_true rfl) (by decide) (fun r u hu => ?_)
  obtain ⟨hu1, z, hu⟩ := hu
  refine z_eqs (σ' := (ap b (wx_Z σ z) [] [] [])) (hu.trans az_ap) ?_
  show zx p l e _ s m _ below meth c g 8 _ _ _ _ 522 [(4, .int 0), (3, .ref (b + 431)), (2, .ref (b + 405)), (1, .ref (b + 0)), (0, .ref bS)] _
  refine z_seti (y := 1) hu1 ?_
  refine z_istore (lv' := [(5, .int 1), (4, .int 0), (3, .ref (b + 431)), (2, .ref (b + 405)), (1, .ref (b + 0)), (0, .ref bS)]) B dL_law_522 (by decide) rfl ?_
  refine z_aload_n B dL_law_524 rfl 3 rfl ?_
  refine z_aload_n B dL_law_525 rfl 5 rfl ?_
  refine z_iload B dL_law_526 1 rfl ?_
  refine z_iconst (v := 1) B dL_law_528 (by decide) ?_
  refine z_iadd B dL_law_529 ?_
  refine z_seti (y := 1) (by decide) ?_
  refine z_sld (j := 1) (x := x1) B hX hbl hbA (by decide) (show ¬ ((1 : Int32) < 0 ∨ 6 ≤ (1 : Int32).toNatClampNeg) by decide) h_x1 dL_law_530 ?_
  refine z_cVi (As := [.int x1]) (rest := []) B cw_L_98 cx_10 dL_law_531 (ci_X9_cancel_884 l (σ := (ap b (wx_Z σ z) [] [] [])) (b := b) (lyA (lyZ hK)) x1 q1_x1 q2_x1 (rI_at 405 6 (lIZ (fz_I hF 405 6 rfl rfl)))) (lKA (lKZ (hk_K hK 405 rfl rfl))) rfl (by decide) rfl (Nat.le_of_ble_eq_true rfl) (by decide) (fun r u hu => ?_)
  refine z_eqs (σ' := (ap b (wx_Z σ z) [(405, 0, 1)] [] [])) (hu.2.trans ap_ap) ?_
  show zx p l e _ s m _ below meth c g 8 _ _ _ _ 534 [(5, .int 1), (4, .int 0), (3, .ref (b + 431)), (2, .ref (b + 405)), (1, .ref (b + 0)), (0, .ref bS)] _
  refine z_seti (y := 0) hu.1 ?_
  refine z_istore (lv' := [(6, .int 0), (5, .int 1), (4, .int 0), (3, .ref (b + 431)), (2, .ref (b + 405)), (1, .ref (b + 0)), (0, .ref bS)]) B dL_law_534 (by decide) rfl ?_
  refine z_aload_n B dL_law_536 rfl 4 rfl ?_
  refine z_cVi (As := []) (rest := []) B cw_L_80 cx_10 dL_law_537 (ci_X9_thrown_31 l (σ := (ap b (wx_Z σ z) [(405, 0, 1)] [] [])) (b := b) (lyA (lyZ hK)) (rI_at 405 0 rfl)) (lKA (lKZ (hk_K hK 405 rfl rfl))) rfl (by decide) rfl (Nat.le_of_ble_eq_true rfl) (by decide) (fun r u hu => ?_)
  refine z_eqs (σ' := (ap b (wx_Z σ z) [(405, 0, 1)] [] [])) hu.2 ?_
  show zx p l e _ s m _ below meth c g 8 _ _ _ _ 540 [(6, .int 0), (5, .int 1), (4, .int 0), (3, .ref (b + 431)), (2, .ref (b + 405)), (1, .ref (b + 0)), (0, .ref bS)] _
  refine z_seti (y := 1) hu.1 ?_
  refine z_iload B dL_law_540 1 rfl ?_
  refine z_icmp_eq (tgt := 547) B dL_law_542 (by decide) (fun _ => ?_) (fun h => absurd (by decide) h)
  refine z_iload B dL_law_547 1 rfl ?_
  refine z_if_ne (tgt := 571) B dL_law_549 (by decide) (fun _ => ?_) (fun h => absurd h (by decide))
  refine z_goto (tgt := 1395) B dL_law_571 (by decide) ?_
  exact z_widen (Nat.le_of_ble_eq_true rfl) (Nat.le_of_ble_eq_true rfl) (z_sub _ [2, 6] rfl (kk _))
set_option maxRecDepth 100000 in
set_option maxHeartbeats 4000000 in
theorem lf_4_321 {p : Program} {l : Launch} {e : Env} {s : State} {m : MethodId} {args : Array Value} {below : List Frame} {meth : Method} {c : Code} {g : gx_T} {Q : State → Prop} {σ : sx_T} {b t bS : Nat} {xs : Nat → Int32} (hlt : l.stackTraces = false) (B : zx_B p s m args meth c code RL 8 g) (hX : va_X bS 6 xs s s.heap) (hbl : bS < s.heap.size) (hbA : ¬ gx_b g ≤ bS) (hF : fz_P b t σ) {x1 : Int32} (h_x1 : xs 1 = x1) (q1_x1 : (0 : Int) ≤ x1.toInt) (q2_x1 : x1.toInt ≤ (2147483647 : Int)) (kk : ∀ σ', zx p l e room_1 s m args below meth c g 8 600002 7302232 Q σ' 1395 [(4, .int 0), (0, .ref bS)] []) : zx p l e room_1 s m args below meth c g 8 500 100000 Q σ 511 [(4, .int 0), (3, .ref (b + 431)), (2, .ref (b + 405)), (1, .ref (b + 0)), (0, .ref bS)] [] := by
  have hK := fz_lay hF
  refine z_eqs (σ' := (ap b σ [] [] [])) rfl ?_
  refine z_aload_n B dL_law_511 rfl 3 rfl ?_
  refine z_aload_n B dL_law_512 rfl 4 rfl ?_
  refine z_iload B dL_law_513 0 rfl ?_
  refine z_iconst (v := 1) B dL_law_515 (by decide) ?_
  refine z_iadd B dL_law_516 ?_
  refine z_seti (y := 1) (by decide) ?_
  refine z_sld (j := 1) (x := x1) B hX hbl hbA (by decide) (show ¬ ((1 : Int32) < 0 ∨ 6 ≤ (1 : Int32).toNatClampNeg) by decide) h_x1 dL_law_517 ?_
  refine z_aload_n B dL_law_518 rfl 1 rfl ?_
  refine z_cSWi (As := [.ref (b + 0), .int x1, .ref (b + 431)]) (rest := []) B cw_L_95 dL_law_519 (ci_L_cancel_886 l hlt (σ := (ap b σ [] [] [])) (b := b) (lyA hK) x1 q1_x1 q2_x1 (rI_at 0 7 (fz_I hF 0 7 rfl rfl))) rfl (by decide) rfl (Nat.le_of_ble_eq_true rfl) (by decide) (fun r u hu => ?_)
  obtain ⟨hu1, z, hu⟩ := hu
  refine z_eqs (σ' := (ap b (wx_Z σ z) [] [] [])) (hu.trans az_ap) ?_
  show zx p l e _ s m _ below meth c g 8 _ _ _ _ 522 [(4, .int 0), (3, .ref (b + 431)), (2, .ref (b + 405)), (1, .ref (b + 0)), (0, .ref bS)] _
  refine z_seti (y := 1) hu1 ?_
  refine z_istore (lv' := [(5, .int 1), (4, .int 0), (3, .ref (b + 431)), (2, .ref (b + 405)), (1, .ref (b + 0)), (0, .ref bS)]) B dL_law_522 (by decide) rfl ?_
  refine z_aload_n B dL_law_524 rfl 3 rfl ?_
  refine z_aload_n B dL_law_525 rfl 5 rfl ?_
  refine z_iload B dL_law_526 1 rfl ?_
  refine z_iconst (v := 1) B dL_law_528 (by decide) ?_
  refine z_iadd B dL_law_529 ?_
  refine z_seti (y := 1) (by decide) ?_
  refine z_sld (j := 1) (x := x1) B hX hbl hbA (by decide) (show ¬ ((1 : Int32) < 0 ∨ 6 ≤ (1 : Int32).toNatClampNeg) by decide) h_x1 dL_law_530 ?_
  refine z_cVi (As := [.int x1]) (rest := []) B cw_L_98 cx_10 dL_law_531 (ci_X9_cancel_887 l (σ := (ap b (wx_Z σ z) [] [] [])) (b := b) (lyA (lyZ hK)) x1 q1_x1 q2_x1 (rI_at 405 6 (lIZ (fz_I hF 405 6 rfl rfl)))) (lKA (lKZ (hk_K hK 405 rfl rfl))) rfl (by decide) rfl (Nat.le_of_ble_eq_true rfl) (by decide) (fun r u hu => ?_)
  refine z_eqs (σ' := (ap b (wx_Z σ z) [(405, 0, 1)] [] [])) (hu.2.trans ap_ap) ?_
  show zx p l e _ s m _ below meth c g 8 _ _ _ _ 534 [(5, .int 1), (4, .int 0), (3, .ref (b + 431)), (2, .ref (b + 405)), (1, .ref (b + 0)), (0, .ref bS)] _
  refine z_seti (y := 0) hu.1 ?_
  refine z_istore (lv' := [(6, .int 0), (5, .int 1), (4, .int 0), (3, .ref (b + 431)), (2, .ref (b + 405)), (1, .ref (b + 0)), (0, .ref bS)]) B dL_law_534 (by decide) rfl ?_
  refine z_aload_n B dL_law_536 rfl 4 rfl ?_
  refine z_cVi (As := []) (rest := []) B cw_L_80 cx_10 dL_law_537 (ci_X9_thrown_31 l (σ := (ap b (wx_Z σ z) [(405, 0, 1)] [] [])) (b := b) (lyA (lyZ hK)) (rI_at 405 0 rfl)) (lKA (lKZ (hk_K hK 405 rfl rfl))) rfl (by decide) rfl (Nat.le_of_ble_eq_true rfl) (by decide) (fun r u hu => ?_)
  refine z_eqs (σ' := (ap b (wx_Z σ z) [(405, 0, 1)] [] [])) hu.2 ?_
  show zx p l e _ s m _ below meth c g 8 _ _ _ _ 540 [(6, .int 0), (5, .int 1), (4, .int 0), (3, .ref (b + 431)), (2, .ref (b + 405)), (1, .ref (b + 0)), (0, .ref bS)] _
  refine z_seti (y := 1) hu.1 ?_
  refine z_iload B dL_law_540 1 rfl ?_
  refine z_icmp_eq (tgt := 547) B dL_law_542 (by decide) (fun _ => ?_) (fun h => absurd (by decide) h)
  refine z_iload B dL_law_547 1 rfl ?_
  refine z_if_ne (tgt := 571) B dL_law_549 (by decide) (fun _ => ?_) (fun h => absurd h (by decide))
  refine z_goto (tgt := 1395) B dL_law_571 (by decide) ?_
  exact z_widen (Nat.le_of_ble_eq_true rfl) (Nat.le_of_ble_eq_true rfl) (z_sub _ [2, 6] rfl (kk _))
set_option maxRecDepth 100000 in
set_option maxHeartbeats 4000000 in
theorem lf_5_322 {p : Program} {l : Launch} {e : Env} {s : State} {m : MethodId} {args : Array Value} {below : List Frame} {meth : Method} {c : Code} {g : gx_T} {Q : State → Prop} {σ : sx_T} {b t bS : Nat} {xs : Nat → Int32} (hlt : l.stackTraces = false) (B : zx_B p s m args meth c code RL 8 g) (hX : va_X bS 6 xs s s.heap) (hbl : bS < s.heap.size) (hbA : ¬ gx_b g ≤ bS) (hF : fz_P b t σ) {x1 : Int32} (h_x1 : xs 1 = x1) (q1_x1 : (-2147483648 : Int) ≤ x1.toInt) (q2_x1 : x1.toInt ≤ (-1 : Int)) {x2 : Int32} (h_x2 : xs 2 = x2) (q1_x2 : (-2147483648 : Int) ≤ x2.toInt) (q2_x2 : x2.toInt ≤ (2147483647 : Int)) (kk : ∀ σ', zx p l e room_1 s m args below meth c g 8 600002 7302232 Q σ' 1395 [(4, .int 0), (0, .ref bS)] []) : zx p l e room_1 s m args below meth c g 8 500 100000 Q σ 574 [(4, .int 0), (3, .ref (b + 431)), (2, .ref (b + 405)), (1, .ref (b + 0)), (0, .ref bS)] [] := by
  have hK := fz_lay hF
  refine z_eqs (σ' := (ap b σ [] [] [])) rfl ?_
  refine z_aload_n B dL_law_574 rfl 3 rfl ?_
  refine z_aload_n B dL_law_575 rfl 4 rfl ?_
  refine z_iload B dL_law_576 0 rfl ?_
  refine z_iconst (v := 1) B dL_law_578 (by decide) ?_
  refine z_iadd B dL_law_579 ?_
  refine z_seti (y := 1) (by decide) ?_
  refine z_sld (j := 1) (x := x1) B hX hbl hbA (by decide) (show ¬ ((1 : Int32) < 0 ∨ 6 ≤ (1 : Int32).toNatClampNeg) by decide) h_x1 dL_law_580 ?_
  refine z_aload_n B dL_law_581 rfl 4 rfl ?_
  refine z_iload B dL_law_582 0 rfl ?_
  refine z_iconst (v := 2) B dL_law_584 (by decide) ?_
  refine z_iadd B dL_law_585 ?_
  refine z_seti (y := 2) (by decide) ?_
  refine z_sld (j := 2) (x := x2) B hX hbl hbA (by decide) (show ¬ ((2 : Int32) < 0 ∨ 6 ≤ (2 : Int32).toNatClampNeg) by decide) h_x2 dL_law_586 ?_
  refine z_aload_n B dL_law_587 rfl 1 rfl ?_
  refine z_cSWi (As := [.ref (b + 0), .int x1, .int x2, .ref (b + 431)]) (rest := []) B cw_L_99 dL_law_588 (ci_L_reset_889 l hlt (σ := (ap b σ [] [] [])) (b := b) (lyA hK) x1 x2 q1_x1 q2_x1) rfl (by decide) rfl (Nat.le_of_ble_eq_true rfl) (by decide) (fun r u hu => ?_)
  obtain ⟨hu1, z, hu⟩ := hu
  refine z_eqs (σ' := (ap b (wx_Z σ z) [] [] [])) (hu.trans az_ap) ?_
  show zx p l e _ s m _ below meth c g 8 _ _ _ _ 591 [(4, .int 0), (3, .ref (b + 431)), (2, .ref (b + 405)), (1, .ref (b + 0)), (0, .ref bS)] _
  refine z_seti (y := 1) hu1 ?_
  refine z_istore (lv' := [(5, .int 1), (4, .int 0), (3, .ref (b + 431)), (2, .ref (b + 405)), (1, .ref (b + 0)), (0, .ref bS)]) B dL_law_591 (by decide) rfl ?_
  refine z_aload_n B dL_law_593 rfl 3 rfl ?_
  refine z_aload_n B dL_law_594 rfl 5 rfl ?_
  refine z_iload B dL_law_595 1 rfl ?_
  refine z_iconst (v := 1) B dL_law_597 (by decide) ?_
  refine z_iadd B dL_law_598 ?_
  refine z_seti (y := 1) (by decide) ?_
  refine z_sld (j := 1) (x := x1) B hX hbl hbA (by decide) (show ¬ ((1 : Int32) < 0 ∨ 6 ≤ (1 : Int32).toNatClampNeg) by decide) h_x1 dL_law_599 ?_
  refine z_aload_n B dL_law_600 rfl 5 rfl ?_
  refine z_iload B dL_law_601 1 rfl ?_
  refine z_iconst (v := 2) B dL_law_603 (by decide) ?_
  refine z_iadd B dL_law_604 ?_
  refine z_seti (y := 2) (by decide) ?_
  refine z_sld (j := 2) (x := x2) B hX hbl hbA (by decide) (show ¬ ((2 : Int32) < 0 ∨ 6 ≤ (2 : Int32).toNatClampNeg) by decide) h_x2 dL_law_605 ?_
  refine z_cVi (As := [.int x1, .int x2]) (rest := []) B cw_L_101 cx_10 dL_law_606 (ci_X9_reset_891 l (σ := (ap b (wx_Z σ z) [] [] [])) (b := b) (lyA (lyZ hK)) x1 x2 q1_x1 q2_x1 (rI_at 405 6 (lIZ (fz_I hF 405 6 rfl rfl)))) (lKA (lKZ (hk_K hK 405 rfl rfl))) rfl (by decide) rfl (Nat.le_of_ble_eq_true rfl) (by decide) (fun r u hu => ?_)
  refine z_eqs (σ' := (ap b (wx_Z σ z) [(405, 0, 1)] [] [])) (hu.2.trans ap_ap) ?_
  show zx p l e _ s m _ below meth c g 8 _ _ _ _ 609 [(5, .int 1), (4, .int 0), (3, .ref (b + 431)), (2, .ref (b + 405)), (1, .ref (b + 0)), (0, .ref bS)] _
  refine z_seti (y := 0) hu.1 ?_
  refine z_istore (lv' := [(6, .int 0), (5, .int 1), (4, .int 0), (3, .ref (b + 431)), (2, .ref (b + 405)), (1, .ref (b + 0)), (0, .ref bS)]) B dL_law_609 (by decide) rfl ?_
  refine z_aload_n B dL_law_611 rfl 4 rfl ?_
  refine z_cVi (As := []) (rest := []) B cw_L_80 cx_10 dL_law_612 (ci_X9_thrown_31 l (σ := (ap b (wx_Z σ z) [(405, 0, 1)] [] [])) (b := b) (lyA (lyZ hK)) (rI_at 405 0 rfl)) (lKA (lKZ (hk_K hK 405 rfl rfl))) rfl (by decide) rfl (Nat.le_of_ble_eq_true rfl) (by decide) (fun r u hu => ?_)
  refine z_eqs (σ' := (ap b (wx_Z σ z) [(405, 0, 1)] [] [])) hu.2 ?_
  show zx p l e _ s m _ below meth c g 8 _ _ _ _ 615 [(6, .int 0), (5, .int 1), (4, .int 0), (3, .ref (b + 431)), (2, .ref (b + 405)), (1, .ref (b + 0)), (0, .ref bS)] _
  refine z_seti (y := 1) hu.1 ?_
  refine z_iload B dL_law_615 1 rfl ?_
  refine z_icmp_eq (tgt := 622) B dL_law_617 (by decide) (fun _ => ?_) (fun h => absurd (by decide) h)
  refine z_iload B dL_law_622 1 rfl ?_
  refine z_if_ne (tgt := 639) B dL_law_624 (by decide) (fun _ => ?_) (fun h => absurd h (by decide))
  refine z_goto (tgt := 1395) B dL_law_639 (by decide) ?_
  exact z_widen (Nat.le_of_ble_eq_true rfl) (Nat.le_of_ble_eq_true rfl) (z_sub _ [2, 6] rfl (kk _))
set_option maxRecDepth 100000 in
set_option maxHeartbeats 4000000 in
theorem lf_5_323 {p : Program} {l : Launch} {e : Env} {s : State} {m : MethodId} {args : Array Value} {below : List Frame} {meth : Method} {c : Code} {g : gx_T} {Q : State → Prop} {σ : sx_T} {b t bS : Nat} {xs : Nat → Int32} (hlt : l.stackTraces = false) (B : zx_B p s m args meth c code RL 8 g) (hX : va_X bS 6 xs s s.heap) (hbl : bS < s.heap.size) (hbA : ¬ gx_b g ≤ bS) (hF : fz_P b t σ) {x1 : Int32} (h_x1 : xs 1 = x1) (q1_x1 : (0 : Int) ≤ x1.toInt) (q2_x1 : x1.toInt ≤ (2147483647 : Int)) {x2 : Int32} (h_x2 : xs 2 = x2) (q1_x2 : (-2147483648 : Int) ≤ x2.toInt) (q2_x2 : x2.toInt ≤ (2147483647 : Int)) (kk : ∀ σ', zx p l e room_1 s m args below meth c g 8 600002 7302232 Q σ' 1395 [(4, .int 0), (0, .ref bS)] []) : zx p l e room_1 s m args below meth c g 8 500 100000 Q σ 574 [(4, .int 0), (3, .ref (b + 431)), (2, .ref (b + 405)), (1, .ref (b + 0)), (0, .ref bS)] [] := by
  have hK := fz_lay hF
  refine z_eqs (σ' := (ap b σ [] [] [])) rfl ?_
  refine z_aload_n B dL_law_574 rfl 3 rfl ?_
  refine z_aload_n B dL_law_575 rfl 4 rfl ?_
  refine z_iload B dL_law_576 0 rfl ?_
  refine z_iconst (v := 1) B dL_law_578 (by decide) ?_
  refine z_iadd B dL_law_579 ?_
  refine z_seti (y := 1) (by decide) ?_
  refine z_sld (j := 1) (x := x1) B hX hbl hbA (by decide) (show ¬ ((1 : Int32) < 0 ∨ 6 ≤ (1 : Int32).toNatClampNeg) by decide) h_x1 dL_law_580 ?_
  refine z_aload_n B dL_law_581 rfl 4 rfl ?_
  refine z_iload B dL_law_582 0 rfl ?_
  refine z_iconst (v := 2) B dL_law_584 (by decide) ?_
  refine z_iadd B dL_law_585 ?_
  refine z_seti (y := 2) (by decide) ?_
  refine z_sld (j := 2) (x := x2) B hX hbl hbA (by decide) (show ¬ ((2 : Int32) < 0 ∨ 6 ≤ (2 : Int32).toNatClampNeg) by decide) h_x2 dL_law_586 ?_
  refine z_aload_n B dL_law_587 rfl 1 rfl ?_
  refine z_cSWi (As := [.ref (b + 0), .int x1, .int x2, .ref (b + 431)]) (rest := []) B cw_L_99 dL_law_588 (ci_L_reset_893 l hlt (σ := (ap b σ [] [] [])) (b := b) (lyA hK) x1 x2 q1_x1 q2_x1 (rI_at 0 7 (fz_I hF 0 7 rfl rfl))) rfl (by decide) rfl (Nat.le_of_ble_eq_true rfl) (by decide) (fun r u hu => ?_)
  obtain ⟨hu1, z, hu⟩ := hu
  refine z_eqs (σ' := (ap b (wx_Z σ z) [] [] [])) (hu.trans az_ap) ?_
  show zx p l e _ s m _ below meth c g 8 _ _ _ _ 591 [(4, .int 0), (3, .ref (b + 431)), (2, .ref (b + 405)), (1, .ref (b + 0)), (0, .ref bS)] _
  refine z_seti (y := 1) hu1 ?_
  refine z_istore (lv' := [(5, .int 1), (4, .int 0), (3, .ref (b + 431)), (2, .ref (b + 405)), (1, .ref (b + 0)), (0, .ref bS)]) B dL_law_591 (by decide) rfl ?_
  refine z_aload_n B dL_law_593 rfl 3 rfl ?_
  refine z_aload_n B dL_law_594 rfl 5 rfl ?_
  refine z_iload B dL_law_595 1 rfl ?_
  refine z_iconst (v := 1) B dL_law_597 (by decide) ?_
  refine z_iadd B dL_law_598 ?_
  refine z_seti (y := 1) (by decide) ?_
  refine z_sld (j := 1) (x := x1) B hX hbl hbA (by decide) (show ¬ ((1 : Int32) < 0 ∨ 6 ≤ (1 : Int32).toNatClampNeg) by decide) h_x1 dL_law_599 ?_
  refine z_aload_n B dL_law_600 rfl 5 rfl ?_
  refine z_iload B dL_law_601 1 rfl ?_
  refine z_iconst (v := 2) B dL_law_603 (by decide) ?_
  refine z_iadd B dL_law_604 ?_
  refine z_seti (y := 2) (by decide) ?_
  refine z_sld (j := 2) (x := x2) B hX hbl hbA (by decide) (show ¬ ((2 : Int32) < 0 ∨ 6 ≤ (2 : Int32).toNatClampNeg) by decide) h_x2 dL_law_605 ?_
  refine z_cVi (As := [.int x1, .int x2]) (rest := []) B cw_L_101 cx_10 dL_law_606 (ci_X9_reset_894 l (σ := (ap b (wx_Z σ z) [] [] [])) (b := b) (lyA (lyZ hK)) x1 x2 q1_x1 q2_x1 (rI_at 405 6 (lIZ (fz_I hF 405 6 rfl rfl)))) (lKA (lKZ (hk_K hK 405 rfl rfl))) rfl (by decide) rfl (Nat.le_of_ble_eq_true rfl) (by decide) (fun r u hu => ?_)
  refine z_eqs (σ' := (ap b (wx_Z σ z) [(405, 0, 1)] [] [])) (hu.2.trans ap_ap) ?_
  show zx p l e _ s m _ below meth c g 8 _ _ _ _ 609 [(5, .int 1), (4, .int 0), (3, .ref (b + 431)), (2, .ref (b + 405)), (1, .ref (b + 0)), (0, .ref bS)] _
  refine z_seti (y := 0) hu.1 ?_
  refine z_istore (lv' := [(6, .int 0), (5, .int 1), (4, .int 0), (3, .ref (b + 431)), (2, .ref (b + 405)), (1, .ref (b + 0)), (0, .ref bS)]) B dL_law_609 (by decide) rfl ?_
  refine z_aload_n B dL_law_611 rfl 4 rfl ?_
  refine z_cVi (As := []) (rest := []) B cw_L_80 cx_10 dL_law_612 (ci_X9_thrown_31 l (σ := (ap b (wx_Z σ z) [(405, 0, 1)] [] [])) (b := b) (lyA (lyZ hK)) (rI_at 405 0 rfl)) (lKA (lKZ (hk_K hK 405 rfl rfl))) rfl (by decide) rfl (Nat.le_of_ble_eq_true rfl) (by decide) (fun r u hu => ?_)
  refine z_eqs (σ' := (ap b (wx_Z σ z) [(405, 0, 1)] [] [])) hu.2 ?_
  show zx p l e _ s m _ below meth c g 8 _ _ _ _ 615 [(6, .int 0), (5, .int 1), (4, .int 0), (3, .ref (b + 431)), (2, .ref (b + 405)), (1, .ref (b + 0)), (0, .ref bS)] _
  refine z_seti (y := 1) hu.1 ?_
  refine z_iload B dL_law_615 1 rfl ?_
  refine z_icmp_eq (tgt := 622) B dL_law_617 (by decide) (fun _ => ?_) (fun h => absurd (by decide) h)
  refine z_iload B dL_law_622 1 rfl ?_
  refine z_if_ne (tgt := 639) B dL_law_624 (by decide) (fun _ => ?_) (fun h => absurd h (by decide))
  refine z_goto (tgt := 1395) B dL_law_639 (by decide) ?_
  exact z_widen (Nat.le_of_ble_eq_true rfl) (Nat.le_of_ble_eq_true rfl) (z_sub _ [2, 6] rfl (kk _))
set_option maxRecDepth 100000 in
set_option maxHeartbeats 4000000 in
theorem lf_6_324 {p : Program} {l : Launch} {e : Env} {s : State} {m : MethodId} {args : Array Value} {below : List Frame} {meth : Method} {c : Code} {g : gx_T} {Q : State → Prop} {σ : sx_T} {b t bS : Nat} {xs : Nat → Int32} (hlt : l.stackTraces = false) (B : zx_B p s m args meth c code RL 8 g) (hX : va_X bS 6 xs s s.heap) (hbl : bS < s.heap.size) (hbA : ¬ gx_b g ≤ bS) (hF : fz_P b t σ)  (kk : ∀ σ', zx p l e room_1 s m args below meth c g 8 600002 7302232 Q σ' 1395 [(4, .int 0), (0, .ref bS)] []) : zx p l e room_1 s m args below meth c g 8 500 100000 Q σ 642 [(4, .int 0), (3, .ref (b + 431)), (2, .ref (b + 405)), (1, .ref (b + 0)), (0, .ref bS)] [] := by
  have hK := fz_lay hF
  refine z_eqs (σ' := (ap b σ [] [] [])) rfl ?_
  refine z_aload_n B dL_law_642 rfl 3 rfl ?_
  refine z_cVi (As := []) (rest := []) B cw_L_102 cx_9 dL_law_643 (ci_X8_crash_895 l (σ := (ap b σ [] [] [])) (b := b) (lyA hK) (rI_at 0 7 (fz_I hF 0 7 rfl rfl))) (lKA (hk_K hK 0 rfl rfl)) rfl (by decide) rfl (Nat.le_of_ble_eq_true rfl) (by decide) (fun r u hu => ?_)
  refine z_eqs (σ' := (ap b σ [] [] [])) hu.2 ?_
  show zx p l e _ s m _ below meth c g 8 _ _ _ _ 646 [(4, .int 0), (3, .ref (b + 431)), (2, .ref (b + 405)), (1, .ref (b + 0)), (0, .ref bS)] _
  refine z_seti (y := 0) hu.1 ?_
  refine z_aload_n B dL_law_646 rfl 2 rfl ?_
  refine z_cVi (As := []) (rest := [.int 0]) B cw_L_105 cx_10 dL_law_647 (ci_X9_crash_896 l (σ := (ap b σ [] [] [])) (b := b) (lyA hK) (rI_at 405 6 (fz_I hF 405 6 rfl rfl))) (lKA (hk_K hK 405 rfl rfl)) rfl (by decide) rfl (Nat.le_of_ble_eq_true rfl) (by decide) (fun r u hu => ?_)
  refine z_eqs (σ' := (ap b σ [(405, 0, 0)] [] [])) (hu.2.trans ap_ap) ?_
  show zx p l e _ s m _ below meth c g 8 _ _ _ _ 650 [(4, .int 0), (3, .ref (b + 431)), (2, .ref (b + 405)), (1, .ref (b + 0)), (0, .ref bS)] _
  refine z_seti (y := 0) hu.1 ?_
  refine z_icmp_eq (tgt := 1395) B dL_law_650 (by decide) (fun _ => ?_) (fun h => absurd (by decide) h)
  exact z_widen (Nat.le_of_ble_eq_true rfl) (Nat.le_of_ble_eq_true rfl) (z_sub _ [0, 4] rfl (kk _))
set_option maxRecDepth 100000 in
set_option maxHeartbeats 4000000 in
theorem lf_7_325 {p : Program} {l : Launch} {e : Env} {s : State} {m : MethodId} {args : Array Value} {below : List Frame} {meth : Method} {c : Code} {g : gx_T} {Q : State → Prop} {σ : sx_T} {b t bS : Nat} {xs : Nat → Int32} (hlt : l.stackTraces = false) (B : zx_B p s m args meth c code RL 8 g) (hX : va_X bS 6 xs s s.heap) (hbl : bS < s.heap.size) (hbA : ¬ gx_b g ≤ bS) (hF : fz_P b t σ)  (kk : ∀ σ', zx p l e room_1 s m args below meth c g 8 600002 7302232 Q σ' 1395 [(4, .int 0), (0, .ref bS)] []) : zx p l e room_1 s m args below meth c g 8 500 100000 Q σ 655 [(4, .int 0), (3, .ref (b + 431)), (2, .ref (b + 405)), (1, .ref (b + 0)), (0, .ref bS)] [] := by
  have hK := fz_lay hF
  refine z_eqs (σ' := (ap b σ [] [] [])) rfl ?_
  refine z_aload_n B dL_law_655 rfl 3 rfl ?_
  refine z_cVi (As := []) (rest := []) B cw_L_106 cx_9 dL_law_656 (ci_X8_poll_897 l (σ := (ap b σ [] [] [])) (b := b) (lyA hK) (rI_at 0 7 (fz_I hF 0 7 rfl rfl))) (lKA (hk_K hK 0 rfl rfl)) rfl (by decide) rfl (Nat.le_of_ble_eq_true rfl) (by decide) (fun r u hu => ?_)
  refine z_eqs (σ' := (ap b σ [] [] [])) hu.2 ?_
  show zx p l e _ s m _ below meth c g 8 _ _ _ _ 659 [(4, .int 0), (3, .ref (b + 431)), (2, .ref (b + 405)), (1, .ref (b + 0)), (0, .ref bS)] _
  refine z_seti (y := (-1)) hu.1 ?_
  refine z_aload_n B dL_law_659 rfl 2 rfl ?_
  refine z_cVi (As := []) (rest := [.int (-1)]) B cw_L_109 cx_10 dL_law_660 (ci_X9_poll_898 l (σ := (ap b σ [] [] [])) (b := b) (lyA hK) (rI_at 405 16 (fz_I hF 405 16 rfl rfl))) (lKA (hk_K hK 405 rfl rfl)) rfl (by decide) rfl (Nat.le_of_ble_eq_true rfl) (by decide) (fun r u hu => ?_)
  refine z_eqs (σ' := (ap b σ [(405, 0, 0)] [] [])) (hu.2.trans ap_ap) ?_
  show zx p l e _ s m _ below meth c g 8 _ _ _ _ 663 [(4, .int 0), (3, .ref (b + 431)), (2, .ref (b + 405)), (1, .ref (b + 0)), (0, .ref bS)] _
  refine z_seti (y := (-1)) hu.1 ?_
  refine z_icmp_eq (tgt := 1395) B dL_law_663 (by decide) (fun _ => ?_) (fun h => absurd (by decide) h)
  exact z_widen (Nat.le_of_ble_eq_true rfl) (Nat.le_of_ble_eq_true rfl) (z_sub _ [0, 4] rfl (kk _))
set_option maxRecDepth 100000 in
set_option maxHeartbeats 4000000 in
theorem lf_8_326 {p : Program} {l : Launch} {e : Env} {s : State} {m : MethodId} {args : Array Value} {below : List Frame} {meth : Method} {c : Code} {g : gx_T} {Q : State → Prop} {σ : sx_T} {b t bS : Nat} {xs : Nat → Int32} (hlt : l.stackTraces = false) (B : zx_B p s m args meth c code RL 8 g) (hX : va_X bS 6 xs s s.heap) (hbl : bS < s.heap.size) (hbA : ¬ gx_b g ≤ bS) (hF : fz_P b t σ) {x1 : Int32} (h_x1 : xs 1 = x1) (q1_x1 : (-2147483648 : Int) ≤ x1.toInt) (q2_x1 : x1.toInt ≤ (2147483647 : Int)) {x2 : Int32} (h_x2 : xs 2 = x2) (q1_x2 : (-2147483648 : Int) ≤ x2.toInt) (q2_x2 : x2.toInt ≤ (-1000 : Int)) (kk : ∀ σ', zx p l e room_1 s m args below meth c g 8 600002 7302232 Q σ' 1395 [(4, .int 0), (0, .ref bS)] []) : zx p l e room_1 s m args below meth c g 8 500 100000 Q σ 668 [(4, .int 0), (3, .ref (b + 431)), (2, .ref (b + 405)), (1, .ref (b + 0)), (0, .ref bS)] [] := by
  have hK := fz_lay hF
  refine z_eqs (σ' := (ap b σ [] [] [])) rfl ?_
  refine z_aload_n B dL_law_668 rfl 3 rfl ?_
  refine z_aload_n B dL_law_669 rfl 4 rfl ?_
  refine z_iload B dL_law_670 0 rfl ?_
  refine z_iconst (v := 1) B dL_law_672 (by decide) ?_
  refine z_iadd B dL_law_673 ?_
  refine z_seti (y := 1) (by decide) ?_
  refine z_sld (j := 1) (x := x1) B hX hbl hbA (by decide) (show ¬ ((1 : Int32) < 0 ∨ 6 ≤ (1 : Int32).toNatClampNeg) by decide) h_x1 dL_law_674 ?_
  refine z_aload_n B dL_law_675 rfl 4 rfl ?_
  refine z_iload B dL_law_676 0 rfl ?_
  refine z_iconst (v := 2) B dL_law_678 (by decide) ?_
  refine z_iadd B dL_law_679 ?_
  refine z_seti (y := 2) (by decide) ?_
  refine z_sld (j := 2) (x := x2) B hX hbl hbA (by decide) (show ¬ ((2 : Int32) < 0 ∨ 6 ≤ (2 : Int32).toNatClampNeg) by decide) h_x2 dL_law_680 ?_
  refine z_aload_n B dL_law_681 rfl 1 rfl ?_
  refine z_cSWi (As := [.ref (b + 0), .int x1, .int x2, .ref (b + 431)]) (rest := []) B cw_L_110 dL_law_682 (ci_L_complete_900 l hlt (σ := (ap b σ [] [] [])) (b := b) (lyA hK) x1 x2 q1_x2 q2_x2) rfl (by decide) rfl (Nat.le_of_ble_eq_true rfl) (by decide) (fun r u hu => ?_)
  obtain ⟨hu1, z, hu⟩ := hu
  refine z_eqs (σ' := (ap b (wx_Z σ z) [] [] [])) (hu.trans az_ap) ?_
  show zx p l e _ s m _ below meth c g 8 _ _ _ _ 685 [(4, .int 0), (3, .ref (b + 431)), (2, .ref (b + 405)), (1, .ref (b + 0)), (0, .ref bS)] _
  refine z_seti (y := 1) hu1 ?_
  refine z_istore (lv' := [(5, .int 1), (4, .int 0), (3, .ref (b + 431)), (2, .ref (b + 405)), (1, .ref (b + 0)), (0, .ref bS)]) B dL_law_685 (by decide) rfl ?_
  refine z_aload_n B dL_law_687 rfl 3 rfl ?_
  refine z_aload_n B dL_law_688 rfl 5 rfl ?_
  refine z_iload B dL_law_689 1 rfl ?_
  refine z_iconst (v := 1) B dL_law_691 (by decide) ?_
  refine z_iadd B dL_law_692 ?_
  refine z_seti (y := 1) (by decide) ?_
  refine z_sld (j := 1) (x := x1) B hX hbl hbA (by decide) (show ¬ ((1 : Int32) < 0 ∨ 6 ≤ (1 : Int32).toNatClampNeg) by decide) h_x1 dL_law_693 ?_
  refine z_aload_n B dL_law_694 rfl 5 rfl ?_
  refine z_iload B dL_law_695 1 rfl ?_
  refine z_iconst (v := 2) B dL_law_697 (by decide) ?_
  refine z_iadd B dL_law_698 ?_
  refine z_seti (y := 2) (by decide) ?_
  refine z_sld (j := 2) (x := x2) B hX hbl hbA (by decide) (show ¬ ((2 : Int32) < 0 ∨ 6 ≤ (2 : Int32).toNatClampNeg) by decide) h_x2 dL_law_699 ?_
  refine z_cVi (As := [.int x1, .int x2]) (rest := []) B cw_L_112 cx_10 dL_law_700 (ci_X9_complete_901 l (σ := (ap b (wx_Z σ z) [] [] [])) (b := b) (lyA (lyZ hK)) x1 x2 q1_x2 q2_x2) (lKA (lKZ (hk_K hK 405 rfl rfl))) rfl (by decide) rfl (Nat.le_of_ble_eq_true rfl) (by decide) (fun r u hu => ?_)
  refine z_eqs (σ' := (ap b (wx_Z σ z) [(405, 0, 1)] [] [])) (hu.2.trans ap_ap) ?_
  show zx p l e _ s m _ below meth c g 8 _ _ _ _ 703 [(5, .int 1), (4, .int 0), (3, .ref (b + 431)), (2, .ref (b + 405)), (1, .ref (b + 0)), (0, .ref bS)] _
  refine z_seti (y := 0) hu.1 ?_
  refine z_istore (lv' := [(6, .int 0), (5, .int 1), (4, .int 0), (3, .ref (b + 431)), (2, .ref (b + 405)), (1, .ref (b + 0)), (0, .ref bS)]) B dL_law_703 (by decide) rfl ?_
  refine z_aload_n B dL_law_705 rfl 4 rfl ?_
  refine z_cVi (As := []) (rest := []) B cw_L_80 cx_10 dL_law_706 (ci_X9_thrown_31 l (σ := (ap b (wx_Z σ z) [(405, 0, 1)] [] [])) (b := b) (lyA (lyZ hK)) (rI_at 405 0 rfl)) (lKA (lKZ (hk_K hK 405 rfl rfl))) rfl (by decide) rfl (Nat.le_of_ble_eq_true rfl) (by decide) (fun r u hu => ?_)
  refine z_eqs (σ' := (ap b (wx_Z σ z) [(405, 0, 1)] [] [])) hu.2 ?_
  show zx p l e _ s m _ below meth c g 8 _ _ _ _ 709 [(6, .int 0), (5, .int 1), (4, .int 0), (3, .ref (b + 431)), (2, .ref (b + 405)), (1, .ref (b + 0)), (0, .ref bS)] _
  refine z_seti (y := 1) hu.1 ?_
  refine z_iload B dL_law_709 1 rfl ?_
  refine z_icmp_eq (tgt := 716) B dL_law_711 (by decide) (fun _ => ?_) (fun h => absurd (by decide) h)
  refine z_iload B dL_law_716 1 rfl ?_
  refine z_if_ne (tgt := 740) B dL_law_718 (by decide) (fun _ => ?_) (fun h => absurd h (by decide))
  refine z_goto (tgt := 1395) B dL_law_740 (by decide) ?_
  exact z_widen (Nat.le_of_ble_eq_true rfl) (Nat.le_of_ble_eq_true rfl) (z_sub _ [2, 6] rfl (kk _))
set_option maxRecDepth 100000 in
set_option maxHeartbeats 4000000 in
theorem lf_8_327 {p : Program} {l : Launch} {e : Env} {s : State} {m : MethodId} {args : Array Value} {below : List Frame} {meth : Method} {c : Code} {g : gx_T} {Q : State → Prop} {σ : sx_T} {b t bS : Nat} {xs : Nat → Int32} (hlt : l.stackTraces = false) (B : zx_B p s m args meth c code RL 8 g) (hX : va_X bS 6 xs s s.heap) (hbl : bS < s.heap.size) (hbA : ¬ gx_b g ≤ bS) (hF : fz_P b t σ) {x1 : Int32} (h_x1 : xs 1 = x1) (q1_x1 : (-2147483648 : Int) ≤ x1.toInt) (q2_x1 : x1.toInt ≤ (2147483647 : Int)) {x2 : Int32} (h_x2 : xs 2 = x2) (q1_x2 : (-999 : Int) ≤ x2.toInt) (q2_x2 : x2.toInt ≤ (999 : Int)) (kk : ∀ σ', zx p l e room_1 s m args below meth c g 8 600002 7302232 Q σ' 1395 [(4, .int 0), (0, .ref bS)] []) : zx p l e room_1 s m args below meth c g 8 500 100000 Q σ 668 [(4, .int 0), (3, .ref (b + 431)), (2, .ref (b + 405)), (1, .ref (b + 0)), (0, .ref bS)] [] := by
  have hK := fz_lay hF
  refine z_eqs (σ' := (ap b σ [] [] [])) rfl ?_
  refine z_aload_n B dL_law_668 rfl 3 rfl ?_
  refine z_aload_n B dL_law_669 rfl 4 rfl ?_
  refine z_iload B dL_law_670 0 rfl ?_
  refine z_iconst (v := 1) B dL_law_672 (by decide) ?_
  refine z_iadd B dL_law_673 ?_
  refine z_seti (y := 1) (by decide) ?_
  refine z_sld (j := 1) (x := x1) B hX hbl hbA (by decide) (show ¬ ((1 : Int32) < 0 ∨ 6 ≤ (1 : Int32).toNatClampNeg) by decide) h_x1 dL_law_674 ?_
  refine z_aload_n B dL_law_675 rfl 4 rfl ?_
  refine z_iload B dL_law_676 0 rfl ?_
  refine z_iconst (v := 2) B dL_law_678 (by decide) ?_
  refine z_iadd B dL_law_679 ?_
  refine z_seti (y := 2) (by decide) ?_
  refine z_sld (j := 2) (x := x2) B hX hbl hbA (by decide) (show ¬ ((2 : Int32) < 0 ∨ 6 ≤ (2 : Int32).toNatClampNeg) by decide) h_x2 dL_law_680 ?_
  refine z_aload_n B dL_law_681 rfl 1 rfl ?_
  refine z_cSWi (As := [.ref (b + 0), .int x1, .int x2, .ref (b + 431)]) (rest := []) B cw_L_110 dL_law_682 (ci_L_complete_904 l (σ := (ap b σ [] [] [])) (b := b) (lyA hK) x1 x2 q1_x2 q2_x2 (rI_at 0 7 (fz_I hF 0 7 rfl rfl))) rfl (by decide) rfl (Nat.le_of_ble_eq_true rfl) (by decide) (fun r u hu => ?_)
  refine z_eqs (σ' := (ap b σ [] [(431, 0, 0)] [])) (hu.2.trans ap_ap) ?_
  show zx p l e _ s m _ below meth c g 8 _ _ _ _ 685 [(4, .int 0), (3, .ref (b + 431)), (2, .ref (b + 405)), (1, .ref (b + 0)), (0, .ref bS)] _
  refine z_seti (y := 0) hu.1 ?_
  refine z_istore (lv' := [(5, .int 0), (4, .int 0), (3, .ref (b + 431)), (2, .ref (b + 405)), (1, .ref (b + 0)), (0, .ref bS)]) B dL_law_685 (by decide) rfl ?_
  refine z_aload_n B dL_law_687 rfl 3 rfl ?_
  refine z_aload_n B dL_law_688 rfl 5 rfl ?_
  refine z_iload B dL_law_689 1 rfl ?_
  refine z_iconst (v := 1) B dL_law_691 (by decide) ?_
  refine z_iadd B dL_law_692 ?_
  refine z_seti (y := 1) (by decide) ?_
  refine z_sld (j := 1) (x := x1) B hX hbl hbA (by decide) (show ¬ ((1 : Int32) < 0 ∨ 6 ≤ (1 : Int32).toNatClampNeg) by decide) h_x1 dL_law_693 ?_
  refine z_aload_n B dL_law_694 rfl 5 rfl ?_
  refine z_iload B dL_law_695 1 rfl ?_
  refine z_iconst (v := 2) B dL_law_697 (by decide) ?_
  refine z_iadd B dL_law_698 ?_
  refine z_seti (y := 2) (by decide) ?_
  refine z_sld (j := 2) (x := x2) B hX hbl hbA (by decide) (show ¬ ((2 : Int32) < 0 ∨ 6 ≤ (2 : Int32).toNatClampNeg) by decide) h_x2 dL_law_699 ?_
  refine z_cVi (As := [.int x1, .int x2]) (rest := []) B cw_L_112 cx_10 dL_law_700 (ci_X9_complete_907 l (σ := (ap b σ [] [(431, 0, 0)] [])) (b := b) (lyA hK) x1 x2 q1_x2 q2_x2 (rI_at 405 16 (fz_I hF 405 16 rfl rfl))) (lKA (hk_K hK 405 rfl rfl)) rfl (by decide) rfl (Nat.le_of_ble_eq_true rfl) (by decide) (fun r u hu => ?_)
  refine z_eqs (σ' := (ap b σ [(405, 0, 0)] [(431, 0, 0)] [])) (hu.2.trans ap_ap) ?_
  show zx p l e _ s m _ below meth c g 8 _ _ _ _ 703 [(5, .int 0), (4, .int 0), (3, .ref (b + 431)), (2, .ref (b + 405)), (1, .ref (b + 0)), (0, .ref bS)] _
  refine z_seti (y := 0) hu.1 ?_
  refine z_istore (lv' := [(6, .int 0), (5, .int 0), (4, .int 0), (3, .ref (b + 431)), (2, .ref (b + 405)), (1, .ref (b + 0)), (0, .ref bS)]) B dL_law_703 (by decide) rfl ?_
  refine z_aload_n B dL_law_705 rfl 4 rfl ?_
  refine z_cVi (As := []) (rest := []) B cw_L_80 cx_10 dL_law_706 (ci_X9_thrown_95 l (σ := (ap b σ [(405, 0, 0)] [(431, 0, 0)] [])) (b := b) (lyA hK) (rI_at 405 0 rfl)) (lKA (hk_K hK 405 rfl rfl)) rfl (by decide) rfl (Nat.le_of_ble_eq_true rfl) (by decide) (fun r u hu => ?_)
  refine z_eqs (σ' := (ap b σ [(405, 0, 0)] [(431, 0, 0)] [])) hu.2 ?_
  show zx p l e _ s m _ below meth c g 8 _ _ _ _ 709 [(6, .int 0), (5, .int 0), (4, .int 0), (3, .ref (b + 431)), (2, .ref (b + 405)), (1, .ref (b + 0)), (0, .ref bS)] _
  refine z_seti (y := 0) hu.1 ?_
  refine z_iload B dL_law_709 1 rfl ?_
  refine z_icmp_eq (tgt := 716) B dL_law_711 (by decide) (fun _ => ?_) (fun h => absurd (by decide) h)
  refine z_iload B dL_law_716 1 rfl ?_
  refine z_if_ne (tgt := 740) B dL_law_718 (by decide) (fun h => absurd (by decide) h) (fun _ => ?_)
  refine z_aload_n B dL_law_721 rfl 3 rfl ?_
  refine z_iconst (v := 0) B dL_law_722 (by decide) ?_
  refine z_lald (j := 0) (x := 0) B (lKA (hk_K hK 431 rfl rfl)) (by decide) (in_of (lNA (hk_N hK 431 rfl rfl)) (show ¬ ((0 : Int32) < 0 ∨ 1 ≤ (0 : Int32).toNatClampNeg) by decide)) (rJ_at 431 0 rfl) dL_law_723 ?_
  refine z_iload B dL_law_724 0 rfl ?_
  refine z_if_eq (tgt := 733) B dL_law_726 (by decide) (fun _ => ?_) (fun h => absurd (by decide) h)
  refine z_lconst (v := 0) B dL_law_733 (by decide) ?_
  refine z_lcmp (v := 0) B dL_law_734 (by decide) ?_
  refine z_if_eq (tgt := 740) B dL_law_735 (by decide) (fun _ => ?_) (fun h => absurd (by decide) h)
  refine z_goto (tgt := 1395) B dL_law_740 (by decide) ?_
  exact z_widen (Nat.le_of_ble_eq_true rfl) (Nat.le_of_ble_eq_true rfl) (z_sub _ [2, 6] rfl (kk _))
set_option maxRecDepth 100000 in
set_option maxHeartbeats 4000000 in
theorem lf_8_328 {p : Program} {l : Launch} {e : Env} {s : State} {m : MethodId} {args : Array Value} {below : List Frame} {meth : Method} {c : Code} {g : gx_T} {Q : State → Prop} {σ : sx_T} {b t bS : Nat} {xs : Nat → Int32} (hlt : l.stackTraces = false) (B : zx_B p s m args meth c code RL 8 g) (hX : va_X bS 6 xs s s.heap) (hbl : bS < s.heap.size) (hbA : ¬ gx_b g ≤ bS) (hF : fz_P b t σ) {x1 : Int32} (h_x1 : xs 1 = x1) (q1_x1 : (-2147483648 : Int) ≤ x1.toInt) (q2_x1 : x1.toInt ≤ (2147483647 : Int)) {x2 : Int32} (h_x2 : xs 2 = x2) (q1_x2 : (1000 : Int) ≤ x2.toInt) (q2_x2 : x2.toInt ≤ (2147483647 : Int)) (kk : ∀ σ', zx p l e room_1 s m args below meth c g 8 600002 7302232 Q σ' 1395 [(4, .int 0), (0, .ref bS)] []) : zx p l e room_1 s m args below meth c g 8 500 100000 Q σ 668 [(4, .int 0), (3, .ref (b + 431)), (2, .ref (b + 405)), (1, .ref (b + 0)), (0, .ref bS)] [] := by
  have hK := fz_lay hF
  refine z_eqs (σ' := (ap b σ [] [] [])) rfl ?_
  refine z_aload_n B dL_law_668 rfl 3 rfl ?_
  refine z_aload_n B dL_law_669 rfl 4 rfl ?_
  refine z_iload B dL_law_670 0 rfl ?_
  refine z_iconst (v := 1) B dL_law_672 (by decide) ?_
  refine z_iadd B dL_law_673 ?_
  refine z_seti (y := 1) (by decide) ?_
  refine z_sld (j := 1) (x := x1) B hX hbl hbA (by decide) (show ¬ ((1 : Int32) < 0 ∨ 6 ≤ (1 : Int32).toNatClampNeg) by decide) h_x1 dL_law_674 ?_
  refine z_aload_n B dL_law_675 rfl 4 rfl ?_
  refine z_iload B dL_law_676 0 rfl ?_
  refine z_iconst (v := 2) B dL_law_678 (by decide) ?_
  refine z_iadd B dL_law_679 ?_
  refine z_seti (y := 2) (by decide) ?_
  refine z_sld (j := 2) (x := x2) B hX hbl hbA (by decide) (show ¬ ((2 : Int32) < 0 ∨ 6 ≤ (2 : Int32).toNatClampNeg) by decide) h_x2 dL_law_680 ?_
  refine z_aload_n B dL_law_681 rfl 1 rfl ?_
  refine z_cSWi (As := [.ref (b + 0), .int x1, .int x2, .ref (b + 431)]) (rest := []) B cw_L_110 dL_law_682 (ci_L_complete_909 l hlt (σ := (ap b σ [] [] [])) (b := b) (lyA hK) x1 x2 q1_x2 q2_x2) rfl (by decide) rfl (Nat.le_of_ble_eq_true rfl) (by decide) (fun r u hu => ?_)
  obtain ⟨hu1, z, hu⟩ := hu
  refine z_eqs (σ' := (ap b (wx_Z σ z) [] [] [])) (hu.trans az_ap) ?_
  show zx p l e _ s m _ below meth c g 8 _ _ _ _ 685 [(4, .int 0), (3, .ref (b + 431)), (2, .ref (b + 405)), (1, .ref (b + 0)), (0, .ref bS)] _
  refine z_seti (y := 1) hu1 ?_
  refine z_istore (lv' := [(5, .int 1), (4, .int 0), (3, .ref (b + 431)), (2, .ref (b + 405)), (1, .ref (b + 0)), (0, .ref bS)]) B dL_law_685 (by decide) rfl ?_
  refine z_aload_n B dL_law_687 rfl 3 rfl ?_
  refine z_aload_n B dL_law_688 rfl 5 rfl ?_
  refine z_iload B dL_law_689 1 rfl ?_
  refine z_iconst (v := 1) B dL_law_691 (by decide) ?_
  refine z_iadd B dL_law_692 ?_
  refine z_seti (y := 1) (by decide) ?_
  refine z_sld (j := 1) (x := x1) B hX hbl hbA (by decide) (show ¬ ((1 : Int32) < 0 ∨ 6 ≤ (1 : Int32).toNatClampNeg) by decide) h_x1 dL_law_693 ?_
  refine z_aload_n B dL_law_694 rfl 5 rfl ?_
  refine z_iload B dL_law_695 1 rfl ?_
  refine z_iconst (v := 2) B dL_law_697 (by decide) ?_
  refine z_iadd B dL_law_698 ?_
  refine z_seti (y := 2) (by decide) ?_
  refine z_sld (j := 2) (x := x2) B hX hbl hbA (by decide) (show ¬ ((2 : Int32) < 0 ∨ 6 ≤ (2 : Int32).toNatClampNeg) by decide) h_x2 dL_law_699 ?_
  refine z_cVi (As := [.int x1, .int x2]) (rest := []) B cw_L_112 cx_10 dL_law_700 (ci_X9_complete_910 l (σ := (ap b (wx_Z σ z) [] [] [])) (b := b) (lyA (lyZ hK)) x1 x2 q1_x2 q2_x2) (lKA (lKZ (hk_K hK 405 rfl rfl))) rfl (by decide) rfl (Nat.le_of_ble_eq_true rfl) (by decide) (fun r u hu => ?_)
  refine z_eqs (σ' := (ap b (wx_Z σ z) [(405, 0, 1)] [] [])) (hu.2.trans ap_ap) ?_
  show zx p l e _ s m _ below meth c g 8 _ _ _ _ 703 [(5, .int 1), (4, .int 0), (3, .ref (b + 431)), (2, .ref (b + 405)), (1, .ref (b + 0)), (0, .ref bS)] _
  refine z_seti (y := 0) hu.1 ?_
  refine z_istore (lv' := [(6, .int 0), (5, .int 1), (4, .int 0), (3, .ref (b + 431)), (2, .ref (b + 405)), (1, .ref (b + 0)), (0, .ref bS)]) B dL_law_703 (by decide) rfl ?_
  refine z_aload_n B dL_law_705 rfl 4 rfl ?_
  refine z_cVi (As := []) (rest := []) B cw_L_80 cx_10 dL_law_706 (ci_X9_thrown_31 l (σ := (ap b (wx_Z σ z) [(405, 0, 1)] [] [])) (b := b) (lyA (lyZ hK)) (rI_at 405 0 rfl)) (lKA (lKZ (hk_K hK 405 rfl rfl))) rfl (by decide) rfl (Nat.le_of_ble_eq_true rfl) (by decide) (fun r u hu => ?_)
  refine z_eqs (σ' := (ap b (wx_Z σ z) [(405, 0, 1)] [] [])) hu.2 ?_
  show zx p l e _ s m _ below meth c g 8 _ _ _ _ 709 [(6, .int 0), (5, .int 1), (4, .int 0), (3, .ref (b + 431)), (2, .ref (b + 405)), (1, .ref (b + 0)), (0, .ref bS)] _
  refine z_seti (y := 1) hu.1 ?_
  refine z_iload B dL_law_709 1 rfl ?_
  refine z_icmp_eq (tgt := 716) B dL_law_711 (by decide) (fun _ => ?_) (fun h => absurd (by decide) h)
  refine z_iload B dL_law_716 1 rfl ?_
  refine z_if_ne (tgt := 740) B dL_law_718 (by decide) (fun _ => ?_) (fun h => absurd h (by decide))
  refine z_goto (tgt := 1395) B dL_law_740 (by decide) ?_
  exact z_widen (Nat.le_of_ble_eq_true rfl) (Nat.le_of_ble_eq_true rfl) (z_sub _ [2, 6] rfl (kk _))
set_option maxRecDepth 100000 in
set_option maxHeartbeats 4000000 in
theorem lf_9_329 {p : Program} {l : Launch} {e : Env} {s : State} {m : MethodId} {args : Array Value} {below : List Frame} {meth : Method} {c : Code} {g : gx_T} {Q : State → Prop} {σ : sx_T} {b t bS : Nat} {xs : Nat → Int32} (hlt : l.stackTraces = false) (B : zx_B p s m args meth c code RL 8 g) (hX : va_X bS 6 xs s s.heap) (hbl : bS < s.heap.size) (hbA : ¬ gx_b g ≤ bS) (hF : fz_P b t σ) {x1 : Int32} (h_x1 : xs 1 = x1) (q1_x1 : (-2147483648 : Int) ≤ x1.toInt) (q2_x1 : x1.toInt ≤ (2147483647 : Int)) (kk : ∀ σ', zx p l e room_1 s m args below meth c g 8 600002 7302232 Q σ' 1395 [(4, .int 0), (0, .ref bS)] []) : zx p l e room_1 s m args below meth c g 8 500 100000 Q σ 743 [(4, .int 0), (3, .ref (b + 431)), (2, .ref (b + 405)), (1, .ref (b + 0)), (0, .ref bS)] [] := by
  have hK := fz_lay hF
  refine z_eqs (σ' := (ap b σ [] [] [])) rfl ?_
  refine z_aload_n B dL_law_743 rfl 3 rfl ?_
  refine z_aload_n B dL_law_744 rfl 4 rfl ?_
  refine z_iload B dL_law_745 0 rfl ?_
  refine z_iconst (v := 1) B dL_law_747 (by decide) ?_
  refine z_iadd B dL_law_748 ?_
  refine z_seti (y := 1) (by decide) ?_
  refine z_sld (j := 1) (x := x1) B hX hbl hbA (by decide) (show ¬ ((1 : Int32) < 0 ∨ 6 ≤ (1 : Int32).toNatClampNeg) by decide) h_x1 dL_law_749 ?_
  refine z_cVi (As := [.int x1]) (rest := []) B cw_L_113 cx_9 dL_law_750 (ci_X8_fail_911 l (σ := (ap b σ [] [] [])) (b := b) (lyA hK) x1 (rI_at 0 7 (fz_I hF 0 7 rfl rfl))) (lKA (hk_K hK 0 rfl rfl)) rfl (by decide) rfl (Nat.le_of_ble_eq_true rfl) (by decide) (fun r u hu => ?_)
  refine z_eqs (σ' := (ap b σ [] [] [])) hu.2 ?_
  show zx p l e _ s m _ below meth c g 8 _ _ _ _ 753 [(4, .int 0), (3, .ref (b + 431)), (2, .ref (b + 405)), (1, .ref (b + 0)), (0, .ref bS)] _
  refine z_seti (y := 0) hu.1 ?_
  refine z_aload_n B dL_law_753 rfl 2 rfl ?_
  refine z_aload_n B dL_law_754 rfl 4 rfl ?_
  refine z_iload B dL_law_755 0 rfl ?_
  refine z_iconst (v := 1) B dL_law_757 (by decide) ?_
  refine z_iadd B dL_law_758 ?_
  refine z_seti (y := 1) (by decide) ?_
  refine z_sld (j := 1) (x := x1) B hX hbl hbA (by decide) (show ¬ ((1 : Int32) < 0 ∨ 6 ≤ (1 : Int32).toNatClampNeg) by decide) h_x1 dL_law_759 ?_
  refine z_cVi (As := [.int x1]) (rest := [.int 0]) B cw_L_116 cx_10 dL_law_760 (ci_X9_fail_912 l (σ := (ap b σ [] [] [])) (b := b) (lyA hK) x1 (rI_at 405 16 (fz_I hF 405 16 rfl rfl))) (lKA (hk_K hK 405 rfl rfl)) rfl (by decide) rfl (Nat.le_of_ble_eq_true rfl) (by decide) (fun r u hu => ?_)
  refine z_eqs (σ' := (ap b σ [(405, 0, 0)] [] [])) (hu.2.trans ap_ap) ?_
  show zx p l e _ s m _ below meth c g 8 _ _ _ _ 763 [(4, .int 0), (3, .ref (b + 431)), (2, .ref (b + 405)), (1, .ref (b + 0)), (0, .ref bS)] _
  refine z_seti (y := 0) hu.1 ?_
  refine z_icmp_eq (tgt := 1395) B dL_law_763 (by decide) (fun _ => ?_) (fun h => absurd (by decide) h)
  exact z_widen (Nat.le_of_ble_eq_true rfl) (Nat.le_of_ble_eq_true rfl) (z_sub _ [0, 4] rfl (kk _))
set_option maxRecDepth 100000 in
set_option maxHeartbeats 4000000 in
theorem lf_10_330 {p : Program} {l : Launch} {e : Env} {s : State} {m : MethodId} {args : Array Value} {below : List Frame} {meth : Method} {c : Code} {g : gx_T} {Q : State → Prop} {σ : sx_T} {b t bS : Nat} {xs : Nat → Int32} (hlt : l.stackTraces = false) (B : zx_B p s m args meth c code RL 8 g) (hX : va_X bS 6 xs s s.heap) (hbl : bS < s.heap.size) (hbA : ¬ gx_b g ≤ bS) (hF : fz_P b t σ) {x1 : Int32} (h_x1 : xs 1 = x1) (q1_x1 : (-2147483648 : Int) ≤ x1.toInt) (q2_x1 : x1.toInt ≤ (2147483647 : Int)) (kk : ∀ σ', zx p l e room_1 s m args below meth c g 8 600002 7302232 Q σ' 1395 [(4, .int 0), (0, .ref bS)] []) : zx p l e room_1 s m args below meth c g 8 500 100000 Q σ 768 [(4, .int 0), (3, .ref (b + 431)), (2, .ref (b + 405)), (1, .ref (b + 0)), (0, .ref bS)] [] := by
  have hK := fz_lay hF
  refine z_eqs (σ' := (ap b σ [] [] [])) rfl ?_
  refine z_aload_n B dL_law_768 rfl 3 rfl ?_
  refine z_aload_n B dL_law_769 rfl 4 rfl ?_
  refine z_iload B dL_law_770 0 rfl ?_
  refine z_iconst (v := 1) B dL_law_772 (by decide) ?_
  refine z_iadd B dL_law_773 ?_
  refine z_seti (y := 1) (by decide) ?_
  refine z_sld (j := 1) (x := x1) B hX hbl hbA (by decide) (show ¬ ((1 : Int32) < 0 ∨ 6 ≤ (1 : Int32).toNatClampNeg) by decide) h_x1 dL_law_774 ?_
  refine z_cVi (As := [.int x1]) (rest := []) B cw_L_117 cx_9 dL_law_775 (ci_X8_beat_913 l (σ := (ap b σ [] [] [])) (b := b) (lyA hK) x1 (rI_at 0 7 (fz_I hF 0 7 rfl rfl))) (lKA (hk_K hK 0 rfl rfl)) rfl (by decide) rfl (Nat.le_of_ble_eq_true rfl) (by decide) (fun r u hu => ?_)
  refine z_eqs (σ' := (ap b σ [] [] [])) hu.2 ?_
  show zx p l e _ s m _ below meth c g 8 _ _ _ _ 778 [(4, .int 0), (3, .ref (b + 431)), (2, .ref (b + 405)), (1, .ref (b + 0)), (0, .ref bS)] _
  refine z_seti (y := 0) hu.1 ?_
  refine z_aload_n B dL_law_778 rfl 2 rfl ?_
  refine z_aload_n B dL_law_779 rfl 4 rfl ?_
  refine z_iload B dL_law_780 0 rfl ?_
  refine z_iconst (v := 1) B dL_law_782 (by decide) ?_
  refine z_iadd B dL_law_783 ?_
  refine z_seti (y := 1) (by decide) ?_
  refine z_sld (j := 1) (x := x1) B hX hbl hbA (by decide) (show ¬ ((1 : Int32) < 0 ∨ 6 ≤ (1 : Int32).toNatClampNeg) by decide) h_x1 dL_law_784 ?_
  refine z_cVi (As := [.int x1]) (rest := [.int 0]) B cw_L_120 cx_10 dL_law_785 (ci_X9_beat_914 l (σ := (ap b σ [] [] [])) (b := b) (lyA hK) x1 (rI_at 405 16 (fz_I hF 405 16 rfl rfl))) (lKA (hk_K hK 405 rfl rfl)) rfl (by decide) rfl (Nat.le_of_ble_eq_true rfl) (by decide) (fun r u hu => ?_)
  refine z_eqs (σ' := (ap b σ [(405, 0, 0)] [] [])) (hu.2.trans ap_ap) ?_
  show zx p l e _ s m _ below meth c g 8 _ _ _ _ 788 [(4, .int 0), (3, .ref (b + 431)), (2, .ref (b + 405)), (1, .ref (b + 0)), (0, .ref bS)] _
  refine z_seti (y := 0) hu.1 ?_
  refine z_icmp_eq (tgt := 1395) B dL_law_788 (by decide) (fun _ => ?_) (fun h => absurd (by decide) h)
  exact z_widen (Nat.le_of_ble_eq_true rfl) (Nat.le_of_ble_eq_true rfl) (z_sub _ [0, 4] rfl (kk _))
set_option maxRecDepth 100000 in
set_option maxHeartbeats 4000000 in
theorem lf_11_331 {p : Program} {l : Launch} {e : Env} {s : State} {m : MethodId} {args : Array Value} {below : List Frame} {meth : Method} {c : Code} {g : gx_T} {Q : State → Prop} {σ : sx_T} {b t bS : Nat} {xs : Nat → Int32} (hlt : l.stackTraces = false) (B : zx_B p s m args meth c code RL 8 g) (hX : va_X bS 6 xs s s.heap) (hbl : bS < s.heap.size) (hbA : ¬ gx_b g ≤ bS) (hF : fz_P b t σ) {x1 : Int32} (h_x1 : xs 1 = x1) (q1_x1 : (-2147483648 : Int) ≤ x1.toInt) (q2_x1 : x1.toInt ≤ (0 : Int)) (kk : ∀ σ', zx p l e room_1 s m args below meth c g 8 600002 7302232 Q σ' 1395 [(4, .int 0), (0, .ref bS)] []) : zx p l e room_1 s m args below meth c g 8 500 100000 Q σ 793 [(4, .int 0), (3, .ref (b + 431)), (2, .ref (b + 405)), (1, .ref (b + 0)), (0, .ref bS)] [] := by
  have hK := fz_lay hF
  refine z_eqs (σ' := (ap b σ [] [] [])) rfl ?_
  refine z_aload_n B dL_law_793 rfl 3 rfl ?_
  refine z_aload_n B dL_law_794 rfl 4 rfl ?_
  refine z_iload B dL_law_795 0 rfl ?_
  refine z_iconst (v := 1) B dL_law_797 (by decide) ?_
  refine z_iadd B dL_law_798 ?_
  refine z_seti (y := 1) (by decide) ?_
  refine z_sld (j := 1) (x := x1) B hX hbl hbA (by decide) (show ¬ ((1 : Int32) < 0 ∨ 6 ≤ (1 : Int32).toNatClampNeg) by decide) h_x1 dL_law_799 ?_
  refine z_aload_n B dL_law_800 rfl 1 rfl ?_
  refine z_cSWi (As := [.ref (b + 0), .int x1, .ref (b + 431)]) (rest := []) B cw_L_121 dL_law_801 (ci_L_tick_916 l hlt (σ := (ap b σ [] [] [])) (b := b) (lyA hK) x1 q1_x1 q2_x1) rfl (by decide) rfl (Nat.le_of_ble_eq_true rfl) (by decide) (fun r u hu => ?_)
  obtain ⟨hu1, z, hu⟩ := hu
  refine z_eqs (σ' := (ap b (wx_Z σ z) [] [] [])) (hu.trans az_ap) ?_
  show zx p l e _ s m _ below meth c g 8 _ _ _ _ 804 [(4, .int 0), (3, .ref (b + 431)), (2, .ref (b + 405)), (1, .ref (b + 0)), (0, .ref bS)] _
  refine z_seti (y := 1) hu1 ?_
  refine z_istore (lv' := [(5, .int 1), (4, .int 0), (3, .ref (b + 431)), (2, .ref (b + 405)), (1, .ref (b + 0)), (0, .ref bS)]) B dL_law_804 (by decide) rfl ?_
  refine z_aload_n B dL_law_806 rfl 3 rfl ?_
  refine z_aload_n B dL_law_807 rfl 5 rfl ?_
  refine z_iload B dL_law_808 1 rfl ?_
  refine z_iconst (v := 1) B dL_law_810 (by decide) ?_
  refine z_iadd B dL_law_811 ?_
  refine z_seti (y := 1) (by decide) ?_
  refine z_sld (j := 1) (x := x1) B hX hbl hbA (by decide) (show ¬ ((1 : Int32) < 0 ∨ 6 ≤ (1 : Int32).toNatClampNeg) by decide) h_x1 dL_law_812 ?_
  refine z_cVi (As := [.int x1]) (rest := []) B cw_L_123 cx_10 dL_law_813 (ci_X9_tick_918 l (σ := (ap b (wx_Z σ z) [] [] [])) (b := b) (lyA (lyZ hK)) x1 q1_x1 q2_x1) (lKA (lKZ (hk_K hK 405 rfl rfl))) rfl (by decide) rfl (Nat.le_of_ble_eq_true rfl) (by decide) (fun r u hu => ?_)
  refine z_eqs (σ' := (ap b (wx_Z σ z) [(405, 0, 1)] [] [])) (hu.2.trans ap_ap) ?_
  show zx p l e _ s m _ below meth c g 8 _ _ _ _ 816 [(5, .int 1), (4, .int 0), (3, .ref (b + 431)), (2, .ref (b + 405)), (1, .ref (b + 0)), (0, .ref bS)] _
  refine z_seti (y := 0) hu.1 ?_
  refine z_istore (lv' := [(6, .int 0), (5, .int 1), (4, .int 0), (3, .ref (b + 431)), (2, .ref (b + 405)), (1, .ref (b + 0)), (0, .ref bS)]) B dL_law_816 (by decide) rfl ?_
  refine z_aload_n B dL_law_818 rfl 4 rfl ?_
  refine z_cVi (As := []) (rest := []) B cw_L_80 cx_10 dL_law_819 (ci_X9_thrown_31 l (σ := (ap b (wx_Z σ z) [(405, 0, 1)] [] [])) (b := b) (lyA (lyZ hK)) (rI_at 405 0 rfl)) (lKA (lKZ (hk_K hK 405 rfl rfl))) rfl (by decide) rfl (Nat.le_of_ble_eq_true rfl) (by decide) (fun r u hu => ?_)
  refine z_eqs (σ' := (ap b (wx_Z σ z) [(405, 0, 1)] [] [])) hu.2 ?_
  show zx p l e _ s m _ below meth c g 8 _ _ _ _ 822 [(6, .int 0), (5, .int 1), (4, .int 0), (3, .ref (b + 431)), (2, .ref (b + 405)), (1, .ref (b + 0)), (0, .ref bS)] _
  refine z_seti (y := 1) hu.1 ?_
  refine z_iload B dL_law_822 1 rfl ?_
  refine z_icmp_eq (tgt := 829) B dL_law_824 (by decide) (fun _ => ?_) (fun h => absurd (by decide) h)
  refine z_iload B dL_law_829 1 rfl ?_
  refine z_if_ne (tgt := 846) B dL_law_831 (by decide) (fun _ => ?_) (fun h => absurd h (by decide))
  refine z_goto (tgt := 1395) B dL_law_846 (by decide) ?_
  exact z_widen (Nat.le_of_ble_eq_true rfl) (Nat.le_of_ble_eq_true rfl) (z_sub _ [2, 6] rfl (kk _))
set_option maxRecDepth 100000 in
set_option maxHeartbeats 4000000 in
theorem lf_11_332 {p : Program} {l : Launch} {e : Env} {s : State} {m : MethodId} {args : Array Value} {below : List Frame} {meth : Method} {c : Code} {g : gx_T} {Q : State → Prop} {σ : sx_T} {b t bS : Nat} {xs : Nat → Int32} (hlt : l.stackTraces = false) (B : zx_B p s m args meth c code RL 8 g) (hX : va_X bS 6 xs s s.heap) (hbl : bS < s.heap.size) (hbA : ¬ gx_b g ≤ bS) (hF : fz_P b t σ) (h_x1 : xs 1 = 1) (kk : ∀ σ', zx p l e room_1 s m args below meth c g 8 600002 7302232 Q σ' 1395 [(4, .int 0), (0, .ref bS)] []) : zx p l e room_1 s m args below meth c g 8 500 100000 Q σ 793 [(4, .int 0), (3, .ref (b + 431)), (2, .ref (b + 405)), (1, .ref (b + 0)), (0, .ref bS)] [] := by
  have hK := fz_lay hF
  refine z_eqs (σ' := (ap b σ [] [] [])) rfl ?_
  refine z_aload_n B dL_law_793 rfl 3 rfl ?_
  refine z_aload_n B dL_law_794 rfl 4 rfl ?_
  refine z_iload B dL_law_795 0 rfl ?_
  refine z_iconst (v := 1) B dL_law_797 (by decide) ?_
  refine z_iadd B dL_law_798 ?_
  refine z_seti (y := 1) (by decide) ?_
  refine z_sld (j := 1) (x := 1) B hX hbl hbA (by decide) (show ¬ ((1 : Int32) < 0 ∨ 6 ≤ (1 : Int32).toNatClampNeg) by decide) h_x1 dL_law_799 ?_
  refine z_aload_n B dL_law_800 rfl 1 rfl ?_
  refine z_cSWi (As := [.ref (b + 0), .int 1, .ref (b + 431)]) (rest := []) B cw_L_121 dL_law_801 (ci_L_tick_923 l (σ := (ap b σ [] [] [])) (b := b) (lyA hK) (rI_at 0 7 (fz_I hF 0 7 rfl rfl)) (rI_at 0 8 (fz_I hF 0 8 rfl rfl)) (rI_at 4 2 (fz_I hF 4 2 rfl rfl)) (rR_at 0 3 (fz_R hF 0 3 rfl rfl))) rfl (by decide) rfl (Nat.le_of_ble_eq_true rfl) (by decide) (fun r u hu => ?_)
  refine z_eqs (σ' := (ap b σ [(0, 8, 1)] [(431, 0, 1)] [])) (hu.2.trans ap_ap) ?_
  show zx p l e _ s m _ below meth c g 8 _ _ _ _ 804 [(4, .int 0), (3, .ref (b + 431)), (2, .ref (b + 405)), (1, .ref (b + 0)), (0, .ref bS)] _
  refine z_seti (y := 0) hu.1 ?_
  refine z_istore (lv' := [(5, .int 0), (4, .int 0), (3, .ref (b + 431)), (2, .ref (b + 405)), (1, .ref (b + 0)), (0, .ref bS)]) B dL_law_804 (by decide) rfl ?_
  refine z_aload_n B dL_law_806 rfl 3 rfl ?_
  refine z_aload_n B dL_law_807 rfl 5 rfl ?_
  refine z_iload B dL_law_808 1 rfl ?_
  refine z_iconst (v := 1) B dL_law_810 (by decide) ?_
  refine z_iadd B dL_law_811 ?_
  refine z_seti (y := 1) (by decide) ?_
  refine z_sld (j := 1) (x := 1) B hX hbl hbA (by decide) (show ¬ ((1 : Int32) < 0 ∨ 6 ≤ (1 : Int32).toNatClampNeg) by decide) h_x1 dL_law_812 ?_
  refine z_cVi (As := [.int 1]) (rest := []) B cw_L_123 cx_10 dL_law_813 (ci_X9_tick_926 l (σ := (ap b σ [(0, 8, 1)] [(431, 0, 1)] [])) (b := b) (lyA hK) (rI_at 405 1 (fz_I hF 405 1 rfl rfl)) (rI_at 405 6 (fz_I hF 405 6 rfl rfl)) (rI_at 405 16 (fz_I hF 405 16 rfl rfl))) (lKA (hk_K hK 405 rfl rfl)) rfl (by decide) rfl (Nat.le_of_ble_eq_true rfl) (by decide) (fun r u hu => ?_)
  refine z_eqs (σ' := (ap b σ [(405, 1, 1), (405, 0, 0), (0, 8, 1)] [(431, 0, 1)] [])) (hu.2.trans ap_ap) ?_
  show zx p l e _ s m _ below meth c g 8 _ _ _ _ 816 [(5, .int 0), (4, .int 0), (3, .ref (b + 431)), (2, .ref (b + 405)), (1, .ref (b + 0)), (0, .ref bS)] _
  refine z_seti (y := 1) hu.1 ?_
  refine z_istore (lv' := [(6, .int 1), (5, .int 0), (4, .int 0), (3, .ref (b + 431)), (2, .ref (b + 405)), (1, .ref (b + 0)), (0, .ref bS)]) B dL_law_816 (by decide) rfl ?_
  refine z_aload_n B dL_law_818 rfl 4 rfl ?_
  refine z_cVi (As := []) (rest := []) B cw_L_80 cx_10 dL_law_819 (ci_X9_thrown_95 l (σ := (ap b σ [(405, 1, 1), (405, 0, 0), (0, 8, 1)] [(431, 0, 1)] [])) (b := b) (lyA hK) (rI_at 405 0 rfl)) (lKA (hk_K hK 405 rfl rfl)) rfl (by decide) rfl (Nat.le_of_ble_eq_true rfl) (by decide) (fun r u hu => ?_)
  refine z_eqs (σ' := (ap b σ [(405, 1, 1), (405, 0, 0), (0, 8, 1)] [(431, 0, 1)] [])) hu.2 ?_
  show zx p l e _ s m _ below meth c g 8 _ _ _ _ 822 [(6, .int 1), (5, .int 0), (4, .int 0), (3, .ref (b + 431)), (2, .ref (b + 405)), (1, .ref (b + 0)), (0, .ref bS)] _
  refine z_seti (y := 0) hu.1 ?_
  refine z_iload B dL_law_822 1 rfl ?_
  refine z_icmp_eq (tgt := 829) B dL_law_824 (by decide) (fun _ => ?_) (fun h => absurd (by decide) h)
  refine z_iload B dL_law_829 1 rfl ?_
  refine z_if_ne (tgt := 846) B dL_law_831 (by decide) (fun h => absurd (by decide) h) (fun _ => ?_)
  refine z_aload_n B dL_law_834 rfl 3 rfl ?_
  refine z_iconst (v := 0) B dL_law_835 (by decide) ?_
  refine z_lald (j := 0) (x := 1) B (lKA (hk_K hK 431 rfl rfl)) (by decide) (in_of (lNA (hk_N hK 431 rfl rfl)) (show ¬ ((0 : Int32) < 0 ∨ 1 ≤ (0 : Int32).toNatClampNeg) by decide)) (rJ_at 431 0 rfl) dL_law_836 ?_
  refine z_iload B dL_law_837 0 rfl ?_
  refine z_i2l (v := 1) B dL_law_839 (by decide) ?_
  refine z_lcmp (v := 0) B dL_law_840 (by decide) ?_
  refine z_if_eq (tgt := 846) B dL_law_841 (by decide) (fun _ => ?_) (fun h => absurd (by decide) h)
  refine z_goto (tgt := 1395) B dL_law_846 (by decide) ?_
  exact z_widen (Nat.le_of_ble_eq_true rfl) (Nat.le_of_ble_eq_true rfl) (z_sub _ [2, 6] rfl (kk _))
set_option maxRecDepth 100000 in
set_option maxHeartbeats 4000000 in
theorem lf_11_333 {p : Program} {l : Launch} {e : Env} {s : State} {m : MethodId} {args : Array Value} {below : List Frame} {meth : Method} {c : Code} {g : gx_T} {Q : State → Prop} {σ : sx_T} {b t bS : Nat} {xs : Nat → Int32} (hlt : l.stackTraces = false) (B : zx_B p s m args meth c code RL 8 g) (hX : va_X bS 6 xs s s.heap) (hbl : bS < s.heap.size) (hbA : ¬ gx_b g ≤ bS) (hF : fz_P b t σ) (h_x1 : xs 1 = 2) (kk : ∀ σ', zx p l e room_1 s m args below meth c g 8 600002 7302232 Q σ' 1395 [(4, .int 0), (0, .ref bS)] []) : zx p l e room_1 s m args below meth c g 8 500 100000 Q σ 793 [(4, .int 0), (3, .ref (b + 431)), (2, .ref (b + 405)), (1, .ref (b + 0)), (0, .ref bS)] [] := by
  have hK := fz_lay hF
  refine z_eqs (σ' := (ap b σ [] [] [])) rfl ?_
  refine z_aload_n B dL_law_793 rfl 3 rfl ?_
  refine z_aload_n B dL_law_794 rfl 4 rfl ?_
  refine z_iload B dL_law_795 0 rfl ?_
  refine z_iconst (v := 1) B dL_law_797 (by decide) ?_
  refine z_iadd B dL_law_798 ?_
  refine z_seti (y := 1) (by decide) ?_
  refine z_sld (j := 1) (x := 2) B hX hbl hbA (by decide) (show ¬ ((1 : Int32) < 0 ∨ 6 ≤ (1 : Int32).toNatClampNeg) by decide) h_x1 dL_law_799 ?_
  refine z_aload_n B dL_law_800 rfl 1 rfl ?_
  refine z_cSWi (As := [.ref (b + 0), .int 2, .ref (b + 431)]) (rest := []) B cw_L_121 dL_law_801 (ci_L_tick_928 l (σ := (ap b σ [] [] [])) (b := b) (lyA hK) (rI_at 0 7 (fz_I hF 0 7 rfl rfl)) (rI_at 0 8 (fz_I hF 0 8 rfl rfl)) (rI_at 4 2 (fz_I hF 4 2 rfl rfl)) (rR_at 0 3 (fz_R hF 0 3 rfl rfl))) rfl (by decide) rfl (Nat.le_of_ble_eq_true rfl) (by decide) (fun r u hu => ?_)
  refine z_eqs (σ' := (ap b σ [(0, 8, 2), (0, 8, 1)] [(431, 0, 2)] [])) (hu.2.trans ap_ap) ?_
  show zx p l e _ s m _ below meth c g 8 _ _ _ _ 804 [(4, .int 0), (3, .ref (b + 431)), (2, .ref (b + 405)), (1, .ref (b + 0)), (0, .ref bS)] _
  refine z_seti (y := 0) hu.1 ?_
  refine z_istore (lv' := [(5, .int 0), (4, .int 0), (3, .ref (b + 431)), (2, .ref (b + 405)), (1, .ref (b + 0)), (0, .ref bS)]) B dL_law_804 (by decide) rfl ?_
  refine z_aload_n B dL_law_806 rfl 3 rfl ?_
  refine z_aload_n B dL_law_807 rfl 5 rfl ?_
  refine z_iload B dL_law_808 1 rfl ?_
  refine z_iconst (v := 1) B dL_law_810 (by decide) ?_
  refine z_iadd B dL_law_811 ?_
  refine z_seti (y := 1) (by decide) ?_
  refine z_sld (j := 1) (x := 2) B hX hbl hbA (by decide) (show ¬ ((1 : Int32) < 0 ∨ 6 ≤ (1 : Int32).toNatClampNeg) by decide) h_x1 dL_law_812 ?_
  refine z_cVi (As := [.int 2]) (rest := []) B cw_L_123 cx_10 dL_law_813 (ci_X9_tick_931 l (σ := (ap b σ [(0, 8, 2), (0, 8, 1)] [(431, 0, 2)] [])) (b := b) (lyA hK) (rI_at 405 1 (fz_I hF 405 1 rfl rfl)) (rI_at 405 6 (fz_I hF 405 6 rfl rfl)) (rI_at 405 16 (fz_I hF 405 16 rfl rfl))) (lKA (hk_K hK 405 rfl rfl)) rfl (by decide) rfl (Nat.le_of_ble_eq_true rfl) (by decide) (fun r u hu => ?_)
  refine z_eqs (σ' := (ap b σ [(405, 1, 2), (405, 1, 1), (405, 0, 0), (0, 8, 2), (0, 8, 1)] [(431, 0, 2)] [])) (hu.2.trans ap_ap) ?_
  show zx p l e _ s m _ below meth c g 8 _ _ _ _ 816 [(5, .int 0), (4, .int 0), (3, .ref (b + 431)), (2, .ref (b + 405)), (1, .ref (b + 0)), (0, .ref bS)] _
  refine z_seti (y := 2) hu.1 ?_
  refine z_istore (lv' := [(6, .int 2), (5, .int 0), (4, .int 0), (3, .ref (b + 431)), (2, .ref (b + 405)), (1, .ref (b + 0)), (0, .ref bS)]) B dL_law_816 (by decide) rfl ?_
  refine z_aload_n B dL_law_818 rfl 4 rfl ?_
  refine z_cVi (As := []) (rest := []) B cw_L_80 cx_10 dL_law_819 (ci_X9_thrown_95 l (σ := (ap b σ [(405, 1, 2), (405, 1, 1), (405, 0, 0), (0, 8, 2), (0, 8, 1)] [(431, 0, 2)] [])) (b := b) (lyA hK) (rI_at 405 0 rfl)) (lKA (hk_K hK 405 rfl rfl)) rfl (by decide) rfl (Nat.le_of_ble_eq_true rfl) (by decide) (fun r u hu => ?_)
  refine z_eqs (σ' := (ap b σ [(405, 1, 2), (405, 1, 1), (405, 0, 0), (0, 8, 2), (0, 8, 1)] [(431, 0, 2)] [])) hu.2 ?_
  show zx p l e _ s m _ below meth c g 8 _ _ _ _ 822 [(6, .int 2), (5, .int 0), (4, .int 0), (3, .ref (b + 431)), (2, .ref (b + 405)), (1, .ref (b + 0)), (0, .ref bS)] _
  refine z_seti (y := 0) hu.1 ?_
  refine z_iload B dL_law_822 1 rfl ?_
  refine z_icmp_eq (tgt := 829) B dL_law_824 (by decide) (fun _ => ?_) (fun h => absurd (by decide) h)
  refine z_iload B dL_law_829 1 rfl ?_
  refine z_if_ne (tgt := 846) B dL_law_831 (by decide) (fun h => absurd (by decide) h) (fun _ => ?_)
  refine z_aload_n B dL_law_834 rfl 3 rfl ?_
  refine z_iconst (v := 0) B dL_law_835 (by decide) ?_
  refine z_lald (j := 0) (x := 2) B (lKA (hk_K hK 431 rfl rfl)) (by decide) (in_of (lNA (hk_N hK 431 rfl rfl)) (show ¬ ((0 : Int32) < 0 ∨ 1 ≤ (0 : Int32).toNatClampNeg) by decide)) (rJ_at 431 0 rfl) dL_law_836 ?_
  refine z_iload B dL_law_837 0 rfl ?_
  refine z_i2l (v := 2) B dL_law_839 (by decide) ?_
  refine z_lcmp (v := 0) B dL_law_840 (by decide) ?_
  refine z_if_eq (tgt := 846) B dL_law_841 (by decide) (fun _ => ?_) (fun h => absurd (by decide) h)
  refine z_goto (tgt := 1395) B dL_law_846 (by decide) ?_
  exact z_widen (Nat.le_of_ble_eq_true rfl) (Nat.le_of_ble_eq_true rfl) (z_sub _ [2, 6] rfl (kk _))
set_option maxRecDepth 100000 in
set_option maxHeartbeats 4000000 in
theorem lf_11_334 {p : Program} {l : Launch} {e : Env} {s : State} {m : MethodId} {args : Array Value} {below : List Frame} {meth : Method} {c : Code} {g : gx_T} {Q : State → Prop} {σ : sx_T} {b t bS : Nat} {xs : Nat → Int32} (hlt : l.stackTraces = false) (B : zx_B p s m args meth c code RL 8 g) (hX : va_X bS 6 xs s s.heap) (hbl : bS < s.heap.size) (hbA : ¬ gx_b g ≤ bS) (hF : fz_P b t σ) (h_x1 : xs 1 = 3) (kk : ∀ σ', zx p l e room_1 s m args below meth c g 8 600002 7302232 Q σ' 1395 [(4, .int 0), (0, .ref bS)] []) : zx p l e room_1 s m args below meth c g 8 500 100000 Q σ 793 [(4, .int 0), (3, .ref (b + 431)), (2, .ref (b + 405)), (1, .ref (b + 0)), (0, .ref bS)] [] := by
  have hK := fz_lay hF
  refine z_eqs (σ' := (ap b σ [] [] [])) rfl ?_
  refine z_aload_n B dL_law_793 rfl 3 rfl ?_
  refine z_aload_n B dL_law_794 rfl 4 rfl ?_
  refine z_iload B dL_law_795 0 rfl ?_
  refine z_iconst (v := 1) B dL_law_797 (by decide) ?_
  refine z_iadd B dL_law_798 ?_
  refine z_seti (y := 1) (by decide) ?_
  refine z_sld (j := 1) (x := 3) B hX hbl hbA (by decide) (show ¬ ((1 : Int32) < 0 ∨ 6 ≤ (1 : Int32).toNatClampNeg) by decide) h_x1 dL_law_799 ?_
  refine z_aload_n B dL_law_800 rfl 1 rfl ?_
  refine z_cSWi (As := [.ref (b + 0), .int 3, .ref (b + 431)]) (rest := []) B cw_L_121 dL_law_801 (ci_L_tick_933 l (σ := (ap b σ [] [] [])) (b := b) (lyA hK) (rI_at 0 7 (fz_I hF 0 7 rfl rfl)) (rI_at 0 8 (fz_I hF 0 8 rfl rfl)) (rI_at 4 2 (fz_I hF 4 2 rfl rfl)) (rR_at 0 3 (fz_R hF 0 3 rfl rfl))) rfl (by decide) rfl (Nat.le_of_ble_eq_true rfl) (by decide) (fun r u hu => ?_)
  refine z_eqs (σ' := (ap b σ [(0, 8, 3), (0, 8, 2), (0, 8, 1)] [(431, 0, 3)] [])) (hu.2.trans ap_ap) ?_
  show zx p l e _ s m _ below meth c g 8 _ _ _ _ 804 [(4, .int 0), (3, .ref (b + 431)), (2, .ref (b + 405)), (1, .ref (b + 0)), (0, .ref bS)] _
  refine z_seti (y := 0) hu.1 ?_
  refine z_istore (lv' := [(5, .int 0), (4, .int 0), (3, .ref (b + 431)), (2, .ref (b + 405)), (1, .ref (b + 0)), (0, .ref bS)]) B dL_law_804 (by decide) rfl ?_
  refine z_aload_n B dL_law_806 rfl 3 rfl ?_
  refine z_aload_n B dL_law_807 rfl 5 rfl ?_
  refine z_iload B dL_law_808 1 rfl ?_
  refine z_iconst (v := 1) B dL_law_810 (by decide) ?_
  refine z_iadd B dL_law_811 ?_
  refine z_seti (y := 1) (by decide) ?_
  refine z_sld (j := 1) (x := 3) B hX hbl hbA (by decide) (show ¬ ((1 : Int32) < 0 ∨ 6 ≤ (1 : Int32).toNatClampNeg) by decide) h_x1 dL_law_812 ?_
  refine z_cVi (As := [.int 3]) (rest := []) B cw_L_123 cx_10 dL_law_813 (ci_X9_tick_936 l (σ := (ap b σ [(0, 8, 3), (0, 8, 2), (0, 8, 1)] [(431, 0, 3)] [])) (b := b) (lyA hK) (rI_at 405 1 (fz_I hF 405 1 rfl rfl)) (rI_at 405 6 (fz_I hF 405 6 rfl rfl)) (rI_at 405 16 (fz_I hF 405 16 rfl rfl))) (lKA (hk_K hK 405 rfl rfl)) rfl (by decide) rfl (Nat.le_of_ble_eq_true rfl) (by decide) (fun r u hu => ?_)
  refine z_eqs (σ' := (ap b σ [(405, 1, 3), (405, 1, 2), (405, 1, 1), (405, 0, 0), (0, 8, 3), (0, 8, 2), (0, 8, 1)] [(431, 0, 3)] [])) (hu.2.trans ap_ap) ?_
  show zx p l e _ s m _ below meth c g 8 _ _ _ _ 816 [(5, .int 0), (4, .int 0), (3, .ref (b + 431)), (2, .ref (b + 405)), (1, .ref (b + 0)), (0, .ref bS)] _
  refine z_seti (y := 3) hu.1 ?_
  refine z_istore (lv' := [(6, .int 3), (5, .int 0), (4, .int 0), (3, .ref (b + 431)), (2, .ref (b + 405)), (1, .ref (b + 0)), (0, .ref bS)]) B dL_law_816 (by decide) rfl ?_
  refine z_aload_n B dL_law_818 rfl 4 rfl ?_
  refine z_cVi (As := []) (rest := []) B cw_L_80 cx_10 dL_law_819 (ci_X9_thrown_95 l (σ := (ap b σ [(405, 1, 3), (405, 1, 2), (405, 1, 1), (405, 0, 0), (0, 8, 3), (0, 8, 2), (0, 8, 1)] [(431, 0, 3)] [])) (b := b) (lyA hK) (rI_at 405 0 rfl)) (lKA (hk_K hK 405 rfl rfl)) rfl (by decide) rfl (Nat.le_of_ble_eq_true rfl) (by decide) (fun r u hu => ?_)
  refine z_eqs (σ' := (ap b σ [(405, 1, 3), (405, 1, 2), (405, 1, 1), (405, 0, 0), (0, 8, 3), (0, 8, 2), (0, 8, 1)] [(431, 0, 3)] [])) hu.2 ?_
  show zx p l e _ s m _ below meth c g 8 _ _ _ _ 822 [(6, .int 3), (5, .int 0), (4, .int 0), (3, .ref (b + 431)), (2, .ref (b + 405)), (1, .ref (b + 0)), (0, .ref bS)] _
  refine z_seti (y := 0) hu.1 ?_
  refine z_iload B dL_law_822 1 rfl ?_
  refine z_icmp_eq (tgt := 829) B dL_law_824 (by decide) (fun _ => ?_) (fun h => absurd (by decide) h)
  refine z_iload B dL_law_829 1 rfl ?_
  refine z_if_ne (tgt := 846) B dL_law_831 (by decide) (fun h => absurd (by decide) h) (fun _ => ?_)
  refine z_aload_n B dL_law_834 rfl 3 rfl ?_
  refine z_iconst (v := 0) B dL_law_835 (by decide) ?_
  refine z_lald (j := 0) (x := 3) B (lKA (hk_K hK 431 rfl rfl)) (by decide) (in_of (lNA (hk_N hK 431 rfl rfl)) (show ¬ ((0 : Int32) < 0 ∨ 1 ≤ (0 : Int32).toNatClampNeg) by decide)) (rJ_at 431 0 rfl) dL_law_836 ?_
  refine z_iload B dL_law_837 0 rfl ?_
  refine z_i2l (v := 3) B dL_law_839 (by decide) ?_
  refine z_lcmp (v := 0) B dL_law_840 (by decide) ?_
  refine z_if_eq (tgt := 846) B dL_law_841 (by decide) (fun _ => ?_) (fun h => absurd (by decide) h)
  refine z_goto (tgt := 1395) B dL_law_846 (by decide) ?_
  exact z_widen (Nat.le_of_ble_eq_true rfl) (Nat.le_of_ble_eq_true rfl) (z_sub _ [2, 6] rfl (kk _))
set_option maxRecDepth 100000 in
set_option maxHeartbeats 4000000 in
theorem lf_11_335 {p : Program} {l : Launch} {e : Env} {s : State} {m : MethodId} {args : Array Value} {below : List Frame} {meth : Method} {c : Code} {g : gx_T} {Q : State → Prop} {σ : sx_T} {b t bS : Nat} {xs : Nat → Int32} (hlt : l.stackTraces = false) (B : zx_B p s m args meth c code RL 8 g) (hX : va_X bS 6 xs s s.heap) (hbl : bS < s.heap.size) (hbA : ¬ gx_b g ≤ bS) (hF : fz_P b t σ) (h_x1 : xs 1 = 4) (kk : ∀ σ', zx p l e room_1 s m args below meth c g 8 600002 7302232 Q σ' 1395 [(4, .int 0), (0, .ref bS)] []) : zx p l e room_1 s m args below meth c g 8 500 100000 Q σ 793 [(4, .int 0), (3, .ref (b + 431)), (2, .ref (b + 405)), (1, .ref (b + 0)), (0, .ref bS)] [] := by
  have hK := fz_lay hF
  refine z_eqs (σ' := (ap b σ [] [] [])) rfl ?_
  refine z_aload_n B dL_law_793 rfl 3 rfl ?_
  refine z_aload_n B dL_law_794 rfl 4 rfl ?_
  refine z_iload B dL_law_795 0 rfl ?_
  refine z_iconst (v := 1) B dL_law_797 (by decide) ?_
  refine z_iadd B dL_law_798 ?_
  refine z_seti (y := 1) (by decide) ?_
  refine z_sld (j := 1) (x := 4) B hX hbl hbA (by decide) (show ¬ ((1 : Int32) < 0 ∨ 6 ≤ (1 : Int32).toNatClampNeg) by decide) h_x1 dL_law_799 ?_
  refine z_aload_n B dL_law_800 rfl 1 rfl ?_
  refine z_cSWi (As := [.ref (b + 0), .int 4, .ref (b + 431)]) (rest := []) B cw_L_121 dL_law_801 (ci_L_tick_938 l (σ := (ap b σ [] [] [])) (b := b) (lyA hK) (rI_at 0 7 (fz_I hF 0 7 rfl rfl)) (rI_at 0 8 (fz_I hF 0 8 rfl rfl)) (rI_at 4 2 (fz_I hF 4 2 rfl rfl)) (rR_at 0 3 (fz_R hF 0 3 rfl rfl))) rfl (by decide) rfl (Nat.le_of_ble_eq_true rfl) (by decide) (fun r u hu => ?_)
  refine z_eqs (σ' := (ap b σ [(0, 8, 4), (0, 8, 3), (0, 8, 2), (0, 8, 1)] [(431, 0, 4)] [])) (hu.2.trans ap_ap) ?_
  show zx p l e _ s m _ below meth c g 8 _ _ _ _ 804 [(4, .int 0), (3, .ref (b + 431)), (2, .ref (b + 405)), (1, .ref (b + 0)), (0, .ref bS)] _
  refine z_seti (y := 0) hu.1 ?_
  refine z_istore (lv' := [(5, .int 0), (4, .int 0), (3, .ref (b + 431)), (2, .ref (b + 405)), (1, .ref (b + 0)), (0, .ref bS)]) B dL_law_804 (by decide) rfl ?_
  refine z_aload_n B dL_law_806 rfl 3 rfl ?_
  refine z_aload_n B dL_law_807 rfl 5 rfl ?_
  refine z_iload B dL_law_808 1 rfl ?_
  refine z_iconst (v := 1) B dL_law_810 (by decide) ?_
  refine z_iadd B dL_law_811 ?_
  refine z_seti (y := 1) (by decide) ?_
  refine z_sld (j := 1) (x := 4) B hX hbl hbA (by decide) (show ¬ ((1 : Int32) < 0 ∨ 6 ≤ (1 : Int32).toNatClampNeg) by decide) h_x1 dL_law_812 ?_
  refine z_cVi (As := [.int 4]) (rest := []) B cw_L_123 cx_10 dL_law_813 (ci_X9_tick_941 l (σ := (ap b σ [(0, 8, 4), (0, 8, 3), (0, 8, 2), (0, 8, 1)] [(431, 0, 4)] [])) (b := b) (lyA hK) (rI_at 405 1 (fz_I hF 405 1 rfl rfl)) (rI_at 405 6 (fz_I hF 405 6 rfl rfl)) (rI_at 405 16 (fz_I hF 405 16 rfl rfl))) (lKA (hk_K hK 405 rfl rfl)) rfl (by decide) rfl (Nat.le_of_ble_eq_true rfl) (by decide) (fun r u hu => ?_)
  refine z_eqs (σ' := (ap b σ [(405, 1, 4), (405, 1, 3), (405, 1, 2), (405, 1, 1), (405, 0, 0), (0, 8, 4), (0, 8, 3), (0, 8, 2), (0, 8, 1)] [(431, 0, 4)] [])) (hu.2.trans ap_ap) ?_
  show zx p l e _ s m _ below meth c g 8 _ _ _ _ 816 [(5, .int 0), (4, .int 0), (3, .ref (b + 431)), (2, .ref (b + 405)), (1, .ref (b + 0)), (0, .ref bS)] _
  refine z_seti (y := 4) hu.1 ?_
  refine z_istore (lv' := [(6, .int 4), (5, .int 0), (4, .int 0), (3, .ref (b + 431)), (2, .ref (b + 405)), (1, .ref (b + 0)), (0, .ref bS)]) B dL_law_816 (by decide) rfl ?_
  refine z_aload_n B dL_law_818 rfl 4 rfl ?_
  refine z_cVi (As := []) (rest := []) B cw_L_80 cx_10 dL_law_819 (ci_X9_thrown_95 l (σ := (ap b σ [(405, 1, 4), (405, 1, 3), (405, 1, 2), (405, 1, 1), (405, 0, 0), (0, 8, 4), (0, 8, 3), (0, 8, 2), (0, 8, 1)] [(431, 0, 4)] [])) (b := b) (lyA hK) (rI_at 405 0 rfl)) (lKA (hk_K hK 405 rfl rfl)) rfl (by decide) rfl (Nat.le_of_ble_eq_true rfl) (by decide) (fun r u hu => ?_)
  refine z_eqs (σ' := (ap b σ [(405, 1, 4), (405, 1, 3), (405, 1, 2), (405, 1, 1), (405, 0, 0), (0, 8, 4), (0, 8, 3), (0, 8, 2), (0, 8, 1)] [(431, 0, 4)] [])) hu.2 ?_
  show zx p l e _ s m _ below meth c g 8 _ _ _ _ 822 [(6, .int 4), (5, .int 0), (4, .int 0), (3, .ref (b + 431)), (2, .ref (b + 405)), (1, .ref (b + 0)), (0, .ref bS)] _
  refine z_seti (y := 0) hu.1 ?_
  refine z_iload B dL_law_822 1 rfl ?_
  refine z_icmp_eq (tgt := 829) B dL_law_824 (by decide) (fun _ => ?_) (fun h => absurd (by decide) h)
  refine z_iload B dL_law_829 1 rfl ?_
  refine z_if_ne (tgt := 846) B dL_law_831 (by decide) (fun h => absurd (by decide) h) (fun _ => ?_)
  refine z_aload_n B dL_law_834 rfl 3 rfl ?_
  refine z_iconst (v := 0) B dL_law_835 (by decide) ?_
  refine z_lald (j := 0) (x := 4) B (lKA (hk_K hK 431 rfl rfl)) (by decide) (in_of (lNA (hk_N hK 431 rfl rfl)) (show ¬ ((0 : Int32) < 0 ∨ 1 ≤ (0 : Int32).toNatClampNeg) by decide)) (rJ_at 431 0 rfl) dL_law_836 ?_
  refine z_iload B dL_law_837 0 rfl ?_
  refine z_i2l (v := 4) B dL_law_839 (by decide) ?_
  refine z_lcmp (v := 0) B dL_law_840 (by decide) ?_
  refine z_if_eq (tgt := 846) B dL_law_841 (by decide) (fun _ => ?_) (fun h => absurd (by decide) h)
  refine z_goto (tgt := 1395) B dL_law_846 (by decide) ?_
  exact z_widen (Nat.le_of_ble_eq_true rfl) (Nat.le_of_ble_eq_true rfl) (z_sub _ [2, 6] rfl (kk _))
set_option maxRecDepth 100000 in
set_option maxHeartbeats 4000000 in
theorem lf_11_336 {p : Program} {l : Launch} {e : Env} {s : State} {m : MethodId} {args : Array Value} {below : List Frame} {meth : Method} {c : Code} {g : gx_T} {Q : State → Prop} {σ : sx_T} {b t bS : Nat} {xs : Nat → Int32} (hlt : l.stackTraces = false) (B : zx_B p s m args meth c code RL 8 g) (hX : va_X bS 6 xs s s.heap) (hbl : bS < s.heap.size) (hbA : ¬ gx_b g ≤ bS) (hF : fz_P b t σ) (h_x1 : xs 1 = 5) (kk : ∀ σ', zx p l e room_1 s m args below meth c g 8 600002 7302232 Q σ' 1395 [(4, .int 0), (0, .ref bS)] []) : zx p l e room_1 s m args below meth c g 8 500 100000 Q σ 793 [(4, .int 0), (3, .ref (b + 431)), (2, .ref (b + 405)), (1, .ref (b + 0)), (0, .ref bS)] [] := by
  have hK := fz_lay hF
  refine z_eqs (σ' := (ap b σ [] [] [])) rfl ?_
  refine z_aload_n B dL_law_793 rfl 3 rfl ?_
  refine z_aload_n B dL_law_794 rfl 4 rfl ?_
  refine z_iload B dL_law_795 0 rfl ?_
  refine z_iconst (v := 1) B dL_law_797 (by decide) ?_
  refine z_iadd B dL_law_798 ?_
  refine z_seti (y := 1) (by decide) ?_
  refine z_sld (j := 1) (x := 5) B hX hbl hbA (by decide) (show ¬ ((1 : Int32) < 0 ∨ 6 ≤ (1 : Int32).toNatClampNeg) by decide) h_x1 dL_law_799 ?_
  refine z_aload_n B dL_law_800 rfl 1 rfl ?_
  refine z_cSWi (As := [.ref (b + 0), .int 5, .ref (b + 431)]) (rest := []) B cw_L_121 dL_law_801 (ci_L_tick_943 l (σ := (ap b σ [] [] [])) (b := b) (lyA hK) (rI_at 0 7 (fz_I hF 0 7 rfl rfl)) (rI_at 0 8 (fz_I hF 0 8 rfl rfl)) (rI_at 4 2 (fz_I hF 4 2 rfl rfl)) (rR_at 0 3 (fz_R hF 0 3 rfl rfl))) rfl (by decide) rfl (Nat.le_of_ble_eq_true rfl) (by decide) (fun r u hu => ?_)
  refine z_eqs (σ' := (ap b σ [(0, 8, 5), (0, 8, 4), (0, 8, 3), (0, 8, 2), (0, 8, 1)] [(431, 0, 5)] [])) (hu.2.trans ap_ap) ?_
  show zx p l e _ s m _ below meth c g 8 _ _ _ _ 804 [(4, .int 0), (3, .ref (b + 431)), (2, .ref (b + 405)), (1, .ref (b + 0)), (0, .ref bS)] _
  refine z_seti (y := 0) hu.1 ?_
  refine z_istore (lv' := [(5, .int 0), (4, .int 0), (3, .ref (b + 431)), (2, .ref (b + 405)), (1, .ref (b + 0)), (0, .ref bS)]) B dL_law_804 (by decide) rfl ?_
  refine z_aload_n B dL_law_806 rfl 3 rfl ?_
  refine z_aload_n B dL_law_807 rfl 5 rfl ?_
  refine z_iload B dL_law_808 1 rfl ?_
  refine z_iconst (v := 1) B dL_law_810 (by decide) ?_
  refine z_iadd B dL_law_811 ?_
  refine z_seti (y := 1) (by decide) ?_
  refine z_sld (j := 1) (x := 5) B hX hbl hbA (by decide) (show ¬ ((1 : Int32) < 0 ∨ 6 ≤ (1 : Int32).toNatClampNeg) by decide) h_x1 dL_law_812 ?_
  refine z_cVi (As := [.int 5]) (rest := []) B cw_L_123 cx_10 dL_law_813 (ci_X9_tick_946 l (σ := (ap b σ [(0, 8, 5), (0, 8, 4), (0, 8, 3), (0, 8, 2), (0, 8, 1)] [(431, 0, 5)] [])) (b := b) (lyA hK) (rI_at 405 1 (fz_I hF 405 1 rfl rfl)) (rI_at 405 6 (fz_I hF 405 6 rfl rfl)) (rI_at 405 16 (fz_I hF 405 16 rfl rfl))) (lKA (hk_K hK 405 rfl rfl)) rfl (by decide) rfl (Nat.le_of_ble_eq_true rfl) (by decide) (fun r u hu => ?_)
  refine z_eqs (σ' := (ap b σ [(405, 1, 5), (405, 1, 4), (405, 1, 3), (405, 1, 2), (405, 1, 1), (405, 0, 0), (0, 8, 5), (0, 8, 4), (0, 8, 3), (0, 8, 2), (0, 8, 1)] [(431, 0, 5)] [])) (hu.2.trans ap_ap) ?_
  show zx p l e _ s m _ below meth c g 8 _ _ _ _ 816 [(5, .int 0), (4, .int 0), (3, .ref (b + 431)), (2, .ref (b + 405)), (1, .ref (b + 0)), (0, .ref bS)] _
  refine z_seti (y := 5) hu.1 ?_
  refine z_istore (lv' := [(6, .int 5), (5, .int 0), (4, .int 0), (3, .ref (b + 431)), (2, .ref (b + 405)), (1, .ref (b + 0)), (0, .ref bS)]) B dL_law_816 (by decide) rfl ?_
  refine z_aload_n B dL_law_818 rfl 4 rfl ?_
  refine z_cVi (As := []) (rest := []) B cw_L_80 cx_10 dL_law_819 (ci_X9_thrown_95 l (σ := (ap b σ [(405, 1, 5), (405, 1, 4), (405, 1, 3), (405, 1, 2), (405, 1, 1), (405, 0, 0), (0, 8, 5), (0, 8, 4), (0, 8, 3), (0, 8, 2), (0, 8, 1)] [(431, 0, 5)] [])) (b := b) (lyA hK) (rI_at 405 0 rfl)) (lKA (hk_K hK 405 rfl rfl)) rfl (by decide) rfl (Nat.le_of_ble_eq_true rfl) (by decide) (fun r u hu => ?_)
  refine z_eqs (σ' := (ap b σ [(405, 1, 5), (405, 1, 4), (405, 1, 3), (405, 1, 2), (405, 1, 1), (405, 0, 0), (0, 8, 5), (0, 8, 4), (0, 8, 3), (0, 8, 2), (0, 8, 1)] [(431, 0, 5)] [])) hu.2 ?_
  show zx p l e _ s m _ below meth c g 8 _ _ _ _ 822 [(6, .int 5), (5, .int 0), (4, .int 0), (3, .ref (b + 431)), (2, .ref (b + 405)), (1, .ref (b + 0)), (0, .ref bS)] _
  refine z_seti (y := 0) hu.1 ?_
  refine z_iload B dL_law_822 1 rfl ?_
  refine z_icmp_eq (tgt := 829) B dL_law_824 (by decide) (fun _ => ?_) (fun h => absurd (by decide) h)
  refine z_iload B dL_law_829 1 rfl ?_
  refine z_if_ne (tgt := 846) B dL_law_831 (by decide) (fun h => absurd (by decide) h) (fun _ => ?_)
  refine z_aload_n B dL_law_834 rfl 3 rfl ?_
  refine z_iconst (v := 0) B dL_law_835 (by decide) ?_
  refine z_lald (j := 0) (x := 5) B (lKA (hk_K hK 431 rfl rfl)) (by decide) (in_of (lNA (hk_N hK 431 rfl rfl)) (show ¬ ((0 : Int32) < 0 ∨ 1 ≤ (0 : Int32).toNatClampNeg) by decide)) (rJ_at 431 0 rfl) dL_law_836 ?_
  refine z_iload B dL_law_837 0 rfl ?_
  refine z_i2l (v := 5) B dL_law_839 (by decide) ?_
  refine z_lcmp (v := 0) B dL_law_840 (by decide) ?_
  refine z_if_eq (tgt := 846) B dL_law_841 (by decide) (fun _ => ?_) (fun h => absurd (by decide) h)
  refine z_goto (tgt := 1395) B dL_law_846 (by decide) ?_
  exact z_widen (Nat.le_of_ble_eq_true rfl) (Nat.le_of_ble_eq_true rfl) (z_sub _ [2, 6] rfl (kk _))
set_option maxRecDepth 100000 in
set_option maxHeartbeats 4000000 in
theorem lf_11_337 {p : Program} {l : Launch} {e : Env} {s : State} {m : MethodId} {args : Array Value} {below : List Frame} {meth : Method} {c : Code} {g : gx_T} {Q : State → Prop} {σ : sx_T} {b t bS : Nat} {xs : Nat → Int32} (hlt : l.stackTraces = false) (B : zx_B p s m args meth c code RL 8 g) (hX : va_X bS 6 xs s s.heap) (hbl : bS < s.heap.size) (hbA : ¬ gx_b g ≤ bS) (hF : fz_P b t σ) (h_x1 : xs 1 = 6) (kk : ∀ σ', zx p l e room_1 s m args below meth c g 8 600002 7302232 Q σ' 1395 [(4, .int 0), (0, .ref bS)] []) : zx p l e room_1 s m args below meth c g 8 500 100000 Q σ 793 [(4, .int 0), (3, .ref (b + 431)), (2, .ref (b + 405)), (1, .ref (b + 0)), (0, .ref bS)] [] := by
  have hK := fz_lay hF
  refine z_eqs (σ' := (ap b σ [] [] [])) rfl ?_
  refine z_aload_n B dL_law_793 rfl 3 rfl ?_
  refine z_aload_n B dL_law_794 rfl 4 rfl ?_
  refine z_iload B dL_law_795 0 rfl ?_
  refine z_iconst (v := 1) B dL_law_797 (by decide) ?_
  refine z_iadd B dL_law_798 ?_
  refine z_seti (y := 1) (by decide) ?_
  refine z_sld (j := 1) (x := 6) B hX hbl hbA (by decide) (show ¬ ((1 : Int32) < 0 ∨ 6 ≤ (1 : Int32).toNatClampNeg) by decide) h_x1 dL_law_799 ?_
  refine z_aload_n B dL_law_800 rfl 1 rfl ?_
  refine z_cSWi (As := [.ref (b + 0), .int 6, .ref (b + 431)]) (rest := []) B cw_L_121 dL_law_801 (ci_L_tick_948 l (σ := (ap b σ [] [] [])) (b := b) (lyA hK) (rI_at 0 7 (fz_I hF 0 7 rfl rfl)) (rI_at 0 8 (fz_I hF 0 8 rfl rfl)) (rI_at 4 2 (fz_I hF 4 2 rfl rfl)) (rR_at 0 3 (fz_R hF 0 3 rfl rfl))) rfl (by decide) rfl (Nat.le_of_ble_eq_true rfl) (by decide) (fun r u hu => ?_)
  refine z_eqs (σ' := (ap b σ [(0, 8, 6), (0, 8, 5), (0, 8, 4), (0, 8, 3), (0, 8, 2), (0, 8, 1)] [(431, 0, 6)] [])) (hu.2.trans ap_ap) ?_
  show zx p l e _ s m _ below meth c g 8 _ _ _ _ 804 [(4, .int 0), (3, .ref (b + 431)), (2, .ref (b + 405)), (1, .ref (b + 0)), (0, .ref bS)] _
  refine z_seti (y := 0) hu.1 ?_
  refine z_istore (lv' := [(5, .int 0), (4, .int 0), (3, .ref (b + 431)), (2, .ref (b + 405)), (1, .ref (b + 0)), (0, .ref bS)]) B dL_law_804 (by decide) rfl ?_
  refine z_aload_n B dL_law_806 rfl 3 rfl ?_
  refine z_aload_n B dL_law_807 rfl 5 rfl ?_
  refine z_iload B dL_law_808 1 rfl ?_
  refine z_iconst (v := 1) B dL_law_810 (by decide) ?_
  refine z_iadd B dL_law_811 ?_
  refine z_seti (y := 1) (by decide) ?_
  refine z_sld (j := 1) (x := 6) B hX hbl hbA (by decide) (show ¬ ((1 : Int32) < 0 ∨ 6 ≤ (1 : Int32).toNatClampNeg) by decide) h_x1 dL_law_812 ?_
  refine z_cVi (As := [.int 6]) (rest := []) B cw_L_123 cx_10 dL_law_813 (ci_X9_tick_951 l (σ := (ap b σ [(0, 8, 6), (0, 8, 5), (0, 8, 4), (0, 8, 3), (0, 8, 2), (0, 8, 1)] [(431, 0, 6)] [])) (b := b) (lyA hK) (rI_at 405 1 (fz_I hF 405 1 rfl rfl)) (rI_at 405 6 (fz_I hF 405 6 rfl rfl)) (rI_at 405 16 (fz_I hF 405 16 rfl rfl))) (lKA (hk_K hK 405 rfl rfl)) rfl (by decide) rfl (Nat.le_of_ble_eq_true rfl) (by decide) (fun r u hu => ?_)
  refine z_eqs (σ' := (ap b σ [(405, 1, 6), (405, 1, 5), (405, 1, 4), (405, 1, 3), (405, 1, 2), (405, 1, 1), (405, 0, 0), (0, 8, 6), (0, 8, 5), (0, 8, 4), (0, 8, 3), (0, 8, 2), (0, 8, 1)] [(431, 0, 6)] [])) (hu.2.trans ap_ap) ?_
  show zx p l e _ s m _ below meth c g 8 _ _ _ _ 816 [(5, .int 0), (4, .int 0), (3, .ref (b + 431)), (2, .ref (b + 405)), (1, .ref (b + 0)), (0, .ref bS)] _
  refine z_seti (y := 6) hu.1 ?_
  refine z_istore (lv' := [(6, .int 6), (5, .int 0), (4, .int 0), (3, .ref (b + 431)), (2, .ref (b + 405)), (1, .ref (b + 0)), (0, .ref bS)]) B dL_law_816 (by decide) rfl ?_
  refine z_aload_n B dL_law_818 rfl 4 rfl ?_
  refine z_cVi (As := []) (rest := []) B cw_L_80 cx_10 dL_law_819 (ci_X9_thrown_95 l (σ := (ap b σ [(405, 1, 6), (405, 1, 5), (405, 1, 4), (405, 1, 3), (405, 1, 2), (405, 1, 1), (405, 0, 0), (0, 8, 6), (0, 8, 5), (0, 8, 4), (0, 8, 3), (0, 8, 2), (0, 8, 1)] [(431, 0, 6)] [])) (b := b) (lyA hK) (rI_at 405 0 rfl)) (lKA (hk_K hK 405 rfl rfl)) rfl (by decide) rfl (Nat.le_of_ble_eq_true rfl) (by decide) (fun r u hu => ?_)
  refine z_eqs (σ' := (ap b σ [(405, 1, 6), (405, 1, 5), (405, 1, 4), (405, 1, 3), (405, 1, 2), (405, 1, 1), (405, 0, 0), (0, 8, 6), (0, 8, 5), (0, 8, 4), (0, 8, 3), (0, 8, 2), (0, 8, 1)] [(431, 0, 6)] [])) hu.2 ?_
  show zx p l e _ s m _ below meth c g 8 _ _ _ _ 822 [(6, .int 6), (5, .int 0), (4, .int 0), (3, .ref (b + 431)), (2, .ref (b + 405)), (1, .ref (b + 0)), (0, .ref bS)] _
  refine z_seti (y := 0) hu.1 ?_
  refine z_iload B dL_law_822 1 rfl ?_
  refine z_icmp_eq (tgt := 829) B dL_law_824 (by decide) (fun _ => ?_) (fun h => absurd (by decide) h)
  refine z_iload B dL_law_829 1 rfl ?_
  refine z_if_ne (tgt := 846) B dL_law_831 (by decide) (fun h => absurd (by decide) h) (fun _ => ?_)
  refine z_aload_n B dL_law_834 rfl 3 rfl ?_
  refine z_iconst (v := 0) B dL_law_835 (by decide) ?_
  refine z_lald (j := 0) (x := 6) B (lKA (hk_K hK 431 rfl rfl)) (by decide) (in_of (lNA (hk_N hK 431 rfl rfl)) (show ¬ ((0 : Int32) < 0 ∨ 1 ≤ (0 : Int32).toNatClampNeg) by decide)) (rJ_at 431 0 rfl) dL_law_836 ?_
  refine z_iload B dL_law_837 0 rfl ?_
  refine z_i2l (v := 6) B dL_law_839 (by decide) ?_
  refine z_lcmp (v := 0) B dL_law_840 (by decide) ?_
  refine z_if_eq (tgt := 846) B dL_law_841 (by decide) (fun _ => ?_) (fun h => absurd (by decide) h)
  refine z_goto (tgt := 1395) B dL_law_846 (by decide) ?_
  exact z_widen (Nat.le_of_ble_eq_true rfl) (Nat.le_of_ble_eq_true rfl) (z_sub _ [2, 6] rfl (kk _))
set_option maxRecDepth 100000 in
set_option maxHeartbeats 4000000 in
theorem lf_11_338 {p : Program} {l : Launch} {e : Env} {s : State} {m : MethodId} {args : Array Value} {below : List Frame} {meth : Method} {c : Code} {g : gx_T} {Q : State → Prop} {σ : sx_T} {b t bS : Nat} {xs : Nat → Int32} (hlt : l.stackTraces = false) (B : zx_B p s m args meth c code RL 8 g) (hX : va_X bS 6 xs s s.heap) (hbl : bS < s.heap.size) (hbA : ¬ gx_b g ≤ bS) (hF : fz_P b t σ) (h_x1 : xs 1 = 7) (kk : ∀ σ', zx p l e room_1 s m args below meth c g 8 600002 7302232 Q σ' 1395 [(4, .int 0), (0, .ref bS)] []) : zx p l e room_1 s m args below meth c g 8 500 100000 Q σ 793 [(4, .int 0), (3, .ref (b + 431)), (2, .ref (b + 405)), (1, .ref (b + 0)), (0, .ref bS)] [] := by
  have hK := fz_lay hF
  refine z_eqs (σ' := (ap b σ [] [] [])) rfl ?_
  refine z_aload_n B dL_law_793 rfl 3 rfl ?_
  refine z_aload_n B dL_law_794 rfl 4 rfl ?_
  refine z_iload B dL_law_795 0 rfl ?_
  refine z_iconst (v := 1) B dL_law_797 (by decide) ?_
  refine z_iadd B dL_law_798 ?_
  refine z_seti (y := 1) (by decide) ?_
  refine z_sld (j := 1) (x := 7) B hX hbl hbA (by decide) (show ¬ ((1 : Int32) < 0 ∨ 6 ≤ (1 : Int32).toNatClampNeg) by decide) h_x1 dL_law_799 ?_
  refine z_aload_n B dL_law_800 rfl 1 rfl ?_
  refine z_cSWi (As := [.ref (b + 0), .int 7, .ref (b + 431)]) (rest := []) B cw_L_121 dL_law_801 (ci_L_tick_953 l (σ := (ap b σ [] [] [])) (b := b) (lyA hK) (rI_at 0 7 (fz_I hF 0 7 rfl rfl)) (rI_at 0 8 (fz_I hF 0 8 rfl rfl)) (rI_at 4 2 (fz_I hF 4 2 rfl rfl)) (rR_at 0 3 (fz_R hF 0 3 rfl rfl))) rfl (by decide) rfl (Nat.le_of_ble_eq_true rfl) (by decide) (fun r u hu => ?_)
  refine z_eqs (σ' := (ap b σ [(0, 8, 7), (0, 8, 6), (0, 8, 5), (0, 8, 4), (0, 8, 3), (0, 8, 2), (0, 8, 1)] [(431, 0, 7)] [])) (hu.2.trans ap_ap) ?_
  show zx p l e _ s m _ below meth c g 8 _ _ _ _ 804 [(4, .int 0), (3, .ref (b + 431)), (2, .ref (b + 405)), (1, .ref (b + 0)), (0, .ref bS)] _
  refine z_seti (y := 0) hu.1 ?_
  refine z_istore (lv' := [(5, .int 0), (4, .int 0), (3, .ref (b + 431)), (2, .ref (b + 405)), (1, .ref (b + 0)), (0, .ref bS)]) B dL_law_804 (by decide) rfl ?_
  refine z_aload_n B dL_law_806 rfl 3 rfl ?_
  refine z_aload_n B dL_law_807 rfl 5 rfl ?_
  refine z_iload B dL_law_808 1 rfl ?_
  refine z_iconst (v := 1) B dL_law_810 (by decide) ?_
  refine z_iadd B dL_law_811 ?_
  refine z_seti (y := 1) (by decide) ?_
  refine z_sld (j := 1) (x := 7) B hX hbl hbA (by decide) (show ¬ ((1 : Int32) < 0 ∨ 6 ≤ (1 : Int32).toNatClampNeg) by decide) h_x1 dL_law_812 ?_
  refine z_cVi (As := [.int 7]) (rest := []) B cw_L_123 cx_10 dL_law_813 (ci_X9_tick_956 l (σ := (ap b σ [(0, 8, 7), (0, 8, 6), (0, 8, 5), (0, 8, 4), (0, 8, 3), (0, 8, 2), (0, 8, 1)] [(431, 0, 7)] [])) (b := b) (lyA hK) (rI_at 405 1 (fz_I hF 405 1 rfl rfl)) (rI_at 405 6 (fz_I hF 405 6 rfl rfl)) (rI_at 405 16 (fz_I hF 405 16 rfl rfl))) (lKA (hk_K hK 405 rfl rfl)) rfl (by decide) rfl (Nat.le_of_ble_eq_true rfl) (by decide) (fun r u hu => ?_)
  refine z_eqs (σ' := (ap b σ [(405, 1, 7), (405, 1, 6), (405, 1, 5), (405, 1, 4), (405, 1, 3), (405, 1, 2), (405, 1, 1), (405, 0, 0), (0, 8, 7), (0, 8, 6), (0, 8, 5), (0, 8, 4), (0, 8, 3), (0, 8, 2), (0, 8, 1)] [(431, 0, 7)] [])) (hu.2.trans ap_ap) ?_
  show zx p l e _ s m _ below meth c g 8 _ _ _ _ 816 [(5, .int 0), (4, .int 0), (3, .ref (b + 431)), (2, .ref (b + 405)), (1, .ref (b + 0)), (0, .ref bS)] _
  refine z_seti (y := 7) hu.1 ?_
  refine z_istore (lv' := [(6, .int 7), (5, .int 0), (4, .int 0), (3, .ref (b + 431)), (2, .ref (b + 405)), (1, .ref (b + 0)), (0, .ref bS)]) B dL_law_816 (by decide) rfl ?_
  refine z_aload_n B dL_law_818 rfl 4 rfl ?_
  refine z_cVi (As := []) (rest := []) B cw_L_80 cx_10 dL_law_819 (ci_X9_thrown_95 l (σ := (ap b σ [(405, 1, 7), (405, 1, 6), (405, 1, 5), (405, 1, 4), (405, 1, 3), (405, 1, 2), (405, 1, 1), (405, 0, 0), (0, 8, 7), (0, 8, 6), (0, 8, 5), (0, 8, 4), (0, 8, 3), (0, 8, 2), (0, 8, 1)] [(431, 0, 7)] [])) (b := b) (lyA hK) (rI_at 405 0 rfl)) (lKA (hk_K hK 405 rfl rfl)) rfl (by decide) rfl (Nat.le_of_ble_eq_true rfl) (by decide) (fun r u hu => ?_)
  refine z_eqs (σ' := (ap b σ [(405, 1, 7), (405, 1, 6), (405, 1, 5), (405, 1, 4), (405, 1, 3), (405, 1, 2), (405, 1, 1), (405, 0, 0), (0, 8, 7), (0, 8, 6), (0, 8, 5), (0, 8, 4), (0, 8, 3), (0, 8, 2), (0, 8, 1)] [(431, 0, 7)] [])) hu.2 ?_
  show zx p l e _ s m _ below meth c g 8 _ _ _ _ 822 [(6, .int 7), (5, .int 0), (4, .int 0), (3, .ref (b + 431)), (2, .ref (b + 405)), (1, .ref (b + 0)), (0, .ref bS)] _
  refine z_seti (y := 0) hu.1 ?_
  refine z_iload B dL_law_822 1 rfl ?_
  refine z_icmp_eq (tgt := 829) B dL_law_824 (by decide) (fun _ => ?_) (fun h => absurd (by decide) h)
  refine z_iload B dL_law_829 1 rfl ?_
  refine z_if_ne (tgt := 846) B dL_law_831 (by decide) (fun h => absurd (by decide) h) (fun _ => ?_)
  refine z_aload_n B dL_law_834 rfl 3 rfl ?_
  refine z_iconst (v := 0) B dL_law_835 (by decide) ?_
  refine z_lald (j := 0) (x := 7) B (lKA (hk_K hK 431 rfl rfl)) (by decide) (in_of (lNA (hk_N hK 431 rfl rfl)) (show ¬ ((0 : Int32) < 0 ∨ 1 ≤ (0 : Int32).toNatClampNeg) by decide)) (rJ_at 431 0 rfl) dL_law_836 ?_
  refine z_iload B dL_law_837 0 rfl ?_
  refine z_i2l (v := 7) B dL_law_839 (by decide) ?_
  refine z_lcmp (v := 0) B dL_law_840 (by decide) ?_
  refine z_if_eq (tgt := 846) B dL_law_841 (by decide) (fun _ => ?_) (fun h => absurd (by decide) h)
  refine z_goto (tgt := 1395) B dL_law_846 (by decide) ?_
  exact z_widen (Nat.le_of_ble_eq_true rfl) (Nat.le_of_ble_eq_true rfl) (z_sub _ [2, 6] rfl (kk _))
set_option maxRecDepth 100000 in
set_option maxHeartbeats 4000000 in
theorem lf_11_339 {p : Program} {l : Launch} {e : Env} {s : State} {m : MethodId} {args : Array Value} {below : List Frame} {meth : Method} {c : Code} {g : gx_T} {Q : State → Prop} {σ : sx_T} {b t bS : Nat} {xs : Nat → Int32} (hlt : l.stackTraces = false) (B : zx_B p s m args meth c code RL 8 g) (hX : va_X bS 6 xs s s.heap) (hbl : bS < s.heap.size) (hbA : ¬ gx_b g ≤ bS) (hF : fz_P b t σ) (h_x1 : xs 1 = 8) (kk : ∀ σ', zx p l e room_1 s m args below meth c g 8 600002 7302232 Q σ' 1395 [(4, .int 0), (0, .ref bS)] []) : zx p l e room_1 s m args below meth c g 8 500 100000 Q σ 793 [(4, .int 0), (3, .ref (b + 431)), (2, .ref (b + 405)), (1, .ref (b + 0)), (0, .ref bS)] [] := by
  have hK := fz_lay hF
  refine z_eqs (σ' := (ap b σ [] [] [])) rfl ?_
  refine z_aload_n B dL_law_793 rfl 3 rfl ?_
  refine z_aload_n B dL_law_794 rfl 4 rfl ?_
  refine z_iload B dL_law_795 0 rfl ?_
  refine z_iconst (v := 1) B dL_law_797 (by decide) ?_
  refine z_iadd B dL_law_798 ?_
  refine z_seti (y := 1) (by decide) ?_
  refine z_sld (j := 1) (x := 8) B hX hbl hbA (by decide) (show ¬ ((1 : Int32) < 0 ∨ 6 ≤ (1 : Int32).toNatClampNeg) by decide) h_x1 dL_law_799 ?_
  refine z_aload_n B dL_law_800 rfl 1 rfl ?_
  refine z_cSWi (As := [.ref (b + 0), .int 8, .ref (b + 431)]) (rest := []) B cw_L_121 dL_law_801 (ci_L_tick_958 l (σ := (ap b σ [] [] [])) (b := b) (lyA hK) (rI_at 0 7 (fz_I hF 0 7 rfl rfl)) (rI_at 0 8 (fz_I hF 0 8 rfl rfl)) (rI_at 4 2 (fz_I hF 4 2 rfl rfl)) (rR_at 0 3 (fz_R hF 0 3 rfl rfl))) rfl (by decide) rfl (Nat.le_of_ble_eq_true rfl) (by decide) (fun r u hu => ?_)
  refine z_eqs (σ' := (ap b σ [(0, 8, 8), (0, 8, 7), (0, 8, 6), (0, 8, 5), (0, 8, 4), (0, 8, 3), (0, 8, 2), (0, 8, 1)] [(431, 0, 8)] [])) (hu.2.trans ap_ap) ?_
  show zx p l e _ s m _ below meth c g 8 _ _ _ _ 804 [(4, .int 0), (3, .ref (b + 431)), (2, .ref (b + 405)), (1, .ref (b + 0)), (0, .ref bS)] _
  refine z_seti (y := 0) hu.1 ?_
  refine z_istore (lv' := [(5, .int 0), (4, .int 0), (3, .ref (b + 431)), (2, .ref (b + 405)), (1, .ref (b + 0)), (0, .ref bS)]) B dL_law_804 (by decide) rfl ?_
  refine z_aload_n B dL_law_806 rfl 3 rfl ?_
  refine z_aload_n B dL_law_807 rfl 5 rfl ?_
  refine z_iload B dL_law_808 1 rfl ?_
  refine z_iconst (v := 1) B dL_law_810 (by decide) ?_
  refine z_iadd B dL_law_811 ?_
  refine z_seti (y := 1) (by decide) ?_
  refine z_sld (j := 1) (x := 8) B hX hbl hbA (by decide) (show ¬ ((1 : Int32) < 0 ∨ 6 ≤ (1 : Int32).toNatClampNeg) by decide) h_x1 dL_law_812 ?_
  refine z_cVi (As := [.int 8]) (rest := []) B cw_L_123 cx_10 dL_law_813 (ci_X9_tick_961 l (σ := (ap b σ [(0, 8, 8), (0, 8, 7), (0, 8, 6), (0, 8, 5), (0, 8, 4), (0, 8, 3), (0, 8, 2), (0, 8, 1)] [(431, 0, 8)] [])) (b := b) (lyA hK) (rI_at 405 1 (fz_I hF 405 1 rfl rfl)) (rI_at 405 6 (fz_I hF 405 6 rfl rfl)) (rI_at 405 16 (fz_I hF 405 16 rfl rfl))) (lKA (hk_K hK 405 rfl rfl)) rfl (by decide) rfl (Nat.le_of_ble_eq_true rfl) (by decide) (fun r u hu => ?_)
  refine z_eqs (σ' := (ap b σ [(405, 1, 8), (405, 1, 7), (405, 1, 6), (405, 1, 5), (405, 1, 4), (405, 1, 3), (405, 1, 2), (405, 1, 1), (405, 0, 0), (0, 8, 8), (0, 8, 7), (0, 8, 6), (0, 8, 5), (0, 8, 4), (0, 8, 3), (0, 8, 2), (0, 8, 1)] [(431, 0, 8)] [])) (hu.2.trans ap_ap) ?_
  show zx p l e _ s m _ below meth c g 8 _ _ _ _ 816 [(5, .int 0), (4, .int 0), (3, .ref (b + 431)), (2, .ref (b + 405)), (1, .ref (b + 0)), (0, .ref bS)] _
  refine z_seti (y := 8) hu.1 ?_
  refine z_istore (lv' := [(6, .int 8), (5, .int 0), (4, .int 0), (3, .ref (b + 431)), (2, .ref (b + 405)), (1, .ref (b + 0)), (0, .ref bS)]) B dL_law_816 (by decide) rfl ?_
  refine z_aload_n B dL_law_818 rfl 4 rfl ?_
  refine z_cVi (As := []) (rest := []) B cw_L_80 cx_10 dL_law_819 (ci_X9_thrown_95 l (σ := (ap b σ [(405, 1, 8), (405, 1, 7), (405, 1, 6), (405, 1, 5), (405, 1, 4), (405, 1, 3), (405, 1, 2), (405, 1, 1), (405, 0, 0), (0, 8, 8), (0, 8, 7), (0, 8, 6), (0, 8, 5), (0, 8, 4), (0, 8, 3), (0, 8, 2), (0, 8, 1)] [(431, 0, 8)] [])) (b := b) (lyA hK) (rI_at 405 0 rfl)) (lKA (hk_K hK 405 rfl rfl)) rfl (by decide) rfl (Nat.le_of_ble_eq_true rfl) (by decide) (fun r u hu => ?_)
  refine z_eqs (σ' := (ap b σ [(405, 1, 8), (405, 1, 7), (405, 1, 6), (405, 1, 5), (405, 1, 4), (405, 1, 3), (405, 1, 2), (405, 1, 1), (405, 0, 0), (0, 8, 8), (0, 8, 7), (0, 8, 6), (0, 8, 5), (0, 8, 4), (0, 8, 3), (0, 8, 2), (0, 8, 1)] [(431, 0, 8)] [])) hu.2 ?_
  show zx p l e _ s m _ below meth c g 8 _ _ _ _ 822 [(6, .int 8), (5, .int 0), (4, .int 0), (3, .ref (b + 431)), (2, .ref (b + 405)), (1, .ref (b + 0)), (0, .ref bS)] _
  refine z_seti (y := 0) hu.1 ?_
  refine z_iload B dL_law_822 1 rfl ?_
  refine z_icmp_eq (tgt := 829) B dL_law_824 (by decide) (fun _ => ?_) (fun h => absurd (by decide) h)
  refine z_iload B dL_law_829 1 rfl ?_
  refine z_if_ne (tgt := 846) B dL_law_831 (by decide) (fun h => absurd (by decide) h) (fun _ => ?_)
  refine z_aload_n B dL_law_834 rfl 3 rfl ?_
  refine z_iconst (v := 0) B dL_law_835 (by decide) ?_
  refine z_lald (j := 0) (x := 8) B (lKA (hk_K hK 431 rfl rfl)) (by decide) (in_of (lNA (hk_N hK 431 rfl rfl)) (show ¬ ((0 : Int32) < 0 ∨ 1 ≤ (0 : Int32).toNatClampNeg) by decide)) (rJ_at 431 0 rfl) dL_law_836 ?_
  refine z_iload B dL_law_837 0 rfl ?_
  refine z_i2l (v := 8) B dL_law_839 (by decide) ?_
  refine z_lcmp (v := 0) B dL_law_840 (by decide) ?_
  refine z_if_eq (tgt := 846) B dL_law_841 (by decide) (fun _ => ?_) (fun h => absurd (by decide) h)
  refine z_goto (tgt := 1395) B dL_law_846 (by decide) ?_
  exact z_widen (Nat.le_of_ble_eq_true rfl) (Nat.le_of_ble_eq_true rfl) (z_sub _ [2, 6] rfl (kk _))
set_option maxRecDepth 100000 in
set_option maxHeartbeats 4000000 in
theorem lf_11_340 {p : Program} {l : Launch} {e : Env} {s : State} {m : MethodId} {args : Array Value} {below : List Frame} {meth : Method} {c : Code} {g : gx_T} {Q : State → Prop} {σ : sx_T} {b t bS : Nat} {xs : Nat → Int32} (hlt : l.stackTraces = false) (B : zx_B p s m args meth c code RL 8 g) (hX : va_X bS 6 xs s s.heap) (hbl : bS < s.heap.size) (hbA : ¬ gx_b g ≤ bS) (hF : fz_P b t σ) (h_x1 : xs 1 = 9) (kk : ∀ σ', zx p l e room_1 s m args below meth c g 8 600002 7302232 Q σ' 1395 [(4, .int 0), (0, .ref bS)] []) : zx p l e room_1 s m args below meth c g 8 500 100000 Q σ 793 [(4, .int 0), (3, .ref (b + 431)), (2, .ref (b + 405)), (1, .ref (b + 0)), (0, .ref bS)] [] := by
  have hK := fz_lay hF
  refine z_eqs (σ' := (ap b σ [] [] [])) rfl ?_
  refine z_aload_n B dL_law_793 rfl 3 rfl ?_
  refine z_aload_n B dL_law_794 rfl 4 rfl ?_
  refine z_iload B dL_law_795 0 rfl ?_
  refine z_iconst (v := 1) B dL_law_797 (by decide) ?_
  refine z_iadd B dL_law_798 ?_
  refine z_seti (y := 1) (by decide) ?_
  refine z_sld (j := 1) (x := 9) B hX hbl hbA (by decide) (show ¬ ((1 : Int32) < 0 ∨ 6 ≤ (1 : Int32).toNatClampNeg) by decide) h_x1 dL_law_799 ?_
  refine z_aload_n B dL_law_800 rfl 1 rfl ?_
  refine z_cSWi (As := [.ref (b + 0), .int 9, .ref (b + 431)]) (rest := []) B cw_L_121 dL_law_801 (ci_L_tick_963 l (σ := (ap b σ [] [] [])) (b := b) (lyA hK) (rI_at 0 7 (fz_I hF 0 7 rfl rfl)) (rI_at 0 8 (fz_I hF 0 8 rfl rfl)) (rI_at 4 2 (fz_I hF 4 2 rfl rfl)) (rR_at 0 3 (fz_R hF 0 3 rfl rfl))) rfl (by decide) rfl (Nat.le_of_ble_eq_true rfl) (by decide) (fun r u hu => ?_)
  refine z_eqs (σ' := (ap b σ [(0, 8, 9), (0, 8, 8), (0, 8, 7), (0, 8, 6), (0, 8, 5), (0, 8, 4), (0, 8, 3), (0, 8, 2), (0, 8, 1)] [(431, 0, 9)] [])) (hu.2.trans ap_ap) ?_
  show zx p l e _ s m _ below meth c g 8 _ _ _ _ 804 [(4, .int 0), (3, .ref (b + 431)), (2, .ref (b + 405)), (1, .ref (b + 0)), (0, .ref bS)] _
  refine z_seti (y := 0) hu.1 ?_
  refine z_istore (lv' := [(5, .int 0), (4, .int 0), (3, .ref (b + 431)), (2, .ref (b + 405)), (1, .ref (b + 0)), (0, .ref bS)]) B dL_law_804 (by decide) rfl ?_
  refine z_aload_n B dL_law_806 rfl 3 rfl ?_
  refine z_aload_n B dL_law_807 rfl 5 rfl ?_
  refine z_iload B dL_law_808 1 rfl ?_
  refine z_iconst (v := 1) B dL_law_810 (by decide) ?_
  refine z_iadd B dL_law_811 ?_
  refine z_seti (y := 1) (by decide) ?_
  refine z_sld (j := 1) (x := 9) B hX hbl hbA (by decide) (show ¬ ((1 : Int32) < 0 ∨ 6 ≤ (1 : Int32).toNatClampNeg) by decide) h_x1 dL_law_812 ?_
  refine z_cVi (As := [.int 9]) (rest := []) B cw_L_123 cx_10 dL_law_813 (ci_X9_tick_966 l (σ := (ap b σ [(0, 8, 9), (0, 8, 8), (0, 8, 7), (0, 8, 6), (0, 8, 5), (0, 8, 4), (0, 8, 3), (0, 8, 2), (0, 8, 1)] [(431, 0, 9)] [])) (b := b) (lyA hK) (rI_at 405 1 (fz_I hF 405 1 rfl rfl)) (rI_at 405 6 (fz_I hF 405 6 rfl rfl)) (rI_at 405 16 (fz_I hF 405 16 rfl rfl))) (lKA (hk_K hK 405 rfl rfl)) rfl (by decide) rfl (Nat.le_of_ble_eq_true rfl) (by decide) (fun r u hu => ?_)
  refine z_eqs (σ' := (ap b σ [(405, 1, 9), (405, 1, 8), (405, 1, 7), (405, 1, 6), (405, 1, 5), (405, 1, 4), (405, 1, 3), (405, 1, 2), (405, 1, 1), (405, 0, 0), (0, 8, 9), (0, 8, 8), (0, 8, 7), (0, 8, 6), (0, 8, 5), (0, 8, 4), (0, 8, 3), (0, 8, 2), (0, 8, 1)] [(431, 0, 9)] [])) (hu.2.trans ap_ap) ?_
  show zx p l e _ s m _ below meth c g 8 _ _ _ _ 816 [(5, .int 0), (4, .int 0), (3, .ref (b + 431)), (2, .ref (b + 405)), (1, .ref (b + 0)), (0, .ref bS)] _
  refine z_seti (y := 9) hu.1 ?_
  refine z_istore (lv' := [(6, .int 9), (5, .int 0), (4, .int 0), (3, .ref (b + 431)), (2, .ref (b + 405)), (1, .ref (b + 0)), (0, .ref bS)]) B dL_law_816 (by decide) rfl ?_
  refine z_aload_n B dL_law_818 rfl 4 rfl ?_
  refine z_cVi (As := []) (rest := []) B cw_L_80 cx_10 dL_law_819 (ci_X9_thrown_95 l (σ := (ap b σ [(405, 1, 9), (405, 1, 8), (405, 1, 7), (405, 1, 6), (405, 1, 5), (405, 1, 4), (405, 1, 3), (405, 1, 2), (405, 1, 1), (405, 0, 0), (0, 8, 9), (0, 8, 8), (0, 8, 7), (0, 8, 6), (0, 8, 5), (0, 8, 4), (0, 8, 3), (0, 8, 2), (0, 8, 1)] [(431, 0, 9)] [])) (b := b) (lyA hK) (rI_at 405 0 rfl)) (lKA (hk_K hK 405 rfl rfl)) rfl (by decide) rfl (Nat.le_of_ble_eq_true rfl) (by decide) (fun r u hu => ?_)
  refine z_eqs (σ' := (ap b σ [(405, 1, 9), (405, 1, 8), (405, 1, 7), (405, 1, 6), (405, 1, 5), (405, 1, 4), (405, 1, 3), (405, 1, 2), (405, 1, 1), (405, 0, 0), (0, 8, 9), (0, 8, 8), (0, 8, 7), (0, 8, 6), (0, 8, 5), (0, 8, 4), (0, 8, 3), (0, 8, 2), (0, 8, 1)] [(431, 0, 9)] [])) hu.2 ?_
  show zx p l e _ s m _ below meth c g 8 _ _ _ _ 822 [(6, .int 9), (5, .int 0), (4, .int 0), (3, .ref (b + 431)), (2, .ref (b + 405)), (1, .ref (b + 0)), (0, .ref bS)] _
  refine z_seti (y := 0) hu.1 ?_
  refine z_iload B dL_law_822 1 rfl ?_
  refine z_icmp_eq (tgt := 829) B dL_law_824 (by decide) (fun _ => ?_) (fun h => absurd (by decide) h)
  refine z_iload B dL_law_829 1 rfl ?_
  refine z_if_ne (tgt := 846) B dL_law_831 (by decide) (fun h => absurd (by decide) h) (fun _ => ?_)
  refine z_aload_n B dL_law_834 rfl 3 rfl ?_
  refine z_iconst (v := 0) B dL_law_835 (by decide) ?_
  refine z_lald (j := 0) (x := 9) B (lKA (hk_K hK 431 rfl rfl)) (by decide) (in_of (lNA (hk_N hK 431 rfl rfl)) (show ¬ ((0 : Int32) < 0 ∨ 1 ≤ (0 : Int32).toNatClampNeg) by decide)) (rJ_at 431 0 rfl) dL_law_836 ?_
  refine z_iload B dL_law_837 0 rfl ?_
  refine z_i2l (v := 9) B dL_law_839 (by decide) ?_
  refine z_lcmp (v := 0) B dL_law_840 (by decide) ?_
  refine z_if_eq (tgt := 846) B dL_law_841 (by decide) (fun _ => ?_) (fun h => absurd (by decide) h)
  refine z_goto (tgt := 1395) B dL_law_846 (by decide) ?_
  exact z_widen (Nat.le_of_ble_eq_true rfl) (Nat.le_of_ble_eq_true rfl) (z_sub _ [2, 6] rfl (kk _))
set_option maxRecDepth 100000 in
set_option maxHeartbeats 4000000 in
theorem lf_11_341 {p : Program} {l : Launch} {e : Env} {s : State} {m : MethodId} {args : Array Value} {below : List Frame} {meth : Method} {c : Code} {g : gx_T} {Q : State → Prop} {σ : sx_T} {b t bS : Nat} {xs : Nat → Int32} (hlt : l.stackTraces = false) (B : zx_B p s m args meth c code RL 8 g) (hX : va_X bS 6 xs s s.heap) (hbl : bS < s.heap.size) (hbA : ¬ gx_b g ≤ bS) (hF : fz_P b t σ) (h_x1 : xs 1 = 10) (kk : ∀ σ', zx p l e room_1 s m args below meth c g 8 600002 7302232 Q σ' 1395 [(4, .int 0), (0, .ref bS)] []) : zx p l e room_1 s m args below meth c g 8 500 100000 Q σ 793 [(4, .int 0), (3, .ref (b + 431)), (2, .ref (b + 405)), (1, .ref (b + 0)), (0, .ref bS)] [] := by
  have hK := fz_lay hF
  refine z_eqs (σ' := (ap b σ [] [] [])) rfl ?_
  refine z_aload_n B dL_law_793 rfl 3 rfl ?_
  refine z_aload_n B dL_law_794 rfl 4 rfl ?_
  refine z_iload B dL_law_795 0 rfl ?_
  refine z_iconst (v := 1) B dL_law_797 (by decide) ?_
  refine z_iadd B dL_law_798 ?_
  refine z_seti (y := 1) (by decide) ?_
  refine z_sld (j := 1) (x := 10) B hX hbl hbA (by decide) (show ¬ ((1 : Int32) < 0 ∨ 6 ≤ (1 : Int32).toNatClampNeg) by decide) h_x1 dL_law_799 ?_
  refine z_aload_n B dL_law_800 rfl 1 rfl ?_
  refine z_cSWi (As := [.ref (b + 0), .int 10, .ref (b + 431)]) (rest := []) B cw_L_121 dL_law_801 (ci_L_tick_968 l (σ := (ap b σ [] [] [])) (b := b) (lyA hK) (rI_at 0 7 (fz_I hF 0 7 rfl rfl)) (rI_at 0 8 (fz_I hF 0 8 rfl rfl)) (rI_at 4 2 (fz_I hF 4 2 rfl rfl)) (rR_at 0 3 (fz_R hF 0 3 rfl rfl))) rfl (by decide) rfl (Nat.le_of_ble_eq_true rfl) (by decide) (fun r u hu => ?_)
  refine z_eqs (σ' := (ap b σ [(0, 8, 10), (0, 8, 9), (0, 8, 8), (0, 8, 7), (0, 8, 6), (0, 8, 5), (0, 8, 4), (0, 8, 3), (0, 8, 2), (0, 8, 1)] [(431, 0, 10)] [])) (hu.2.trans ap_ap) ?_
  show zx p l e _ s m _ below meth c g 8 _ _ _ _ 804 [(4, .int 0), (3, .ref (b + 431)), (2, .ref (b + 405)), (1, .ref (b + 0)), (0, .ref bS)] _
  refine z_seti (y := 0) hu.1 ?_
  refine z_istore (lv' := [(5, .int 0), (4, .int 0), (3, .ref (b + 431)), (2, .ref (b + 405)), (1, .ref (b + 0)), (0, .ref bS)]) B dL_law_804 (by decide) rfl ?_
  refine z_aload_n B dL_law_806 rfl 3 rfl ?_
  refine z_aload_n B dL_law_807 rfl 5 rfl ?_
  refine z_iload B dL_law_808 1 rfl ?_
  refine z_iconst (v := 1) B dL_law_810 (by decide) ?_
  refine z_iadd B dL_law_811 ?_
  refine z_seti (y := 1) (by decide) ?_
  refine z_sld (j := 1) (x := 10) B hX hbl hbA (by decide) (show ¬ ((1 : Int32) < 0 ∨ 6 ≤ (1 : Int32).toNatClampNeg) by decide) h_x1 dL_law_812 ?_
  refine z_cVi (As := [.int 10]) (rest := []) B cw_L_123 cx_10 dL_law_813 (ci_X9_tick_971 l (σ := (ap b σ [(0, 8, 10), (0, 8, 9), (0, 8, 8), (0, 8, 7), (0, 8, 6), (0, 8, 5), (0, 8, 4), (0, 8, 3), (0, 8, 2), (0, 8, 1)] [(431, 0, 10)] [])) (b := b) (lyA hK) (rI_at 405 1 (fz_I hF 405 1 rfl rfl)) (rI_at 405 6 (fz_I hF 405 6 rfl rfl)) (rI_at 405 16 (fz_I hF 405 16 rfl rfl))) (lKA (hk_K hK 405 rfl rfl)) rfl (by decide) rfl (Nat.le_of_ble_eq_true rfl) (by decide) (fun r u hu => ?_)
  refine z_eqs (σ' := (ap b σ [(405, 1, 10), (405, 1, 9), (405, 1, 8), (405, 1, 7), (405, 1, 6), (405, 1, 5), (405, 1, 4), (405, 1, 3), (405, 1, 2), (405, 1, 1), (405, 0, 0), (0, 8, 10), (0, 8, 9), (0, 8, 8), (0, 8, 7), (0, 8, 6), (0, 8, 5), (0, 8, 4), (0, 8, 3), (0, 8, 2), (0, 8, 1)] [(431, 0, 10)] [])) (hu.2.trans ap_ap) ?_
  show zx p l e _ s m _ below meth c g 8 _ _ _ _ 816 [(5, .int 0), (4, .int 0), (3, .ref (b + 431)), (2, .ref (b + 405)), (1, .ref (b + 0)), (0, .ref bS)] _
  refine z_seti (y := 10) hu.1 ?_
  refine z_istore (lv' := [(6, .int 10), (5, .int 0), (4, .int 0), (3, .ref (b + 431)), (2, .ref (b + 405)), (1, .ref (b + 0)), (0, .ref bS)]) B dL_law_816 (by decide) rfl ?_
  refine z_aload_n B dL_law_818 rfl 4 rfl ?_
  refine z_cVi (As := []) (rest := []) B cw_L_80 cx_10 dL_law_819 (ci_X9_thrown_95 l (σ := (ap b σ [(405, 1, 10), (405, 1, 9), (405, 1, 8), (405, 1, 7), (405, 1, 6), (405, 1, 5), (405, 1, 4), (405, 1, 3), (405, 1, 2), (405, 1, 1), (405, 0, 0), (0, 8, 10), (0, 8, 9), (0, 8, 8), (0, 8, 7), (0, 8, 6), (0, 8, 5), (0, 8, 4), (0, 8, 3), (0, 8, 2), (0, 8, 1)] [(431, 0, 10)] [])) (b := b) (lyA hK) (rI_at 405 0 rfl)) (lKA (hk_K hK 405 rfl rfl)) rfl (by decide) rfl (Nat.le_of_ble_eq_true rfl) (by decide) (fun r u hu => ?_)
  refine z_eqs (σ' := (ap b σ [(405, 1, 10), (405, 1, 9), (405, 1, 8), (405, 1, 7), (405, 1, 6), (405, 1, 5), (405, 1, 4), (405, 1, 3), (405, 1, 2), (405, 1, 1), (405, 0, 0), (0, 8, 10), (0, 8, 9), (0, 8, 8), (0, 8, 7), (0, 8, 6), (0, 8, 5), (0, 8, 4), (0, 8, 3), (0, 8, 2), (0, 8, 1)] [(431, 0, 10)] [])) hu.2 ?_
  show zx p l e _ s m _ below meth c g 8 _ _ _ _ 822 [(6, .int 10), (5, .int 0), (4, .int 0), (3, .ref (b + 431)), (2, .ref (b + 405)), (1, .ref (b + 0)), (0, .ref bS)] _
  refine z_seti (y := 0) hu.1 ?_
  refine z_iload B dL_law_822 1 rfl ?_
  refine z_icmp_eq (tgt := 829) B dL_law_824 (by decide) (fun _ => ?_) (fun h => absurd (by decide) h)
  refine z_iload B dL_law_829 1 rfl ?_
  refine z_if_ne (tgt := 846) B dL_law_831 (by decide) (fun h => absurd (by decide) h) (fun _ => ?_)
  refine z_aload_n B dL_law_834 rfl 3 rfl ?_
  refine z_iconst (v := 0) B dL_law_835 (by decide) ?_
  refine z_lald (j := 0) (x := 10) B (lKA (hk_K hK 431 rfl rfl)) (by decide) (in_of (lNA (hk_N hK 431 rfl rfl)) (show ¬ ((0 : Int32) < 0 ∨ 1 ≤ (0 : Int32).toNatClampNeg) by decide)) (rJ_at 431 0 rfl) dL_law_836 ?_
  refine z_iload B dL_law_837 0 rfl ?_
  refine z_i2l (v := 10) B dL_law_839 (by decide) ?_
  refine z_lcmp (v := 0) B dL_law_840 (by decide) ?_
  refine z_if_eq (tgt := 846) B dL_law_841 (by decide) (fun _ => ?_) (fun h => absurd (by decide) h)
  refine z_goto (tgt := 1395) B dL_law_846 (by decide) ?_
  exact z_widen (Nat.le_of_ble_eq_true rfl) (Nat.le_of_ble_eq_true rfl) (z_sub _ [2, 6] rfl (kk _))
set_option maxRecDepth 100000 in
set_option maxHeartbeats 4000000 in
theorem lf_11_342 {p : Program} {l : Launch} {e : Env} {s : State} {m : MethodId} {args : Array Value} {below : List Frame} {meth : Method} {c : Code} {g : gx_T} {Q : State → Prop} {σ : sx_T} {b t bS : Nat} {xs : Nat → Int32} (hlt : l.stackTraces = false) (B : zx_B p s m args meth c code RL 8 g) (hX : va_X bS 6 xs s s.heap) (hbl : bS < s.heap.size) (hbA : ¬ gx_b g ≤ bS) (hF : fz_P b t σ) (h_x1 : xs 1 = 11) (kk : ∀ σ', zx p l e room_1 s m args below meth c g 8 600002 7302232 Q σ' 1395 [(4, .int 0), (0, .ref bS)] []) : zx p l e room_1 s m args below meth c g 8 500 100000 Q σ 793 [(4, .int 0), (3, .ref (b + 431)), (2, .ref (b + 405)), (1, .ref (b + 0)), (0, .ref bS)] [] := by
  have hK := fz_lay hF
  refine z_eqs (σ' := (ap b σ [] [] [])) rfl ?_
  refine z_aload_n B dL_law_793 rfl 3 rfl ?_
  refine z_aload_n B dL_law_794 rfl 4 rfl ?_
  refine z_iload B dL_law_795 0 rfl ?_
  refine z_iconst (v := 1) B dL_law_797 (by decide) ?_
  refine z_iadd B dL_law_798 ?_
  refine z_seti (y := 1) (by decide) ?_
  refine z_sld (j := 1) (x := 11) B hX hbl hbA (by decide) (show ¬ ((1 : Int32) < 0 ∨ 6 ≤ (1 : Int32).toNatClampNeg) by decide) h_x1 dL_law_799 ?_
  refine z_aload_n B dL_law_800 rfl 1 rfl ?_
  refine z_cSWi (As := [.ref (b + 0), .int 11, .ref (b + 431)]) (rest := []) B cw_L_121 dL_law_801 (ci_L_tick_973 l (σ := (ap b σ [] [] [])) (b := b) (lyA hK) (rI_at 0 7 (fz_I hF 0 7 rfl rfl)) (rI_at 0 8 (fz_I hF 0 8 rfl rfl)) (rI_at 4 2 (fz_I hF 4 2 rfl rfl)) (rR_at 0 3 (fz_R hF 0 3 rfl rfl))) rfl (by decide) rfl (Nat.le_of_ble_eq_true rfl) (by decide) (fun r u hu => ?_)
  refine z_eqs (σ' := (ap b σ [(0, 8, 11), (0, 8, 10), (0, 8, 9), (0, 8, 8), (0, 8, 7), (0, 8, 6), (0, 8, 5), (0, 8, 4), (0, 8, 3), (0, 8, 2), (0, 8, 1)] [(431, 0, 11)] [])) (hu.2.trans ap_ap) ?_
  show zx p l e _ s m _ below meth c g 8 _ _ _ _ 804 [(4, .int 0), (3, .ref (b + 431)), (2, .ref (b + 405)), (1, .ref (b + 0)), (0, .ref bS)] _
  refine z_seti (y := 0) hu.1 ?_
  refine z_istore (lv' := [(5, .int 0), (4, .int 0), (3, .ref (b + 431)), (2, .ref (b + 405)), (1, .ref (b + 0)), (0, .ref bS)]) B dL_law_804 (by decide) rfl ?_
  refine z_aload_n B dL_law_806 rfl 3 rfl ?_
  refine z_aload_n B dL_law_807 rfl 5 rfl ?_
  refine z_iload B dL_law_808 1 rfl ?_
  refine z_iconst (v := 1) B dL_law_810 (by decide) ?_
  refine z_iadd B dL_law_811 ?_
  refine z_seti (y := 1) (by decide) ?_
  refine z_sld (j := 1) (x := 11) B hX hbl hbA (by decide) (show ¬ ((1 : Int32) < 0 ∨ 6 ≤ (1 : Int32).toNatClampNeg) by decide) h_x1 dL_law_812 ?_
  refine z_cVi (As := [.int 11]) (rest := []) B cw_L_123 cx_10 dL_law_813 (ci_X9_tick_976 l (σ := (ap b σ [(0, 8, 11), (0, 8, 10), (0, 8, 9), (0, 8, 8), (0, 8, 7), (0, 8, 6), (0, 8, 5), (0, 8, 4), (0, 8, 3), (0, 8, 2), (0, 8, 1)] [(431, 0, 11)] [])) (b := b) (lyA hK) (rI_at 405 1 (fz_I hF 405 1 rfl rfl)) (rI_at 405 6 (fz_I hF 405 6 rfl rfl)) (rI_at 405 16 (fz_I hF 405 16 rfl rfl))) (lKA (hk_K hK 405 rfl rfl)) rfl (by decide) rfl (Nat.le_of_ble_eq_true rfl) (by decide) (fun r u hu => ?_)
  refine z_eqs (σ' := (ap b σ [(405, 1, 11), (405, 1, 10), (405, 1, 9), (405, 1, 8), (405, 1, 7), (405, 1, 6), (405, 1, 5), (405, 1, 4), (405, 1, 3), (405, 1, 2), (405, 1, 1), (405, 0, 0), (0, 8, 11), (0, 8, 10), (0, 8, 9), (0, 8, 8), (0, 8, 7), (0, 8, 6), (0, 8, 5), (0, 8, 4), (0, 8, 3), (0, 8, 2), (0, 8, 1)] [(431, 0, 11)] [])) (hu.2.trans ap_ap) ?_
  show zx p l e _ s m _ below meth c g 8 _ _ _ _ 816 [(5, .int 0), (4, .int 0), (3, .ref (b + 431)), (2, .ref (b + 405)), (1, .ref (b + 0)), (0, .ref bS)] _
  refine z_seti (y := 11) hu.1 ?_
  refine z_istore (lv' := [(6, .int 11), (5, .int 0), (4, .int 0), (3, .ref (b + 431)), (2, .ref (b + 405)), (1, .ref (b + 0)), (0, .ref bS)]) B dL_law_816 (by decide) rfl ?_
  refine z_aload_n B dL_law_818 rfl 4 rfl ?_
  refine z_cVi (As := []) (rest := []) B cw_L_80 cx_10 dL_law_819 (ci_X9_thrown_95 l (σ := (ap b σ [(405, 1, 11), (405, 1, 10), (405, 1, 9), (405, 1, 8), (405, 1, 7), (405, 1, 6), (405, 1, 5), (405, 1, 4), (405, 1, 3), (405, 1, 2), (405, 1, 1), (405, 0, 0), (0, 8, 11), (0, 8, 10), (0, 8, 9), (0, 8, 8), (0, 8, 7), (0, 8, 6), (0, 8, 5), (0, 8, 4), (0, 8, 3), (0, 8, 2), (0, 8, 1)] [(431, 0, 11)] [])) (b := b) (lyA hK) (rI_at 405 0 rfl)) (lKA (hk_K hK 405 rfl rfl)) rfl (by decide) rfl (Nat.le_of_ble_eq_true rfl) (by decide) (fun r u hu => ?_)
  refine z_eqs (σ' := (ap b σ [(405, 1, 11), (405, 1, 10), (405, 1, 9), (405, 1, 8), (405, 1, 7), (405, 1, 6), (405, 1, 5), (405, 1, 4), (405, 1, 3), (405, 1, 2), (405, 1, 1), (405, 0, 0), (0, 8, 11), (0, 8, 10), (0, 8, 9), (0, 8, 8), (0, 8, 7), (0, 8, 6), (0, 8, 5), (0, 8, 4), (0, 8, 3), (0, 8, 2), (0, 8, 1)] [(431, 0, 11)] [])) hu.2 ?_
  show zx p l e _ s m _ below meth c g 8 _ _ _ _ 822 [(6, .int 11), (5, .int 0), (4, .int 0), (3, .ref (b + 431)), (2, .ref (b + 405)), (1, .ref (b + 0)), (0, .ref bS)] _
  refine z_seti (y := 0) hu.1 ?_
  refine z_iload B dL_law_822 1 rfl ?_
  refine z_icmp_eq (tgt := 829) B dL_law_824 (by decide) (fun _ => ?_) (fun h => absurd (by decide) h)
  refine z_iload B dL_law_829 1 rfl ?_
  refine z_if_ne (tgt := 846) B dL_law_831 (by decide) (fun h => absurd (by decide) h) (fun _ => ?_)
  refine z_aload_n B dL_law_834 rfl 3 rfl ?_
  refine z_iconst (v := 0) B dL_law_835 (by decide) ?_
  refine z_lald (j := 0) (x := 11) B (lKA (hk_K hK 431 rfl rfl)) (by decide) (in_of (lNA (hk_N hK 431 rfl rfl)) (show ¬ ((0 : Int32) < 0 ∨ 1 ≤ (0 : Int32).toNatClampNeg) by decide)) (rJ_at 431 0 rfl) dL_law_836 ?_
  refine z_iload B dL_law_837 0 rfl ?_
  refine z_i2l (v := 11) B dL_law_839 (by decide) ?_
  refine z_lcmp (v := 0) B dL_law_840 (by decide) ?_
  refine z_if_eq (tgt := 846) B dL_law_841 (by decide) (fun _ => ?_) (fun h => absurd (by decide) h)
  refine z_goto (tgt := 1395) B dL_law_846 (by decide) ?_
  exact z_widen (Nat.le_of_ble_eq_true rfl) (Nat.le_of_ble_eq_true rfl) (z_sub _ [2, 6] rfl (kk _))
set_option maxRecDepth 100000 in
set_option maxHeartbeats 4000000 in
theorem lf_11_343 {p : Program} {l : Launch} {e : Env} {s : State} {m : MethodId} {args : Array Value} {below : List Frame} {meth : Method} {c : Code} {g : gx_T} {Q : State → Prop} {σ : sx_T} {b t bS : Nat} {xs : Nat → Int32} (hlt : l.stackTraces = false) (B : zx_B p s m args meth c code RL 8 g) (hX : va_X bS 6 xs s s.heap) (hbl : bS < s.heap.size) (hbA : ¬ gx_b g ≤ bS) (hF : fz_P b t σ) (h_x1 : xs 1 = 12) (kk : ∀ σ', zx p l e room_1 s m args below meth c g 8 600002 7302232 Q σ' 1395 [(4, .int 0), (0, .ref bS)] []) : zx p l e room_1 s m args below meth c g 8 500 100000 Q σ 793 [(4, .int 0), (3, .ref (b + 431)), (2, .ref (b + 405)), (1, .ref (b + 0)), (0, .ref bS)] [] := by
  have hK := fz_lay hF
  refine z_eqs (σ' := (ap b σ [] [] [])) rfl ?_
  refine z_aload_n B dL_law_793 rfl 3 rfl ?_
  refine z_aload_n B dL_law_794 rfl 4 rfl ?_
  refine z_iload B dL_law_795 0 rfl ?_
  refine z_iconst (v := 1) B dL_law_797 (by decide) ?_
  refine z_iadd B dL_law_798 ?_
  refine z_seti (y := 1) (by decide) ?_
  refine z_sld (j := 1) (x := 12) B hX hbl hbA (by decide) (show ¬ ((1 : Int32) < 0 ∨ 6 ≤ (1 : Int32).toNatClampNeg) by decide) h_x1 dL_law_799 ?_
  refine z_aload_n B dL_law_800 rfl 1 rfl ?_
  refine z_cSWi (As := [.ref (b + 0), .int 12, .ref (b + 431)]) (rest := []) B cw_L_121 dL_law_801 (ci_L_tick_978 l (σ := (ap b σ [] [] [])) (b := b) (lyA hK) (rI_at 0 7 (fz_I hF 0 7 rfl rfl)) (rI_at 0 8 (fz_I hF 0 8 rfl rfl)) (rI_at 4 2 (fz_I hF 4 2 rfl rfl)) (rR_at 0 3 (fz_R hF 0 3 rfl rfl))) rfl (by decide) rfl (Nat.le_of_ble_eq_true rfl) (by decide) (fun r u hu => ?_)
  refine z_eqs (σ' := (ap b σ [(0, 8, 12), (0, 8, 11), (0, 8, 10), (0, 8, 9), (0, 8, 8), (0, 8, 7), (0, 8, 6), (0, 8, 5), (0, 8, 4), (0, 8, 3), (0, 8, 2), (0, 8, 1)] [(431, 0, 12)] [])) (hu.2.trans ap_ap) ?_
  show zx p l e _ s m _ below meth c g 8 _ _ _ _ 804 [(4, .int 0), (3, .ref (b + 431)), (2, .ref (b + 405)), (1, .ref (b + 0)), (0, .ref bS)] _
  refine z_seti (y := 0) hu.1 ?_
  refine z_istore (lv' := [(5, .int 0), (4, .int 0), (3, .ref (b + 431)), (2, .ref (b + 405)), (1, .ref (b + 0)), (0, .ref bS)]) B dL_law_804 (by decide) rfl ?_
  refine z_aload_n B dL_law_806 rfl 3 rfl ?_
  refine z_aload_n B dL_law_807 rfl 5 rfl ?_
  refine z_iload B dL_law_808 1 rfl ?_
  refine z_iconst (v := 1) B dL_law_810 (by decide) ?_
  refine z_iadd B dL_law_811 ?_
  refine z_seti (y := 1) (by decide) ?_
  refine z_sld (j := 1) (x := 12) B hX hbl hbA (by decide) (show ¬ ((1 : Int32) < 0 ∨ 6 ≤ (1 : Int32).toNatClampNeg) by decide) h_x1 dL_law_812 ?_
  refine z_cVi (As := [.int 12]) (rest := []) B cw_L_123 cx_10 dL_law_813 (ci_X9_tick_981 l (σ := (ap b σ [(0, 8, 12), (0, 8, 11), (0, 8, 10), (0, 8, 9), (0, 8, 8), (0, 8, 7), (0, 8, 6), (0, 8, 5), (0, 8, 4), (0, 8, 3), (0, 8, 2), (0, 8, 1)] [(431, 0, 12)] [])) (b := b) (lyA hK) (rI_at 405 1 (fz_I hF 405 1 rfl rfl)) (rI_at 405 6 (fz_I hF 405 6 rfl rfl)) (rI_at 405 16 (fz_I hF 405 16 rfl rfl))) (lKA (hk_K hK 405 rfl rfl)) rfl (by decide) rfl (Nat.le_of_ble_eq_true rfl) (by decide) (fun r u hu => ?_)
  refine z_eqs (σ' := (ap b σ [(405, 1, 12), (405, 1, 11), (405, 1, 10), (405, 1, 9), (405, 1, 8), (405, 1, 7), (405, 1, 6), (405, 1, 5), (405, 1, 4), (405, 1, 3), (405, 1, 2), (405, 1, 1), (405, 0, 0), (0, 8, 12), (0, 8, 11), (0, 8, 10), (0, 8, 9), (0, 8, 8), (0, 8, 7), (0, 8, 6), (0, 8, 5), (0, 8, 4), (0, 8, 3), (0, 8, 2), (0, 8, 1)] [(431, 0, 12)] [])) (hu.2.trans ap_ap) ?_
  show zx p l e _ s m _ below meth c g 8 _ _ _ _ 816 [(5, .int 0), (4, .int 0), (3, .ref (b + 431)), (2, .ref (b + 405)), (1, .ref (b + 0)), (0, .ref bS)] _
  refine z_seti (y := 12) hu.1 ?_
  refine z_istore (lv' := [(6, .int 12), (5, .int 0), (4, .int 0), (3, .ref (b + 431)), (2, .ref (b + 405)), (1, .ref (b + 0)), (0, .ref bS)]) B dL_law_816 (by decide) rfl ?_
  refine z_aload_n B dL_law_818 rfl 4 rfl ?_
  refine z_cVi (As := []) (rest := []) B cw_L_80 cx_10 dL_law_819 (ci_X9_thrown_95 l (σ := (ap b σ [(405, 1, 12), (405, 1, 11), (405, 1, 10), (405, 1, 9), (405, 1, 8), (405, 1, 7), (405, 1, 6), (405, 1, 5), (405, 1, 4), (405, 1, 3), (405, 1, 2), (405, 1, 1), (405, 0, 0), (0, 8, 12), (0, 8, 11), (0, 8, 10), (0, 8, 9), (0, 8, 8), (0, 8, 7), (0, 8, 6), (0, 8, 5), (0, 8, 4), (0, 8, 3), (0, 8, 2), (0, 8, 1)] [(431, 0, 12)] [])) (b := b) (lyA hK) (rI_at 405 0 rfl)) (lKA (hk_K hK 405 rfl rfl)) rfl (by decide) rfl (Nat.le_of_ble_eq_true rfl) (by decide) (fun r u hu => ?_)
  refine z_eqs (σ' := (ap b σ [(405, 1, 12), (405, 1, 11), (405, 1, 10), (405, 1, 9), (405, 1, 8), (405, 1, 7), (405, 1, 6), (405, 1, 5), (405, 1, 4), (405, 1, 3), (405, 1, 2), (405, 1, 1), (405, 0, 0), (0, 8, 12), (0, 8, 11), (0, 8, 10), (0, 8, 9), (0, 8, 8), (0, 8, 7), (0, 8, 6), (0, 8, 5), (0, 8, 4), (0, 8, 3), (0, 8, 2), (0, 8, 1)] [(431, 0, 12)] [])) hu.2 ?_
  show zx p l e _ s m _ below meth c g 8 _ _ _ _ 822 [(6, .int 12), (5, .int 0), (4, .int 0), (3, .ref (b + 431)), (2, .ref (b + 405)), (1, .ref (b + 0)), (0, .ref bS)] _
  refine z_seti (y := 0) hu.1 ?_
  refine z_iload B dL_law_822 1 rfl ?_
  refine z_icmp_eq (tgt := 829) B dL_law_824 (by decide) (fun _ => ?_) (fun h => absurd (by decide) h)
  refine z_iload B dL_law_829 1 rfl ?_
  refine z_if_ne (tgt := 846) B dL_law_831 (by decide) (fun h => absurd (by decide) h) (fun _ => ?_)
  refine z_aload_n B dL_law_834 rfl 3 rfl ?_
  refine z_iconst (v := 0) B dL_law_835 (by decide) ?_
  refine z_lald (j := 0) (x := 12) B (lKA (hk_K hK 431 rfl rfl)) (by decide) (in_of (lNA (hk_N hK 431 rfl rfl)) (show ¬ ((0 : Int32) < 0 ∨ 1 ≤ (0 : Int32).toNatClampNeg) by decide)) (rJ_at 431 0 rfl) dL_law_836 ?_
  refine z_iload B dL_law_837 0 rfl ?_
  refine z_i2l (v := 12) B dL_law_839 (by decide) ?_
  refine z_lcmp (v := 0) B dL_law_840 (by decide) ?_
  refine z_if_eq (tgt := 846) B dL_law_841 (by decide) (fun _ => ?_) (fun h => absurd (by decide) h)
  refine z_goto (tgt := 1395) B dL_law_846 (by decide) ?_
  exact z_widen (Nat.le_of_ble_eq_true rfl) (Nat.le_of_ble_eq_true rfl) (z_sub _ [2, 6] rfl (kk _))
set_option maxRecDepth 100000 in
set_option maxHeartbeats 4000000 in
theorem lf_11_344 {p : Program} {l : Launch} {e : Env} {s : State} {m : MethodId} {args : Array Value} {below : List Frame} {meth : Method} {c : Code} {g : gx_T} {Q : State → Prop} {σ : sx_T} {b t bS : Nat} {xs : Nat → Int32} (hlt : l.stackTraces = false) (B : zx_B p s m args meth c code RL 8 g) (hX : va_X bS 6 xs s s.heap) (hbl : bS < s.heap.size) (hbA : ¬ gx_b g ≤ bS) (hF : fz_P b t σ) (h_x1 : xs 1 = 13) (kk : ∀ σ', zx p l e room_1 s m args below meth c g 8 600002 7302232 Q σ' 1395 [(4, .int 0), (0, .ref bS)] []) : zx p l e room_1 s m args below meth c g 8 500 100000 Q σ 793 [(4, .int 0), (3, .ref (b + 431)), (2, .ref (b + 405)), (1, .ref (b + 0)), (0, .ref bS)] [] := by
  have hK := fz_lay hF
  refine z_eqs (σ' := (ap b σ [] [] [])) rfl ?_
  refine z_aload_n B dL_law_793 rfl 3 rfl ?_
  refine z_aload_n B dL_law_794 rfl 4 rfl ?_
  refine z_iload B dL_law_795 0 rfl ?_
  refine z_iconst (v := 1) B dL_law_797 (by decide) ?_
  refine z_iadd B dL_law_798 ?_
  refine z_seti (y := 1) (by decide) ?_
  refine z_sld (j := 1) (x := 13) B hX hbl hbA (by decide) (show ¬ ((1 : Int32) < 0 ∨ 6 ≤ (1 : Int32).toNatClampNeg) by decide) h_x1 dL_law_799 ?_
  refine z_aload_n B dL_law_800 rfl 1 rfl ?_
  refine z_cSWi (As := [.ref (b + 0), .int 13, .ref (b + 431)]) (rest := []) B cw_L_121 dL_law_801 (ci_L_tick_983 l (σ := (ap b σ [] [] [])) (b := b) (lyA hK) (rI_at 0 7 (fz_I hF 0 7 rfl rfl)) (rI_at 0 8 (fz_I hF 0 8 rfl rfl)) (rI_at 4 2 (fz_I hF 4 2 rfl rfl)) (rR_at 0 3 (fz_R hF 0 3 rfl rfl))) rfl (by decide) rfl (Nat.le_of_ble_eq_true rfl) (by decide) (fun r u hu => ?_)
  refine z_eqs (σ' := (ap b σ [(0, 8, 13), (0, 8, 12), (0, 8, 11), (0, 8, 10), (0, 8, 9), (0, 8, 8), (0, 8, 7), (0, 8, 6), (0, 8, 5), (0, 8, 4), (0, 8, 3), (0, 8, 2), (0, 8, 1)] [(431, 0, 13)] [])) (hu.2.trans ap_ap) ?_
  show zx p l e _ s m _ below meth c g 8 _ _ _ _ 804 [(4, .int 0), (3, .ref (b + 431)), (2, .ref (b + 405)), (1, .ref (b + 0)), (0, .ref bS)] _
  refine z_seti (y := 0) hu.1 ?_
  refine z_istore (lv' := [(5, .int 0), (4, .int 0), (3, .ref (b + 431)), (2, .ref (b + 405)), (1, .ref (b + 0)), (0, .ref bS)]) B dL_law_804 (by decide) rfl ?_
  refine z_aload_n B dL_law_806 rfl 3 rfl ?_
  refine z_aload_n B dL_law_807 rfl 5 rfl ?_
  refine z_iload B dL_law_808 1 rfl ?_
  refine z_iconst (v := 1) B dL_law_810 (by decide) ?_
  refine z_iadd B dL_law_811 ?_
  refine z_seti (y := 1) (by decide) ?_
  refine z_sld (j := 1) (x := 13) B hX hbl hbA (by decide) (show ¬ ((1 : Int32) < 0 ∨ 6 ≤ (1 : Int32).toNatClampNeg) by decide) h_x1 dL_law_812 ?_
  refine z_cVi (As := [.int 13]) (rest := []) B cw_L_123 cx_10 dL_law_813 (ci_X9_tick_986 l (σ := (ap b σ [(0, 8, 13), (0, 8, 12), (0, 8, 11), (0, 8, 10), (0, 8, 9), (0, 8, 8), (0, 8, 7), (0, 8, 6), (0, 8, 5), (0, 8, 4), (0, 8, 3), (0, 8, 2), (0, 8, 1)] [(431, 0, 13)] [])) (b := b) (lyA hK) (rI_at 405 1 (fz_I hF 405 1 rfl rfl)) (rI_at 405 6 (fz_I hF 405 6 rfl rfl)) (rI_at 405 16 (fz_I hF 405 16 rfl rfl))) (lKA (hk_K hK 405 rfl rfl)) rfl (by decide) rfl (Nat.le_of_ble_eq_true rfl) (by decide) (fun r u hu => ?_)
  refine z_eqs (σ' := (ap b σ [(405, 1, 13), (405, 1, 12), (405, 1, 11), (405, 1, 10), (405, 1, 9), (405, 1, 8), (405, 1, 7), (405, 1, 6), (405, 1, 5), (405, 1, 4), (405, 1, 3), (405, 1, 2), (405, 1, 1), (405, 0, 0), (0, 8, 13), (0, 8, 12), (0, 8, 11), (0, 8, 10), (0, 8, 9), (0, 8, 8), (0, 8, 7), (0, 8, 6), (0, 8, 5), (0, 8, 4), (0, 8, 3), (0, 8, 2), (0, 8, 1)] [(431, 0, 13)] [])) (hu.2.trans ap_ap) ?_
  show zx p l e _ s m _ below meth c g 8 _ _ _ _ 816 [(5, .int 0), (4, .int 0), (3, .ref (b + 431)), (2, .ref (b + 405)), (1, .ref (b + 0)), (0, .ref bS)] _
  refine z_seti (y := 13) hu.1 ?_
  refine z_istore (lv' := [(6, .int 13), (5, .int 0), (4, .int 0), (3, .ref (b + 431)), (2, .ref (b + 405)), (1, .ref (b + 0)), (0, .ref bS)]) B dL_law_816 (by decide) rfl ?_
  refine z_aload_n B dL_law_818 rfl 4 rfl ?_
  refine z_cVi (As := []) (rest := []) B cw_L_80 cx_10 dL_law_819 (ci_X9_thrown_95 l (σ := (ap b σ [(405, 1, 13), (405, 1, 12), (405, 1, 11), (405, 1, 10), (405, 1, 9), (405, 1, 8), (405, 1, 7), (405, 1, 6), (405, 1, 5), (405, 1, 4), (405, 1, 3), (405, 1, 2), (405, 1, 1), (405, 0, 0), (0, 8, 13), (0, 8, 12), (0, 8, 11), (0, 8, 10), (0, 8, 9), (0, 8, 8), (0, 8, 7), (0, 8, 6), (0, 8, 5), (0, 8, 4), (0, 8, 3), (0, 8, 2), (0, 8, 1)] [(431, 0, 13)] [])) (b := b) (lyA hK) (rI_at 405 0 rfl)) (lKA (hk_K hK 405 rfl rfl)) rfl (by decide) rfl (Nat.le_of_ble_eq_true rfl) (by decide) (fun r u hu => ?_)
  refine z_eqs (σ' := (ap b σ [(405, 1, 13), (405, 1, 12), (405, 1, 11), (405, 1, 10), (405, 1, 9), (405, 1, 8), (405, 1, 7), (405, 1, 6), (405, 1, 5), (405, 1, 4), (405, 1, 3), (405, 1, 2), (405, 1, 1), (405, 0, 0), (0, 8, 13), (0, 8, 12), (0, 8, 11), (0, 8, 10), (0, 8, 9), (0, 8, 8), (0, 8, 7), (0, 8, 6), (0, 8, 5), (0, 8, 4), (0, 8, 3), (0, 8, 2), (0, 8, 1)] [(431, 0, 13)] [])) hu.2 ?_
  show zx p l e _ s m _ below meth c g 8 _ _ _ _ 822 [(6, .int 13), (5, .int 0), (4, .int 0), (3, .ref (b + 431)), (2, .ref (b + 405)), (1, .ref (b + 0)), (0, .ref bS)] _
  refine z_seti (y := 0) hu.1 ?_
  refine z_iload B dL_law_822 1 rfl ?_
  refine z_icmp_eq (tgt := 829) B dL_law_824 (by decide) (fun _ => ?_) (fun h => absurd (by decide) h)
  refine z_iload B dL_law_829 1 rfl ?_
  refine z_if_ne (tgt := 846) B dL_law_831 (by decide) (fun h => absurd (by decide) h) (fun _ => ?_)
  refine z_aload_n B dL_law_834 rfl 3 rfl ?_
  refine z_iconst (v := 0) B dL_law_835 (by decide) ?_
  refine z_lald (j := 0) (x := 13) B (lKA (hk_K hK 431 rfl rfl)) (by decide) (in_of (lNA (hk_N hK 431 rfl rfl)) (show ¬ ((0 : Int32) < 0 ∨ 1 ≤ (0 : Int32).toNatClampNeg) by decide)) (rJ_at 431 0 rfl) dL_law_836 ?_
  refine z_iload B dL_law_837 0 rfl ?_
  refine z_i2l (v := 13) B dL_law_839 (by decide) ?_
  refine z_lcmp (v := 0) B dL_law_840 (by decide) ?_
  refine z_if_eq (tgt := 846) B dL_law_841 (by decide) (fun _ => ?_) (fun h => absurd (by decide) h)
  refine z_goto (tgt := 1395) B dL_law_846 (by decide) ?_
  exact z_widen (Nat.le_of_ble_eq_true rfl) (Nat.le_of_ble_eq_true rfl) (z_sub _ [2, 6] rfl (kk _))
set_option maxRecDepth 100000 in
set_option maxHeartbeats 4000000 in
theorem lf_11_345 {p : Program} {l : Launch} {e : Env} {s : State} {m : MethodId} {args : Array Value} {below : List Frame} {meth : Method} {c : Code} {g : gx_T} {Q : State → Prop} {σ : sx_T} {b t bS : Nat} {xs : Nat → Int32} (hlt : l.stackTraces = false) (B : zx_B p s m args meth c code RL 8 g) (hX : va_X bS 6 xs s s.heap) (hbl : bS < s.heap.size) (hbA : ¬ gx_b g ≤ bS) (hF : fz_P b t σ) (h_x1 : xs 1 = 14) (kk : ∀ σ', zx p l e room_1 s m args below meth c g 8 600002 7302232 Q σ' 1395 [(4, .int 0), (0, .ref bS)] []) : zx p l e room_1 s m args below meth c g 8 500 100000 Q σ 793 [(4, .int 0), (3, .ref (b + 431)), (2, .ref (b + 405)), (1, .ref (b + 0)), (0, .ref bS)] [] := by
  have hK := fz_lay hF
  refine z_eqs (σ' := (ap b σ [] [] [])) rfl ?_
  refine z_aload_n B dL_law_793 rfl 3 rfl ?_
  refine z_aload_n B dL_law_794 rfl 4 rfl ?_
  refine z_iload B dL_law_795 0 rfl ?_
  refine z_iconst (v := 1) B dL_law_797 (by decide) ?_
  refine z_iadd B dL_law_798 ?_
  refine z_seti (y := 1) (by decide) ?_
  refine z_sld (j := 1) (x := 14) B hX hbl hbA (by decide) (show ¬ ((1 : Int32) < 0 ∨ 6 ≤ (1 : Int32).toNatClampNeg) by decide) h_x1 dL_law_799 ?_
  refine z_aload_n B dL_law_800 rfl 1 rfl ?_
  refine z_cSWi (As := [.ref (b + 0), .int 14, .ref (b + 431)]) (rest := []) B cw_L_121 dL_law_801 (ci_L_tick_988 l (σ := (ap b σ [] [] [])) (b := b) (lyA hK) (rI_at 0 7 (fz_I hF 0 7 rfl rfl)) (rI_at 0 8 (fz_I hF 0 8 rfl rfl)) (rI_at 4 2 (fz_I hF 4 2 rfl rfl)) (rR_at 0 3 (fz_R hF 0 3 rfl rfl))) rfl (by decide) rfl (Nat.le_of_ble_eq_true rfl) (by decide) (fun r u hu => ?_)
  refine z_eqs (σ' := (ap b σ [(0, 8, 14), (0, 8, 13), (0, 8, 12), (0, 8, 11), (0, 8, 10), (0, 8, 9), (0, 8, 8), (0, 8, 7), (0, 8, 6), (0, 8, 5), (0, 8, 4), (0, 8, 3), (0, 8, 2), (0, 8, 1)] [(431, 0, 14)] [])) (hu.2.trans ap_ap) ?_
  show zx p l e _ s m _ below meth c g 8 _ _ _ _ 804 [(4, .int 0), (3, .ref (b + 431)), (2, .ref (b + 405)), (1, .ref (b + 0)), (0, .ref bS)] _
  refine z_seti (y := 0) hu.1 ?_
  refine z_istore (lv' := [(5, .int 0), (4, .int 0), (3, .ref (b + 431)), (2, .ref (b + 405)), (1, .ref (b + 0)), (0, .ref bS)]) B dL_law_804 (by decide) rfl ?_
  refine z_aload_n B dL_law_806 rfl 3 rfl ?_
  refine z_aload_n B dL_law_807 rfl 5 rfl ?_
  refine z_iload B dL_law_808 1 rfl ?_
  refine z_iconst (v := 1) B dL_law_810 (by decide) ?_
  refine z_iadd B dL_law_811 ?_
  refine z_seti (y := 1) (by decide) ?_
  refine z_sld (j := 1) (x := 14) B hX hbl hbA (by decide) (show ¬ ((1 : Int32) < 0 ∨ 6 ≤ (1 : Int32).toNatClampNeg) by decide) h_x1 dL_law_812 ?_
  refine z_cVi (As := [.int 14]) (rest := []) B cw_L_123 cx_10 dL_law_813 (ci_X9_tick_991 l (σ := (ap b σ [(0, 8, 14), (0, 8, 13), (0, 8, 12), (0, 8, 11), (0, 8, 10), (0, 8, 9), (0, 8, 8), (0, 8, 7), (0, 8, 6), (0, 8, 5), (0, 8, 4), (0, 8, 3), (0, 8, 2), (0, 8, 1)] [(431, 0, 14)] [])) (b := b) (lyA hK) (rI_at 405 1 (fz_I hF 405 1 rfl rfl)) (rI_at 405 6 (fz_I hF 405 6 rfl rfl)) (rI_at 405 16 (fz_I hF 405 16 rfl rfl))) (lKA (hk_K hK 405 rfl rfl)) rfl (by decide) rfl (Nat.le_of_ble_eq_true rfl) (by decide) (fun r u hu => ?_)
  refine z_eqs (σ' := (ap b σ [(405, 1, 14), (405, 1, 13), (405, 1, 12), (405, 1, 11), (405, 1, 10), (405, 1, 9), (405, 1, 8), (405, 1, 7), (405, 1, 6), (405, 1, 5), (405, 1, 4), (405, 1, 3), (405, 1, 2), (405, 1, 1), (405, 0, 0), (0, 8, 14), (0, 8, 13), (0, 8, 12), (0, 8, 11), (0, 8, 10), (0, 8, 9), (0, 8, 8), (0, 8, 7), (0, 8, 6), (0, 8, 5), (0, 8, 4), (0, 8, 3), (0, 8, 2), (0, 8, 1)] [(431, 0, 14)] [])) (hu.2.trans ap_ap) ?_
  show zx p l e _ s m _ below meth c g 8 _ _ _ _ 816 [(5, .int 0), (4, .int 0), (3, .ref (b + 431)), (2, .ref (b + 405)), (1, .ref (b + 0)), (0, .ref bS)] _
  refine z_seti (y := 14) hu.1 ?_
  refine z_istore (lv' := [(6, .int 14), (5, .int 0), (4, .int 0), (3, .ref (b + 431)), (2, .ref (b + 405)), (1, .ref (b + 0)), (0, .ref bS)]) B dL_law_816 (by decide) rfl ?_
  refine z_aload_n B dL_law_818 rfl 4 rfl ?_
  refine z_cVi (As := []) (rest := []) B cw_L_80 cx_10 dL_law_819 (ci_X9_thrown_95 l (σ := (ap b σ [(405, 1, 14), (405, 1, 13), (405, 1, 12), (405, 1, 11), (405, 1, 10), (405, 1, 9), (405, 1, 8), (405, 1, 7), (405, 1, 6), (405, 1, 5), (405, 1, 4), (405, 1, 3), (405, 1, 2), (405, 1, 1), (405, 0, 0), (0, 8, 14), (0, 8, 13), (0, 8, 12), (0, 8, 11), (0, 8, 10), (0, 8, 9), (0, 8, 8), (0, 8, 7), (0, 8, 6), (0, 8, 5), (0, 8, 4), (0, 8, 3), (0, 8, 2), (0, 8, 1)] [(431, 0, 14)] [])) (b := b) (lyA hK) (rI_at 405 0 rfl)) (lKA (hk_K hK 405 rfl rfl)) rfl (by decide) rfl (Nat.le_of_ble_eq_true rfl) (by decide) (fun r u hu => ?_)
  refine z_eqs (σ' := (ap b σ [(405, 1, 14), (405, 1, 13), (405, 1, 12), (405, 1, 11), (405, 1, 10), (405, 1, 9), (405, 1, 8), (405, 1, 7), (405, 1, 6), (405, 1, 5), (405, 1, 4), (405, 1, 3), (405, 1, 2), (405, 1, 1), (405, 0, 0), (0, 8, 14), (0, 8, 13), (0, 8, 12), (0, 8, 11), (0, 8, 10), (0, 8, 9), (0, 8, 8), (0, 8, 7), (0, 8, 6), (0, 8, 5), (0, 8, 4), (0, 8, 3), (0, 8, 2), (0, 8, 1)] [(431, 0, 14)] [])) hu.2 ?_
  show zx p l e _ s m _ below meth c g 8 _ _ _ _ 822 [(6, .int 14), (5, .int 0), (4, .int 0), (3, .ref (b + 431)), (2, .ref (b + 405)), (1, .ref (b + 0)), (0, .ref bS)] _
  refine z_seti (y := 0) hu.1 ?_
  refine z_iload B dL_law_822 1 rfl ?_
  refine z_icmp_eq (tgt := 829) B dL_law_824 (by decide) (fun _ => ?_) (fun h => absurd (by decide) h)
  refine z_iload B dL_law_829 1 rfl ?_
  refine z_if_ne (tgt := 846) B dL_law_831 (by decide) (fun h => absurd (by decide) h) (fun _ => ?_)
  refine z_aload_n B dL_law_834 rfl 3 rfl ?_
  refine z_iconst (v := 0) B dL_law_835 (by decide) ?_
  refine z_lald (j := 0) (x := 14) B (lKA (hk_K hK 431 rfl rfl)) (by decide) (in_of (lNA (hk_N hK 431 rfl rfl)) (show ¬ ((0 : Int32) < 0 ∨ 1 ≤ (0 : Int32).toNatClampNeg) by decide)) (rJ_at 431 0 rfl) dL_law_836 ?_
  refine z_iload B dL_law_837 0 rfl ?_
  refine z_i2l (v := 14) B dL_law_839 (by decide) ?_
  refine z_lcmp (v := 0) B dL_law_840 (by decide) ?_
  refine z_if_eq (tgt := 846) B dL_law_841 (by decide) (fun _ => ?_) (fun h => absurd (by decide) h)
  refine z_goto (tgt := 1395) B dL_law_846 (by decide) ?_
  exact z_widen (Nat.le_of_ble_eq_true rfl) (Nat.le_of_ble_eq_true rfl) (z_sub _ [2, 6] rfl (kk _))
set_option maxRecDepth 100000 in
set_option maxHeartbeats 4000000 in
theorem lf_11_346 {p : Program} {l : Launch} {e : Env} {s : State} {m : MethodId} {args : Array Value} {below : List Frame} {meth : Method} {c : Code} {g : gx_T} {Q : State → Prop} {σ : sx_T} {b t bS : Nat} {xs : Nat → Int32} (hlt : l.stackTraces = false) (B : zx_B p s m args meth c code RL 8 g) (hX : va_X bS 6 xs s s.heap) (hbl : bS < s.heap.size) (hbA : ¬ gx_b g ≤ bS) (hF : fz_P b t σ) (h_x1 : xs 1 = 15) (kk : ∀ σ', zx p l e room_1 s m args below meth c g 8 600002 7302232 Q σ' 1395 [(4, .int 0), (0, .ref bS)] []) : zx p l e room_1 s m args below meth c g 8 500 100000 Q σ 793 [(4, .int 0), (3, .ref (b + 431)), (2, .ref (b + 405)), (1, .ref (b + 0)), (0, .ref bS)] [] := by
  have hK := fz_lay hF
  refine z_eqs (σ' := (ap b σ [] [] [])) rfl ?_
  refine z_aload_n B dL_law_793 rfl 3 rfl ?_
  refine z_aload_n B dL_law_794 rfl 4 rfl ?_
  refine z_iload B dL_law_795 0 rfl ?_
  refine z_iconst (v := 1) B dL_law_797 (by decide) ?_
  refine z_iadd B dL_law_798 ?_
  refine z_seti (y := 1) (by decide) ?_
  refine z_sld (j := 1) (x := 15) B hX hbl hbA (by decide) (show ¬ ((1 : Int32) < 0 ∨ 6 ≤ (1 : Int32).toNatClampNeg) by decide) h_x1 dL_law_799 ?_
  refine z_aload_n B dL_law_800 rfl 1 rfl ?_
  refine z_cSWi (As := [.ref (b + 0), .int 15, .ref (b + 431)]) (rest := []) B cw_L_121 dL_law_801 (ci_L_tick_993 l (σ := (ap b σ [] [] [])) (b := b) (lyA hK) (rI_at 0 7 (fz_I hF 0 7 rfl rfl)) (rI_at 0 8 (fz_I hF 0 8 rfl rfl)) (rI_at 4 2 (fz_I hF 4 2 rfl rfl)) (rR_at 0 3 (fz_R hF 0 3 rfl rfl))) rfl (by decide) rfl (Nat.le_of_ble_eq_true rfl) (by decide) (fun r u hu => ?_)
  refine z_eqs (σ' := (ap b σ [(0, 8, 15), (0, 8, 14), (0, 8, 13), (0, 8, 12), (0, 8, 11), (0, 8, 10), (0, 8, 9), (0, 8, 8), (0, 8, 7), (0, 8, 6), (0, 8, 5), (0, 8, 4), (0, 8, 3), (0, 8, 2), (0, 8, 1)] [(431, 0, 15)] [])) (hu.2.trans ap_ap) ?_
  show zx p l e _ s m _ below meth c g 8 _ _ _ _ 804 [(4, .int 0), (3, .ref (b + 431)), (2, .ref (b + 405)), (1, .ref (b + 0)), (0, .ref bS)] _
  refine z_seti (y := 0) hu.1 ?_
  refine z_istore (lv' := [(5, .int 0), (4, .int 0), (3, .ref (b + 431)), (2, .ref (b + 405)), (1, .ref (b + 0)), (0, .ref bS)]) B dL_law_804 (by decide) rfl ?_
  refine z_aload_n B dL_law_806 rfl 3 rfl ?_
  refine z_aload_n B dL_law_807 rfl 5 rfl ?_
  refine z_iload B dL_law_808 1 rfl ?_
  refine z_iconst (v := 1) B dL_law_810 (by decide) ?_
  refine z_iadd B dL_law_811 ?_
  refine z_seti (y := 1) (by decide) ?_
  refine z_sld (j := 1) (x := 15) B hX hbl hbA (by decide) (show ¬ ((1 : Int32) < 0 ∨ 6 ≤ (1 : Int32).toNatClampNeg) by decide) h_x1 dL_law_812 ?_
  refine z_cVi (As := [.int 15]) (rest := []) B cw_L_123 cx_10 dL_law_813 (ci_X9_tick_996 l (σ := (ap b σ [(0, 8, 15), (0, 8, 14), (0, 8, 13), (0, 8, 12), (0, 8, 11), (0, 8, 10), (0, 8, 9), (0, 8, 8), (0, 8, 7), (0, 8, 6), (0, 8, 5), (0, 8, 4), (0, 8, 3), (0, 8, 2), (0, 8, 1)] [(431, 0, 15)] [])) (b := b) (lyA hK) (rI_at 405 1 (fz_I hF 405 1 rfl rfl)) (rI_at 405 6 (fz_I hF 405 6 rfl rfl)) (rI_at 405 16 (fz_I hF 405 16 rfl rfl))) (lKA (hk_K hK 405 rfl rfl)) rfl (by decide) rfl (Nat.le_of_ble_eq_true rfl) (by decide) (fun r u hu => ?_)
  refine z_eqs (σ' := (ap b σ [(405, 1, 15), (405, 1, 14), (405, 1, 13), (405, 1, 12), (405, 1, 11), (405, 1, 10), (405, 1, 9), (405, 1, 8), (405, 1, 7), (405, 1, 6), (405, 1, 5), (405, 1, 4), (405, 1, 3), (405, 1, 2), (405, 1, 1), (405, 0, 0), (0, 8, 15), (0, 8, 14), (0, 8, 13), (0, 8, 12), (0, 8, 11), (0, 8, 10), (0, 8, 9), (0, 8, 8), (0, 8, 7), (0, 8, 6), (0, 8, 5), (0, 8, 4), (0, 8, 3), (0, 8, 2), (0, 8, 1)] [(431, 0, 15)] [])) (hu.2.trans ap_ap) ?_
  show zx p l e _ s m _ below meth c g 8 _ _ _ _ 816 [(5, .int 0), (4, .int 0), (3, .ref (b + 431)), (2, .ref (b + 405)), (1, .ref (b + 0)), (0, .ref bS)] _
  refine z_seti (y := 15) hu.1 ?_
  refine z_istore (lv' := [(6, .int 15), (5, .int 0), (4, .int 0), (3, .ref (b + 431)), (2, .ref (b + 405)), (1, .ref (b + 0)), (0, .ref bS)]) B dL_law_816 (by decide) rfl ?_
  refine z_aload_n B dL_law_818 rfl 4 rfl ?_
  refine z_cVi (As := []) (rest := []) B cw_L_80 cx_10 dL_law_819 (ci_X9_thrown_95 l (σ := (ap b σ [(405, 1, 15), (405, 1, 14), (405, 1, 13), (405, 1, 12), (405, 1, 11), (405, 1, 10), (405, 1, 9), (405, 1, 8), (405, 1, 7), (405, 1, 6), (405, 1, 5), (405, 1, 4), (405, 1, 3), (405, 1, 2), (405, 1, 1), (405, 0, 0), (0, 8, 15), (0, 8, 14), (0, 8, 13), (0, 8, 12), (0, 8, 11), (0, 8, 10), (0, 8, 9), (0, 8, 8), (0, 8, 7), (0, 8, 6), (0, 8, 5), (0, 8, 4), (0, 8, 3), (0, 8, 2), (0, 8, 1)] [(431, 0, 15)] [])) (b := b) (lyA hK) (rI_at 405 0 rfl)) (lKA (hk_K hK 405 rfl rfl)) rfl (by decide) rfl (Nat.le_of_ble_eq_true rfl) (by decide) (fun r u hu => ?_)
  refine z_eqs (σ' := (ap b σ [(405, 1, 15), (405, 1, 14), (405, 1, 13), (405, 1, 12), (405, 1, 11), (405, 1, 10), (405, 1, 9), (405, 1, 8), (405, 1, 7), (405, 1, 6), (405, 1, 5), (405, 1, 4), (405, 1, 3), (405, 1, 2), (405, 1, 1), (405, 0, 0), (0, 8, 15), (0, 8, 14), (0, 8, 13), (0, 8, 12), (0, 8, 11), (0, 8, 10), (0, 8, 9), (0, 8, 8), (0, 8, 7), (0, 8, 6), (0, 8, 5), (0, 8, 4), (0, 8, 3), (0, 8, 2), (0, 8, 1)] [(431, 0, 15)] [])) hu.2 ?_
  show zx p l e _ s m _ below meth c g 8 _ _ _ _ 822 [(6, .int 15), (5, .int 0), (4, .int 0), (3, .ref (b + 431)), (2, .ref (b + 405)), (1, .ref (b + 0)), (0, .ref bS)] _
  refine z_seti (y := 0) hu.1 ?_
  refine z_iload B dL_law_822 1 rfl ?_
  refine z_icmp_eq (tgt := 829) B dL_law_824 (by decide) (fun _ => ?_) (fun h => absurd (by decide) h)
  refine z_iload B dL_law_829 1 rfl ?_
  refine z_if_ne (tgt := 846) B dL_law_831 (by decide) (fun h => absurd (by decide) h) (fun _ => ?_)
  refine z_aload_n B dL_law_834 rfl 3 rfl ?_
  refine z_iconst (v := 0) B dL_law_835 (by decide) ?_
  refine z_lald (j := 0) (x := 15) B (lKA (hk_K hK 431 rfl rfl)) (by decide) (in_of (lNA (hk_N hK 431 rfl rfl)) (show ¬ ((0 : Int32) < 0 ∨ 1 ≤ (0 : Int32).toNatClampNeg) by decide)) (rJ_at 431 0 rfl) dL_law_836 ?_
  refine z_iload B dL_law_837 0 rfl ?_
  refine z_i2l (v := 15) B dL_law_839 (by decide) ?_
  refine z_lcmp (v := 0) B dL_law_840 (by decide) ?_
  refine z_if_eq (tgt := 846) B dL_law_841 (by decide) (fun _ => ?_) (fun h => absurd (by decide) h)
  refine z_goto (tgt := 1395) B dL_law_846 (by decide) ?_
  exact z_widen (Nat.le_of_ble_eq_true rfl) (Nat.le_of_ble_eq_true rfl) (z_sub _ [2, 6] rfl (kk _))
set_option maxRecDepth 100000 in
set_option maxHeartbeats 4000000 in
theorem lf_11_347 {p : Program} {l : Launch} {e : Env} {s : State} {m : MethodId} {args : Array Value} {below : List Frame} {meth : Method} {c : Code} {g : gx_T} {Q : State → Prop} {σ : sx_T} {b t bS : Nat} {xs : Nat → Int32} (hlt : l.stackTraces = false) (B : zx_B p s m args meth c code RL 8 g) (hX : va_X bS 6 xs s s.heap) (hbl : bS < s.heap.size) (hbA : ¬ gx_b g ≤ bS) (hF : fz_P b t σ) (h_x1 : xs 1 = 16) (kk : ∀ σ', zx p l e room_1 s m args below meth c g 8 600002 7302232 Q σ' 1395 [(4, .int 0), (0, .ref bS)] []) : zx p l e room_1 s m args below meth c g 8 500 100000 Q σ 793 [(4, .int 0), (3, .ref (b + 431)), (2, .ref (b + 405)), (1, .ref (b + 0)), (0, .ref bS)] [] := by
  have hK := fz_lay hF
  refine z_eqs (σ' := (ap b σ [] [] [])) rfl ?_
  refine z_aload_n B dL_law_793 rfl 3 rfl ?_
  refine z_aload_n B dL_law_794 rfl 4 rfl ?_
  refine z_iload B dL_law_795 0 rfl ?_
  refine z_iconst (v := 1) B dL_law_797 (by decide) ?_
  refine z_iadd B dL_law_798 ?_
  refine z_seti (y := 1) (by decide) ?_
  refine z_sld (j := 1) (x := 16) B hX hbl hbA (by decide) (show ¬ ((1 : Int32) < 0 ∨ 6 ≤ (1 : Int32).toNatClampNeg) by decide) h_x1 dL_law_799 ?_
  refine z_aload_n B dL_law_800 rfl 1 rfl ?_
  refine z_cSWi (As := [.ref (b + 0), .int 16, .ref (b + 431)]) (rest := []) B cw_L_121 dL_law_801 (ci_L_tick_998 l (σ := (ap b σ [] [] [])) (b := b) (lyA hK) (rI_at 0 7 (fz_I hF 0 7 rfl rfl)) (rI_at 0 8 (fz_I hF 0 8 rfl rfl)) (rI_at 4 2 (fz_I hF 4 2 rfl rfl)) (rR_at 0 3 (fz_R hF 0 3 rfl rfl))) rfl (by decide) rfl (Nat.le_of_ble_eq_true rfl) (by decide) (fun r u hu => ?_)
  refine z_eqs (σ' := (ap b σ [(0, 8, 16), (0, 8, 15), (0, 8, 14), (0, 8, 13), (0, 8, 12), (0, 8, 11), (0, 8, 10), (0, 8, 9), (0, 8, 8), (0, 8, 7), (0, 8, 6), (0, 8, 5), (0, 8, 4), (0, 8, 3), (0, 8, 2), (0, 8, 1)] [(431, 0, 16)] [])) (hu.2.trans ap_ap) ?_
  show zx p l e _ s m _ below meth c g 8 _ _ _ _ 804 [(4, .int 0), (3, .ref (b + 431)), (2, .ref (b + 405)), (1, .ref (b + 0)), (0, .ref bS)] _
  refine z_seti (y := 0) hu.1 ?_
  refine z_istore (lv' := [(5, .int 0), (4, .int 0), (3, .ref (b + 431)), (2, .ref (b + 405)), (1, .ref (b + 0)), (0, .ref bS)]) B dL_law_804 (by decide) rfl ?_
  refine z_aload_n B dL_law_806 rfl 3 rfl ?_
  refine z_aload_n B dL_law_807 rfl 5 rfl ?_
  refine z_iload B dL_law_808 1 rfl ?_
  refine z_iconst (v := 1) B dL_law_810 (by decide) ?_
  refine z_iadd B dL_law_811 ?_
  refine z_seti (y := 1) (by decide) ?_
  refine z_sld (j := 1) (x := 16) B hX hbl hbA (by decide) (show ¬ ((1 : Int32) < 0 ∨ 6 ≤ (1 : Int32).toNatClampNeg) by decide) h_x1 dL_law_812 ?_
  refine z_cVi (As := [.int 16]) (rest := []) B cw_L_123 cx_10 dL_law_813 (ci_X9_tick_1001 l (σ := (ap b σ [(0, 8, 16), (0, 8, 15), (0, 8, 14), (0, 8, 13), (0, 8, 12), (0, 8, 11), (0, 8, 10), (0, 8, 9), (0, 8, 8), (0, 8, 7), (0, 8, 6), (0, 8, 5), (0, 8, 4), (0, 8, 3), (0, 8, 2), (0, 8, 1)] [(431, 0, 16)] [])) (b := b) (lyA hK) (rI_at 405 1 (fz_I hF 405 1 rfl rfl)) (rI_at 405 6 (fz_I hF 405 6 rfl rfl)) (rI_at 405 16 (fz_I hF 405 16 rfl rfl))) (lKA (hk_K hK 405 rfl rfl)) rfl (by decide) rfl (Nat.le_of_ble_eq_true rfl) (by decide) (fun r u hu => ?_)
  refine z_eqs (σ' := (ap b σ [(405, 1, 16), (405, 1, 15), (405, 1, 14), (405, 1, 13), (405, 1, 12), (405, 1, 11), (405, 1, 10), (405, 1, 9), (405, 1, 8), (405, 1, 7), (405, 1, 6), (405, 1, 5), (405, 1, 4), (405, 1, 3), (405, 1, 2), (405, 1, 1), (405, 0, 0), (0, 8, 16), (0, 8, 15), (0, 8, 14), (0, 8, 13), (0, 8, 12), (0, 8, 11), (0, 8, 10), (0, 8, 9), (0, 8, 8), (0, 8, 7), (0, 8, 6), (0, 8, 5), (0, 8, 4), (0, 8, 3), (0, 8, 2), (0, 8, 1)] [(431, 0, 16)] [])) (hu.2.trans ap_ap) ?_
  show zx p l e _ s m _ below meth c g 8 _ _ _ _ 816 [(5, .int 0), (4, .int 0), (3, .ref (b + 431)), (2, .ref (b + 405)), (1, .ref (b + 0)), (0, .ref bS)] _
  refine z_seti (y := 16) hu.1 ?_
  refine z_istore (lv' := [(6, .int 16), (5, .int 0), (4, .int 0), (3, .ref (b + 431)), (2, .ref (b + 405)), (1, .ref (b + 0)), (0, .ref bS)]) B dL_law_816 (by decide) rfl ?_
  refine z_aload_n B dL_law_818 rfl 4 rfl ?_
  refine z_cVi (As := []) (rest := []) B cw_L_80 cx_10 dL_law_819 (ci_X9_thrown_95 l (σ := (ap b σ [(405, 1, 16), (405, 1, 15), (405, 1, 14), (405, 1, 13), (405, 1, 12), (405, 1, 11), (405, 1, 10), (405, 1, 9), (405, 1, 8), (405, 1, 7), (405, 1, 6), (405, 1, 5), (405, 1, 4), (405, 1, 3), (405, 1, 2), (405, 1, 1), (405, 0, 0), (0, 8, 16), (0, 8, 15), (0, 8, 14), (0, 8, 13), (0, 8, 12), (0, 8, 11), (0, 8, 10), (0, 8, 9), (0, 8, 8), (0, 8, 7), (0, 8, 6), (0, 8, 5), (0, 8, 4), (0, 8, 3), (0, 8, 2), (0, 8, 1)] [(431, 0, 16)] [])) (b := b) (lyA hK) (rI_at 405 0 rfl)) (lKA (hk_K hK 405 rfl rfl)) rfl (by decide) rfl (Nat.le_of_ble_eq_true rfl) (by decide) (fun r u hu => ?_)
  refine z_eqs (σ' := (ap b σ [(405, 1, 16), (405, 1, 15), (405, 1, 14), (405, 1, 13), (405, 1, 12), (405, 1, 11), (405, 1, 10), (405, 1, 9), (405, 1, 8), (405, 1, 7), (405, 1, 6), (405, 1, 5), (405, 1, 4), (405, 1, 3), (405, 1, 2), (405, 1, 1), (405, 0, 0), (0, 8, 16), (0, 8, 15), (0, 8, 14), (0, 8, 13), (0, 8, 12), (0, 8, 11), (0, 8, 10), (0, 8, 9), (0, 8, 8), (0, 8, 7), (0, 8, 6), (0, 8, 5), (0, 8, 4), (0, 8, 3), (0, 8, 2), (0, 8, 1)] [(431, 0, 16)] [])) hu.2 ?_
  show zx p l e _ s m _ below meth c g 8 _ _ _ _ 822 [(6, .int 16), (5, .int 0), (4, .int 0), (3, .ref (b + 431)), (2, .ref (b + 405)), (1, .ref (b + 0)), (0, .ref bS)] _
  refine z_seti (y := 0) hu.1 ?_
  refine z_iload B dL_law_822 1 rfl ?_
  refine z_icmp_eq (tgt := 829) B dL_law_824 (by decide) (fun _ => ?_) (fun h => absurd (by decide) h)
  refine z_iload B dL_law_829 1 rfl ?_
  refine z_if_ne (tgt := 846) B dL_law_831 (by decide) (fun h => absurd (by decide) h) (fun _ => ?_)
  refine z_aload_n B dL_law_834 rfl 3 rfl ?_
  refine z_iconst (v := 0) B dL_law_835 (by decide) ?_
  refine z_lald (j := 0) (x := 16) B (lKA (hk_K hK 431 rfl rfl)) (by decide) (in_of (lNA (hk_N hK 431 rfl rfl)) (show ¬ ((0 : Int32) < 0 ∨ 1 ≤ (0 : Int32).toNatClampNeg) by decide)) (rJ_at 431 0 rfl) dL_law_836 ?_
  refine z_iload B dL_law_837 0 rfl ?_
  refine z_i2l (v := 16) B dL_law_839 (by decide) ?_
  refine z_lcmp (v := 0) B dL_law_840 (by decide) ?_
  refine z_if_eq (tgt := 846) B dL_law_841 (by decide) (fun _ => ?_) (fun h => absurd (by decide) h)
  refine z_goto (tgt := 1395) B dL_law_846 (by decide) ?_
  exact z_widen (Nat.le_of_ble_eq_true rfl) (Nat.le_of_ble_eq_true rfl) (z_sub _ [2, 6] rfl (kk _))
set_option maxRecDepth 100000 in
set_option maxHeartbeats 4000000 in
theorem lf_11_348 {p : Program} {l : Launch} {e : Env} {s : State} {m : MethodId} {args : Array Value} {below : List Frame} {meth : Method} {c : Code} {g : gx_T} {Q : State → Prop} {σ : sx_T} {b t bS : Nat} {xs : Nat → Int32} (hlt : l.stackTraces = false) (B : zx_B p s m args meth c code RL 8 g) (hX : va_X bS 6 xs s s.heap) (hbl : bS < s.heap.size) (hbA : ¬ gx_b g ≤ bS) (hF : fz_P b t σ) (h_x1 : xs 1 = 17) (kk : ∀ σ', zx p l e room_1 s m args below meth c g 8 600002 7302232 Q σ' 1395 [(4, .int 0), (0, .ref bS)] []) : zx p l e room_1 s m args below meth c g 8 500 100000 Q σ 793 [(4, .int 0), (3, .ref (b + 431)), (2, .ref (b + 405)), (1, .ref (b + 0)), (0, .ref bS)] [] := by
  have hK := fz_lay hF
  refine z_eqs (σ' := (ap b σ [] [] [])) rfl ?_
  refine z_aload_n B dL_law_793 rfl 3 rfl ?_
  refine z_aload_n B dL_law_794 rfl 4 rfl ?_
  refine z_iload B dL_law_795 0 rfl ?_
  refine z_iconst (v := 1) B dL_law_797 (by decide) ?_
  refine z_iadd B dL_law_798 ?_
  refine z_seti (y := 1) (by decide) ?_
  refine z_sld (j := 1) (x := 17) B hX hbl hbA (by decide) (show ¬ ((1 : Int32) < 0 ∨ 6 ≤ (1 : Int32).toNatClampNeg) by decide) h_x1 dL_law_799 ?_
  refine z_aload_n B dL_law_800 rfl 1 rfl ?_
  refine z_cSWi (As := [.ref (b + 0), .int 17, .ref (b + 431)]) (rest := []) B cw_L_121 dL_law_801 (ci_L_tick_1003 l (σ := (ap b σ [] [] [])) (b := b) (lyA hK) (rI_at 0 7 (fz_I hF 0 7 rfl rfl)) (rI_at 0 8 (fz_I hF 0 8 rfl rfl)) (rI_at 4 2 (fz_I hF 4 2 rfl rfl)) (rR_at 0 3 (fz_R hF 0 3 rfl rfl))) rfl (by decide) rfl (Nat.le_of_ble_eq_true rfl) (by decide) (fun r u hu => ?_)
  refine z_eqs (σ' := (ap b σ [(0, 8, 17), (0, 8, 16), (0, 8, 15), (0, 8, 14), (0, 8, 13), (0, 8, 12), (0, 8, 11), (0, 8, 10), (0, 8, 9), (0, 8, 8), (0, 8, 7), (0, 8, 6), (0, 8, 5), (0, 8, 4), (0, 8, 3), (0, 8, 2), (0, 8, 1)] [(431, 0, 17)] [])) (hu.2.trans ap_ap) ?_
  show zx p l e _ s m _ below meth c g 8 _ _ _ _ 804 [(4, .int 0), (3, .ref (b + 431)), (2, .ref (b + 405)), (1, .ref (b + 0)), (0, .ref bS)] _
  refine z_seti (y := 0) hu.1 ?_
  refine z_istore (lv' := [(5, .int 0), (4, .int 0), (3, .ref (b + 431)), (2, .ref (b + 405)), (1, .ref (b + 0)), (0, .ref bS)]) B dL_law_804 (by decide) rfl ?_
  refine z_aload_n B dL_law_806 rfl 3 rfl ?_
  refine z_aload_n B dL_law_807 rfl 5 rfl ?_
  refine z_iload B dL_law_808 1 rfl ?_
  refine z_iconst (v := 1) B dL_law_810 (by decide) ?_
  refine z_iadd B dL_law_811 ?_
  refine z_seti (y := 1) (by decide) ?_
  refine z_sld (j := 1) (x := 17) B hX hbl hbA (by decide) (show ¬ ((1 : Int32) < 0 ∨ 6 ≤ (1 : Int32).toNatClampNeg) by decide) h_x1 dL_law_812 ?_
  refine z_cVi (As := [.int 17]) (rest := []) B cw_L_123 cx_10 dL_law_813 (ci_X9_tick_1006 l (σ := (ap b σ [(0, 8, 17), (0, 8, 16), (0, 8, 15), (0, 8, 14), (0, 8, 13), (0, 8, 12), (0, 8, 11), (0, 8, 10), (0, 8, 9), (0, 8, 8), (0, 8, 7), (0, 8, 6), (0, 8, 5), (0, 8, 4), (0, 8, 3), (0, 8, 2), (0, 8, 1)] [(431, 0, 17)] [])) (b := b) (lyA hK) (rI_at 405 1 (fz_I hF 405 1 rfl rfl)) (rI_at 405 6 (fz_I hF 405 6 rfl rfl)) (rI_at 405 16 (fz_I hF 405 16 rfl rfl))) (lKA (hk_K hK 405 rfl rfl)) rfl (by decide) rfl (Nat.le_of_ble_eq_true rfl) (by decide) (fun r u hu => ?_)
  refine z_eqs (σ' := (ap b σ [(405, 1, 17), (405, 1, 16), (405, 1, 15), (405, 1, 14), (405, 1, 13), (405, 1, 12), (405, 1, 11), (405, 1, 10), (405, 1, 9), (405, 1, 8), (405, 1, 7), (405, 1, 6), (405, 1, 5), (405, 1, 4), (405, 1, 3), (405, 1, 2), (405, 1, 1), (405, 0, 0), (0, 8, 17), (0, 8, 16), (0, 8, 15), (0, 8, 14), (0, 8, 13), (0, 8, 12), (0, 8, 11), (0, 8, 10), (0, 8, 9), (0, 8, 8), (0, 8, 7), (0, 8, 6), (0, 8, 5), (0, 8, 4), (0, 8, 3), (0, 8, 2), (0, 8, 1)] [(431, 0, 17)] [])) (hu.2.trans ap_ap) ?_
  show zx p l e _ s m _ below meth c g 8 _ _ _ _ 816 [(5, .int 0), (4, .int 0), (3, .ref (b + 431)), (2, .ref (b + 405)), (1, .ref (b + 0)), (0, .ref bS)] _
  refine z_seti (y := 17) hu.1 ?_
  refine z_istore (lv' := [(6, .int 17), (5, .int 0), (4, .int 0), (3, .ref (b + 431)), (2, .ref (b + 405)), (1, .ref (b + 0)), (0, .ref bS)]) B dL_law_816 (by decide) rfl ?_
  refine z_aload_n B dL_law_818 rfl 4 rfl ?_
  refine z_cVi (As := []) (rest := []) B cw_L_80 cx_10 dL_law_819 (ci_X9_thrown_95 l (σ := (ap b σ [(405, 1, 17), (405, 1, 16), (405, 1, 15), (405, 1, 14), (405, 1, 13), (405, 1, 12), (405, 1, 11), (405, 1, 10), (405, 1, 9), (405, 1, 8), (405, 1, 7), (405, 1, 6), (405, 1, 5), (405, 1, 4), (405, 1, 3), (405, 1, 2), (405, 1, 1), (405, 0, 0), (0, 8, 17), (0, 8, 16), (0, 8, 15), (0, 8, 14), (0, 8, 13), (0, 8, 12), (0, 8, 11), (0, 8, 10), (0, 8, 9), (0, 8, 8), (0, 8, 7), (0, 8, 6), (0, 8, 5), (0, 8, 4), (0, 8, 3), (0, 8, 2), (0, 8, 1)] [(431, 0, 17)] [])) (b := b) (lyA hK) (rI_at 405 0 rfl)) (lKA (hk_K hK 405 rfl rfl)) rfl (by decide) rfl (Nat.le_of_ble_eq_true rfl) (by decide) (fun r u hu => ?_)
  refine z_eqs (σ' := (ap b σ [(405, 1, 17), (405, 1, 16), (405, 1, 15), (405, 1, 14), (405, 1, 13), (405, 1, 12), (405, 1, 11), (405, 1, 10), (405, 1, 9), (405, 1, 8), (405, 1, 7), (405, 1, 6), (405, 1, 5), (405, 1, 4), (405, 1, 3), (405, 1, 2), (405, 1, 1), (405, 0, 0), (0, 8, 17), (0, 8, 16), (0, 8, 15), (0, 8, 14), (0, 8, 13), (0, 8, 12), (0, 8, 11), (0, 8, 10), (0, 8, 9), (0, 8, 8), (0, 8, 7), (0, 8, 6), (0, 8, 5), (0, 8, 4), (0, 8, 3), (0, 8, 2), (0, 8, 1)] [(431, 0, 17)] [])) hu.2 ?_
  show zx p l e _ s m _ below meth c g 8 _ _ _ _ 822 [(6, .int 17), (5, .int 0), (4, .int 0), (3, .ref (b + 431)), (2, .ref (b + 405)), (1, .ref (b + 0)), (0, .ref bS)] _
  refine z_seti (y := 0) hu.1 ?_
  refine z_iload B dL_law_822 1 rfl ?_
  refine z_icmp_eq (tgt := 829) B dL_law_824 (by decide) (fun _ => ?_) (fun h => absurd (by decide) h)
  refine z_iload B dL_law_829 1 rfl ?_
  refine z_if_ne (tgt := 846) B dL_law_831 (by decide) (fun h => absurd (by decide) h) (fun _ => ?_)
  refine z_aload_n B dL_law_834 rfl 3 rfl ?_
  refine z_iconst (v := 0) B dL_law_835 (by decide) ?_
  refine z_lald (j := 0) (x := 17) B (lKA (hk_K hK 431 rfl rfl)) (by decide) (in_of (lNA (hk_N hK 431 rfl rfl)) (show ¬ ((0 : Int32) < 0 ∨ 1 ≤ (0 : Int32).toNatClampNeg) by decide)) (rJ_at 431 0 rfl) dL_law_836 ?_
  refine z_iload B dL_law_837 0 rfl ?_
  refine z_i2l (v := 17) B dL_law_839 (by decide) ?_
  refine z_lcmp (v := 0) B dL_law_840 (by decide) ?_
  refine z_if_eq (tgt := 846) B dL_law_841 (by decide) (fun _ => ?_) (fun h => absurd (by decide) h)
  refine z_goto (tgt := 1395) B dL_law_846 (by decide) ?_
  exact z_widen (Nat.le_of_ble_eq_true rfl) (Nat.le_of_ble_eq_true rfl) (z_sub _ [2, 6] rfl (kk _))
set_option maxRecDepth 100000 in
set_option maxHeartbeats 4000000 in
theorem lf_11_349 {p : Program} {l : Launch} {e : Env} {s : State} {m : MethodId} {args : Array Value} {below : List Frame} {meth : Method} {c : Code} {g : gx_T} {Q : State → Prop} {σ : sx_T} {b t bS : Nat} {xs : Nat → Int32} (hlt : l.stackTraces = false) (B : zx_B p s m args meth c code RL 8 g) (hX : va_X bS 6 xs s s.heap) (hbl : bS < s.heap.size) (hbA : ¬ gx_b g ≤ bS) (hF : fz_P b t σ) (h_x1 : xs 1 = 18) (kk : ∀ σ', zx p l e room_1 s m args below meth c g 8 600002 7302232 Q σ' 1395 [(4, .int 0), (0, .ref bS)] []) : zx p l e room_1 s m args below meth c g 8 500 100000 Q σ 793 [(4, .int 0), (3, .ref (b + 431)), (2, .ref (b + 405)), (1, .ref (b + 0)), (0, .ref bS)] [] := by
  have hK := fz_lay hF
  refine z_eqs (σ' := (ap b σ [] [] [])) rfl ?_
  refine z_aload_n B dL_law_793 rfl 3 rfl ?_
  refine z_aload_n B dL_law_794 rfl 4 rfl ?_
  refine z_iload B dL_law_795 0 rfl ?_
  refine z_iconst (v := 1) B dL_law_797 (by decide) ?_
  refine z_iadd B dL_law_798 ?_
  refine z_seti (y := 1) (by decide) ?_
  refine z_sld (j := 1) (x := 18) B hX hbl hbA (by decide) (show ¬ ((1 : Int32) < 0 ∨ 6 ≤ (1 : Int32).toNatClampNeg) by decide) h_x1 dL_law_799 ?_
  refine z_aload_n B dL_law_800 rfl 1 rfl ?_
  refine z_cSWi (As := [.ref (b + 0), .int 18, .ref (b + 431)]) (rest := []) B cw_L_121 dL_law_801 (ci_L_tick_1008 l (σ := (ap b σ [] [] [])) (b := b) (lyA hK) (rI_at 0 7 (fz_I hF 0 7 rfl rfl)) (rI_at 0 8 (fz_I hF 0 8 rfl rfl)) (rI_at 4 2 (fz_I hF 4 2 rfl rfl)) (rR_at 0 3 (fz_R hF 0 3 rfl rfl))) rfl (by decide) rfl (Nat.le_of_ble_eq_true rfl) (by decide) (fun r u hu => ?_)
  refine z_eqs (σ' := (ap b σ [(0, 8, 18), (0, 8, 17), (0, 8, 16), (0, 8, 15), (0, 8, 14), (0, 8, 13), (0, 8, 12), (0, 8, 11), (0, 8, 10), (0, 8, 9), (0, 8, 8), (0, 8, 7), (0, 8, 6), (0, 8, 5), (0, 8, 4), (0, 8, 3), (0, 8, 2), (0, 8, 1)] [(431, 0, 18)] [])) (hu.2.trans ap_ap) ?_
  show zx p l e _ s m _ below meth c g 8 _ _ _ _ 804 [(4, .int 0), (3, .ref (b + 431)), (2, .ref (b + 405)), (1, .ref (b + 0)), (0, .ref bS)] _
  refine z_seti (y := 0) hu.1 ?_
  refine z_istore (lv' := [(5, .int 0), (4, .int 0), (3, .ref (b + 431)), (2, .ref (b + 405)), (1, .ref (b + 0)), (0, .ref bS)]) B dL_law_804 (by decide) rfl ?_
  refine z_aload_n B dL_law_806 rfl 3 rfl ?_
  refine z_aload_n B dL_law_807 rfl 5 rfl ?_
  refine z_iload B dL_law_808 1 rfl ?_
  refine z_iconst (v := 1) B dL_law_810 (by decide) ?_
  refine z_iadd B dL_law_811 ?_
  refine z_seti (y := 1) (by decide) ?_
  refine z_sld (j := 1) (x := 18) B hX hbl hbA (by decide) (show ¬ ((1 : Int32) < 0 ∨ 6 ≤ (1 : Int32).toNatClampNeg) by decide) h_x1 dL_law_812 ?_
  refine z_cVi (As := [.int 18]) (rest := []) B cw_L_123 cx_10 dL_law_813 (ci_X9_tick_1011 l (σ := (ap b σ [(0, 8, 18), (0, 8, 17), (0, 8, 16), (0, 8, 15), (0, 8, 14), (0, 8, 13), (0, 8, 12), (0, 8, 11), (0, 8, 10), (0, 8, 9), (0, 8, 8), (0, 8, 7), (0, 8, 6), (0, 8, 5), (0, 8, 4), (0, 8, 3), (0, 8, 2), (0, 8, 1)] [(431, 0, 18)] [])) (b := b) (lyA hK) (rI_at 405 1 (fz_I hF 405 1 rfl rfl)) (rI_at 405 6 (fz_I hF 405 6 rfl rfl)) (rI_at 405 16 (fz_I hF 405 16 rfl rfl))) (lKA (hk_K hK 405 rfl rfl)) rfl (by decide) rfl (Nat.le_of_ble_eq_true rfl) (by decide) (fun r u hu => ?_)
  refine z_eqs (σ' := (ap b σ [(405, 1, 18), (405, 1, 17), (405, 1, 16), (405, 1, 15), (405, 1, 14), (405, 1, 13), (405, 1, 12), (405, 1, 11), (405, 1, 10), (405, 1, 9), (405, 1, 8), (405, 1, 7), (405, 1, 6), (405, 1, 5), (405, 1, 4), (405, 1, 3), (405, 1, 2), (405, 1, 1), (405, 0, 0), (0, 8, 18), (0, 8, 17), (0, 8, 16), (0, 8, 15), (0, 8, 14), (0, 8, 13), (0, 8, 12), (0, 8, 11), (0, 8, 10), (0, 8, 9), (0, 8, 8), (0, 8, 7), (0, 8, 6), (0, 8, 5), (0, 8, 4), (0, 8, 3), (0, 8, 2), (0, 8, 1)] [(431, 0, 18)] [])) (hu.2.trans ap_ap) ?_
  show zx p l e _ s m _ below meth c g 8 _ _ _ _ 816 [(5, .int 0), (4, .int 0), (3, .ref (b + 431)), (2, .ref (b + 405)), (1, .ref (b + 0)), (0, .ref bS)] _
  refine z_seti (y := 18) hu.1 ?_
  refine z_istore (lv' := [(6, .int 18), (5, .int 0), (4, .int 0), (3, .ref (b + 431)), (2, .ref (b + 405)), (1, .ref (b + 0)), (0, .ref bS)]) B dL_law_816 (by decide) rfl ?_
  refine z_aload_n B dL_law_818 rfl 4 rfl ?_
  refine z_cVi (As := []) (rest := []) B cw_L_80 cx_10 dL_law_819 (ci_X9_thrown_95 l (σ := (ap b σ [(405, 1, 18), (405, 1, 17), (405, 1, 16), (405, 1, 15), (405, 1, 14), (405, 1, 13), (405, 1, 12), (405, 1, 11), (405, 1, 10), (405, 1, 9), (405, 1, 8), (405, 1, 7), (405, 1, 6), (405, 1, 5), (405, 1, 4), (405, 1, 3), (405, 1, 2), (405, 1, 1), (405, 0, 0), (0, 8, 18), (0, 8, 17), (0, 8, 16), (0, 8, 15), (0, 8, 14), (0, 8, 13), (0, 8, 12), (0, 8, 11), (0, 8, 10), (0, 8, 9), (0, 8, 8), (0, 8, 7), (0, 8, 6), (0, 8, 5), (0, 8, 4), (0, 8, 3), (0, 8, 2), (0, 8, 1)] [(431, 0, 18)] [])) (b := b) (lyA hK) (rI_at 405 0 rfl)) (lKA (hk_K hK 405 rfl rfl)) rfl (by decide) rfl (Nat.le_of_ble_eq_true rfl) (by decide) (fun r u hu => ?_)
  refine z_eqs (σ' := (ap b σ [(405, 1, 18), (405, 1, 17), (405, 1, 16), (405, 1, 15), (405, 1, 14), (405, 1, 13), (405, 1, 12), (405, 1, 11), (405, 1, 10), (405, 1, 9), (405, 1, 8), (405, 1, 7), (405, 1, 6), (405, 1, 5), (405, 1, 4), (405, 1, 3), (405, 1, 2), (405, 1, 1), (405, 0, 0), (0, 8, 18), (0, 8, 17), (0, 8, 16), (0, 8, 15), (0, 8, 14), (0, 8, 13), (0, 8, 12), (0, 8, 11), (0, 8, 10), (0, 8, 9), (0, 8, 8), (0, 8, 7), (0, 8, 6), (0, 8, 5), (0, 8, 4), (0, 8, 3), (0, 8, 2), (0, 8, 1)] [(431, 0, 18)] [])) hu.2 ?_
  show zx p l e _ s m _ below meth c g 8 _ _ _ _ 822 [(6, .int 18), (5, .int 0), (4, .int 0), (3, .ref (b + 431)), (2, .ref (b + 405)), (1, .ref (b + 0)), (0, .ref bS)] _
  refine z_seti (y := 0) hu.1 ?_
  refine z_iload B dL_law_822 1 rfl ?_
  refine z_icmp_eq (tgt := 829) B dL_law_824 (by decide) (fun _ => ?_) (fun h => absurd (by decide) h)
  refine z_iload B dL_law_829 1 rfl ?_
  refine z_if_ne (tgt := 846) B dL_law_831 (by decide) (fun h => absurd (by decide) h) (fun _ => ?_)
  refine z_aload_n B dL_law_834 rfl 3 rfl ?_
  refine z_iconst (v := 0) B dL_law_835 (by decide) ?_
  refine z_lald (j := 0) (x := 18) B (lKA (hk_K hK 431 rfl rfl)) (by decide) (in_of (lNA (hk_N hK 431 rfl rfl)) (show ¬ ((0 : Int32) < 0 ∨ 1 ≤ (0 : Int32).toNatClampNeg) by decide)) (rJ_at 431 0 rfl) dL_law_836 ?_
  refine z_iload B dL_law_837 0 rfl ?_
  refine z_i2l (v := 18) B dL_law_839 (by decide) ?_
  refine z_lcmp (v := 0) B dL_law_840 (by decide) ?_
  refine z_if_eq (tgt := 846) B dL_law_841 (by decide) (fun _ => ?_) (fun h => absurd (by decide) h)
  refine z_goto (tgt := 1395) B dL_law_846 (by decide) ?_
  exact z_widen (Nat.le_of_ble_eq_true rfl) (Nat.le_of_ble_eq_true rfl) (z_sub _ [2, 6] rfl (kk _))
set_option maxRecDepth 100000 in
set_option maxHeartbeats 4000000 in
theorem lf_11_350 {p : Program} {l : Launch} {e : Env} {s : State} {m : MethodId} {args : Array Value} {below : List Frame} {meth : Method} {c : Code} {g : gx_T} {Q : State → Prop} {σ : sx_T} {b t bS : Nat} {xs : Nat → Int32} (hlt : l.stackTraces = false) (B : zx_B p s m args meth c code RL 8 g) (hX : va_X bS 6 xs s s.heap) (hbl : bS < s.heap.size) (hbA : ¬ gx_b g ≤ bS) (hF : fz_P b t σ) (h_x1 : xs 1 = 19) (kk : ∀ σ', zx p l e room_1 s m args below meth c g 8 600002 7302232 Q σ' 1395 [(4, .int 0), (0, .ref bS)] []) : zx p l e room_1 s m args below meth c g 8 500 100000 Q σ 793 [(4, .int 0), (3, .ref (b + 431)), (2, .ref (b + 405)), (1, .ref (b + 0)), (0, .ref bS)] [] := by
  have hK := fz_lay hF
  refine z_eqs (σ' := (ap b σ [] [] [])) rfl ?_
  refine z_aload_n B dL_law_793 rfl 3 rfl ?_
  refine z_aload_n B dL_law_794 rfl 4 rfl ?_
  refine z_iload B dL_law_795 0 rfl ?_
  refine z_iconst (v := 1) B dL_law_797 (by decide) ?_
  refine z_iadd B dL_law_798 ?_
  refine z_seti (y := 1) (by decide) ?_
  refine z_sld (j := 1) (x := 19) B hX hbl hbA (by decide) (show ¬ ((1 : Int32) < 0 ∨ 6 ≤ (1 : Int32).toNatClampNeg) by decide) h_x1 dL_law_799 ?_
  refine z_aload_n B dL_law_800 rfl 1 rfl ?_
  refine z_cSWi (As := [.ref (b + 0), .int 19, .ref (b + 431)]) (rest := []) B cw_L_121 dL_law_801 (ci_L_tick_1013 l (σ := (ap b σ [] [] [])) (b := b) (lyA hK) (rI_at 0 7 (fz_I hF 0 7 rfl rfl)) (rI_at 0 8 (fz_I hF 0 8 rfl rfl)) (rI_at 4 2 (fz_I hF 4 2 rfl rfl)) (rR_at 0 3 (fz_R hF 0 3 rfl rfl))) rfl (by decide) rfl (Nat.le_of_ble_eq_true rfl) (by decide) (fun r u hu => ?_)
  refine z_eqs (σ' := (ap b σ [(0, 8, 19), (0, 8, 18), (0, 8, 17), (0, 8, 16), (0, 8, 15), (0, 8, 14), (0, 8, 13), (0, 8, 12), (0, 8, 11), (0, 8, 10), (0, 8, 9), (0, 8, 8), (0, 8, 7), (0, 8, 6), (0, 8, 5), (0, 8, 4), (0, 8, 3), (0, 8, 2), (0, 8, 1)] [(431, 0, 19)] [])) (hu.2.trans ap_ap) ?_
  show zx p l e _ s m _ below meth c g 8 _ _ _ _ 804 [(4, .int 0), (3, .ref (b + 431)), (2, .ref (b + 405)), (1, .ref (b + 0)), (0, .ref bS)] _
  refine z_seti (y := 0) hu.1 ?_
  refine z_istore (lv' := [(5, .int 0), (4, .int 0), (3, .ref (b + 431)), (2, .ref (b + 405)), (1, .ref (b + 0)), (0, .ref bS)]) B dL_law_804 (by decide) rfl ?_
  refine z_aload_n B dL_law_806 rfl 3 rfl ?_
  refine z_aload_n B dL_law_807 rfl 5 rfl ?_
  refine z_iload B dL_law_808 1 rfl ?_
  refine z_iconst (v := 1) B dL_law_810 (by decide) ?_
  refine z_iadd B dL_law_811 ?_
  refine z_seti (y := 1) (by decide) ?_
  refine z_sld (j := 1) (x := 19) B hX hbl hbA (by decide) (show ¬ ((1 : Int32) < 0 ∨ 6 ≤ (1 : Int32).toNatClampNeg) by decide) h_x1 dL_law_812 ?_
  refine z_cVi (As := [.int 19]) (rest := []) B cw_L_123 cx_10 dL_law_813 (ci_X9_tick_1016 l (σ := (ap b σ [(0, 8, 19), (0, 8, 18), (0, 8, 17), (0, 8, 16), (0, 8, 15), (0, 8, 14), (0, 8, 13), (0, 8, 12), (0, 8, 11), (0, 8, 10), (0, 8, 9), (0, 8, 8), (0, 8, 7), (0, 8, 6), (0, 8, 5), (0, 8, 4), (0, 8, 3), (0, 8, 2), (0, 8, 1)] [(431, 0, 19)] [])) (b := b) (lyA hK) (rI_at 405 1 (fz_I hF 405 1 rfl rfl)) (rI_at 405 6 (fz_I hF 405 6 rfl rfl)) (rI_at 405 16 (fz_I hF 405 16 rfl rfl))) (lKA (hk_K hK 405 rfl rfl)) rfl (by decide) rfl (Nat.le_of_ble_eq_true rfl) (by decide) (fun r u hu => ?_)
  refine z_eqs (σ' := (ap b σ [(405, 1, 19), (405, 1, 18), (405, 1, 17), (405, 1, 16), (405, 1, 15), (405, 1, 14), (405, 1, 13), (405, 1, 12), (405, 1, 11), (405, 1, 10), (405, 1, 9), (405, 1, 8), (405, 1, 7), (405, 1, 6), (405, 1, 5), (405, 1, 4), (405, 1, 3), (405, 1, 2), (405, 1, 1), (405, 0, 0), (0, 8, 19), (0, 8, 18), (0, 8, 17), (0, 8, 16), (0, 8, 15), (0, 8, 14), (0, 8, 13), (0, 8, 12), (0, 8, 11), (0, 8, 10), (0, 8, 9), (0, 8, 8), (0, 8, 7), (0, 8, 6), (0, 8, 5), (0, 8, 4), (0, 8, 3), (0, 8, 2), (0, 8, 1)] [(431, 0, 19)] [])) (hu.2.trans ap_ap) ?_
  show zx p l e _ s m _ below meth c g 8 _ _ _ _ 816 [(5, .int 0), (4, .int 0), (3, .ref (b + 431)), (2, .ref (b + 405)), (1, .ref (b + 0)), (0, .ref bS)] _
  refine z_seti (y := 19) hu.1 ?_
  refine z_istore (lv' := [(6, .int 19), (5, .int 0), (4, .int 0), (3, .ref (b + 431)), (2, .ref (b + 405)), (1, .ref (b + 0)), (0, .ref bS)]) B dL_law_816 (by decide) rfl ?_
  refine z_aload_n B dL_law_818 rfl 4 rfl ?_
  refine z_cVi (As := []) (rest := []) B cw_L_80 cx_10 dL_law_819 (ci_X9_thrown_95 l (σ := (ap b σ [(405, 1, 19), (405, 1, 18), (405, 1, 17), (405, 1, 16), (405, 1, 15), (405, 1, 14), (405, 1, 13), (405, 1, 12), (405, 1, 11), (405, 1, 10), (405, 1, 9), (405, 1, 8), (405, 1, 7), (405, 1, 6), (405, 1, 5), (405, 1, 4), (405, 1, 3), (405, 1, 2), (405, 1, 1), (405, 0, 0), (0, 8, 19), (0, 8, 18), (0, 8, 17), (0, 8, 16), (0, 8, 15), (0, 8, 14), (0, 8, 13), (0, 8, 12), (0, 8, 11), (0, 8, 10), (0, 8, 9), (0, 8, 8), (0, 8, 7), (0, 8, 6), (0, 8, 5), (0, 8, 4), (0, 8, 3), (0, 8, 2), (0, 8, 1)] [(431, 0, 19)] [])) (b := b) (lyA hK) (rI_at 405 0 rfl)) (lKA (hk_K hK 405 rfl rfl)) rfl (by decide) rfl (Nat.le_of_ble_eq_true rfl) (by decide) (fun r u hu => ?_)
  refine z_eqs (σ' := (ap b σ [(405, 1, 19), (405, 1, 18), (405, 1, 17), (405, 1, 16), (405, 1, 15), (405, 1, 14), (405, 1, 13), (405, 1, 12), (405, 1, 11), (405, 1, 10), (405, 1, 9), (405, 1, 8), (405, 1, 7), (405, 1, 6), (405, 1, 5), (405, 1, 4), (405, 1, 3), (405, 1, 2), (405, 1, 1), (405, 0, 0), (0, 8, 19), (0, 8, 18), (0, 8, 17), (0, 8, 16), (0, 8, 15), (0, 8, 14), (0, 8, 13), (0, 8, 12), (0, 8, 11), (0, 8, 10), (0, 8, 9), (0, 8, 8), (0, 8, 7), (0, 8, 6), (0, 8, 5), (0, 8, 4), (0, 8, 3), (0, 8, 2), (0, 8, 1)] [(431, 0, 19)] [])) hu.2 ?_
  show zx p l e _ s m _ below meth c g 8 _ _ _ _ 822 [(6, .int 19), (5, .int 0), (4, .int 0), (3, .ref (b + 431)), (2, .ref (b + 405)), (1, .ref (b + 0)), (0, .ref bS)] _
  refine z_seti (y := 0) hu.1 ?_
  refine z_iload B dL_law_822 1 rfl ?_
  refine z_icmp_eq (tgt := 829) B dL_law_824 (by decide) (fun _ => ?_) (fun h => absurd (by decide) h)
  refine z_iload B dL_law_829 1 rfl ?_
  refine z_if_ne (tgt := 846) B dL_law_831 (by decide) (fun h => absurd (by decide) h) (fun _ => ?_)
  refine z_aload_n B dL_law_834 rfl 3 rfl ?_
  refine z_iconst (v := 0) B dL_law_835 (by decide) ?_
  refine z_lald (j := 0) (x := 19) B (lKA (hk_K hK 431 rfl rfl)) (by decide) (in_of (lNA (hk_N hK 431 rfl rfl)) (show ¬ ((0 : Int32) < 0 ∨ 1 ≤ (0 : Int32).toNatClampNeg) by decide)) (rJ_at 431 0 rfl) dL_law_836 ?_
  refine z_iload B dL_law_837 0 rfl ?_
  refine z_i2l (v := 19) B dL_law_839 (by decide) ?_
  refine z_lcmp (v := 0) B dL_law_840 (by decide) ?_
  refine z_if_eq (tgt := 846) B dL_law_841 (by decide) (fun _ => ?_) (fun h => absurd (by decide) h)
  refine z_goto (tgt := 1395) B dL_law_846 (by decide) ?_
  exact z_widen (Nat.le_of_ble_eq_true rfl) (Nat.le_of_ble_eq_true rfl) (z_sub _ [2, 6] rfl (kk _))
set_option maxRecDepth 100000 in
set_option maxHeartbeats 4000000 in
theorem lf_11_351 {p : Program} {l : Launch} {e : Env} {s : State} {m : MethodId} {args : Array Value} {below : List Frame} {meth : Method} {c : Code} {g : gx_T} {Q : State → Prop} {σ : sx_T} {b t bS : Nat} {xs : Nat → Int32} (hlt : l.stackTraces = false) (B : zx_B p s m args meth c code RL 8 g) (hX : va_X bS 6 xs s s.heap) (hbl : bS < s.heap.size) (hbA : ¬ gx_b g ≤ bS) (hF : fz_P b t σ) (h_x1 : xs 1 = 20) (kk : ∀ σ', zx p l e room_1 s m args below meth c g 8 600002 7302232 Q σ' 1395 [(4, .int 0), (0, .ref bS)] []) : zx p l e room_1 s m args below meth c g 8 500 100000 Q σ 793 [(4, .int 0), (3, .ref (b + 431)), (2, .ref (b + 405)), (1, .ref (b + 0)), (0, .ref bS)] [] := by
  have hK := fz_lay hF
  refine z_eqs (σ' := (ap b σ [] [] [])) rfl ?_
  refine z_aload_n B dL_law_793 rfl 3 rfl ?_
  refine z_aload_n B dL_law_794 rfl 4 rfl ?_
  refine z_iload B dL_law_795 0 rfl ?_
  refine z_iconst (v := 1) B dL_law_797 (by decide) ?_
  refine z_iadd B dL_law_798 ?_
  refine z_seti (y := 1) (by decide) ?_
  refine z_sld (j := 1) (x := 20) B hX hbl hbA (by decide) (show ¬ ((1 : Int32) < 0 ∨ 6 ≤ (1 : Int32).toNatClampNeg) by decide) h_x1 dL_law_799 ?_
  refine z_aload_n B dL_law_800 rfl 1 rfl ?_
  refine z_cSWi (As := [.ref (b + 0), .int 20, .ref (b + 431)]) (rest := []) B cw_L_121 dL_law_801 (ci_L_tick_1018 l (σ := (ap b σ [] [] [])) (b := b) (lyA hK) (rI_at 0 7 (fz_I hF 0 7 rfl rfl)) (rI_at 0 8 (fz_I hF 0 8 rfl rfl)) (rI_at 4 2 (fz_I hF 4 2 rfl rfl)) (rR_at 0 3 (fz_R hF 0 3 rfl rfl))) rfl (by decide) rfl (Nat.le_of_ble_eq_true rfl) (by decide) (fun r u hu => ?_)
  refine z_eqs (σ' := (ap b σ [(0, 8, 20), (0, 8, 19), (0, 8, 18), (0, 8, 17), (0, 8, 16), (0, 8, 15), (0, 8, 14), (0, 8, 13), (0, 8, 12), (0, 8, 11), (0, 8, 10), (0, 8, 9), (0, 8, 8), (0, 8, 7), (0, 8, 6), (0, 8, 5), (0, 8, 4), (0, 8, 3), (0, 8, 2), (0, 8, 1)] [(431, 0, 20)] [])) (hu.2.trans ap_ap) ?_
  show zx p l e _ s m _ below meth c g 8 _ _ _ _ 804 [(4, .int 0), (3, .ref (b + 431)), (2, .ref (b + 405)), (1, .ref (b + 0)), (0, .ref bS)] _
  refine z_seti (y := 0) hu.1 ?_
  refine z_istore (lv' := [(5, .int 0), (4, .int 0), (3, .ref (b + 431)), (2, .ref (b + 405)), (1, .ref (b + 0)), (0, .ref bS)]) B dL_law_804 (by decide) rfl ?_
  refine z_aload_n B dL_law_806 rfl 3 rfl ?_
  refine z_aload_n B dL_law_807 rfl 5 rfl ?_
  refine z_iload B dL_law_808 1 rfl ?_
  refine z_iconst (v := 1) B dL_law_810 (by decide) ?_
  refine z_iadd B dL_law_811 ?_
  refine z_seti (y := 1) (by decide) ?_
  refine z_sld (j := 1) (x := 20) B hX hbl hbA (by decide) (show ¬ ((1 : Int32) < 0 ∨ 6 ≤ (1 : Int32).toNatClampNeg) by decide) h_x1 dL_law_812 ?_
  refine z_cVi (As := [.int 20]) (rest := []) B cw_L_123 cx_10 dL_law_813 (ci_X9_tick_1021 l (σ := (ap b σ [(0, 8, 20), (0, 8, 19), (0, 8, 18), (0, 8, 17), (0, 8, 16), (0, 8, 15), (0, 8, 14), (0, 8, 13), (0, 8, 12), (0, 8, 11), (0, 8, 10), (0, 8, 9), (0, 8, 8), (0, 8, 7), (0, 8, 6), (0, 8, 5), (0, 8, 4), (0, 8, 3), (0, 8, 2), (0, 8, 1)] [(431, 0, 20)] [])) (b := b) (lyA hK) (rI_at 405 1 (fz_I hF 405 1 rfl rfl)) (rI_at 405 6 (fz_I hF 405 6 rfl rfl)) (rI_at 405 16 (fz_I hF 405 16 rfl rfl))) (lKA (hk_K hK 405 rfl rfl)) rfl (by decide) rfl (Nat.le_of_ble_eq_true rfl) (by decide) (fun r u hu => ?_)
  refine z_eqs (σ' := (ap b σ [(405, 1, 20), (405, 1, 19), (405, 1, 18), (405, 1, 17), (405, 1, 16), (405, 1, 15), (405, 1, 14), (405, 1, 13), (405, 1, 12), (405, 1, 11), (405, 1, 10), (405, 1, 9), (405, 1, 8), (405, 1, 7), (405, 1, 6), (405, 1, 5), (405, 1, 4), (405, 1, 3), (405, 1, 2), (405, 1, 1), (405, 0, 0), (0, 8, 20), (0, 8, 19), (0, 8, 18), (0, 8, 17), (0, 8, 16), (0, 8, 15), (0, 8, 14), (0, 8, 13), (0, 8, 12), (0, 8, 11), (0, 8, 10), (0, 8, 9), (0, 8, 8), (0, 8, 7), (0, 8, 6), (0, 8, 5), (0, 8, 4), (0, 8, 3), (0, 8, 2), (0, 8, 1)] [(431, 0, 20)] [])) (hu.2.trans ap_ap) ?_
  show zx p l e _ s m _ below meth c g 8 _ _ _ _ 816 [(5, .int 0), (4, .int 0), (3, .ref (b + 431)), (2, .ref (b + 405)), (1, .ref (b + 0)), (0, .ref bS)] _
  refine z_seti (y := 20) hu.1 ?_
  refine z_istore (lv' := [(6, .int 20), (5, .int 0), (4, .int 0), (3, .ref (b + 431)), (2, .ref (b + 405)), (1, .ref (b + 0)), (0, .ref bS)]) B dL_law_816 (by decide) rfl ?_
  refine z_aload_n B dL_law_818 rfl 4 rfl ?_
  refine z_cVi (As := []) (rest := []) B cw_L_80 cx_10 dL_law_819 (ci_X9_thrown_95 l (σ := (ap b σ [(405, 1, 20), (405, 1, 19), (405, 1, 18), (405, 1, 17), (405, 1, 16), (405, 1, 15), (405, 1, 14), (405, 1, 13), (405, 1, 12), (405, 1, 11), (405, 1, 10), (405, 1, 9), (405, 1, 8), (405, 1, 7), (405, 1, 6), (405, 1, 5), (405, 1, 4), (405, 1, 3), (405, 1, 2), (405, 1, 1), (405, 0, 0), (0, 8, 20), (0, 8, 19), (0, 8, 18), (0, 8, 17), (0, 8, 16), (0, 8, 15), (0, 8, 14), (0, 8, 13), (0, 8, 12), (0, 8, 11), (0, 8, 10), (0, 8, 9), (0, 8, 8), (0, 8, 7), (0, 8, 6), (0, 8, 5), (0, 8, 4), (0, 8, 3), (0, 8, 2), (0, 8, 1)] [(431, 0, 20)] [])) (b := b) (lyA hK) (rI_at 405 0 rfl)) (lKA (hk_K hK 405 rfl rfl)) rfl (by decide) rfl (Nat.le_of_ble_eq_true rfl) (by decide) (fun r u hu => ?_)
  refine z_eqs (σ' := (ap b σ [(405, 1, 20), (405, 1, 19), (405, 1, 18), (405, 1, 17), (405, 1, 16), (405, 1, 15), (405, 1, 14), (405, 1, 13), (405, 1, 12), (405, 1, 11), (405, 1, 10), (405, 1, 9), (405, 1, 8), (405, 1, 7), (405, 1, 6), (405, 1, 5), (405, 1, 4), (405, 1, 3), (405, 1, 2), (405, 1, 1), (405, 0, 0), (0, 8, 20), (0, 8, 19), (0, 8, 18), (0, 8, 17), (0, 8, 16), (0, 8, 15), (0, 8, 14), (0, 8, 13), (0, 8, 12), (0, 8, 11), (0, 8, 10), (0, 8, 9), (0, 8, 8), (0, 8, 7), (0, 8, 6), (0, 8, 5), (0, 8, 4), (0, 8, 3), (0, 8, 2), (0, 8, 1)] [(431, 0, 20)] [])) hu.2 ?_
  show zx p l e _ s m _ below meth c g 8 _ _ _ _ 822 [(6, .int 20), (5, .int 0), (4, .int 0), (3, .ref (b + 431)), (2, .ref (b + 405)), (1, .ref (b + 0)), (0, .ref bS)] _
  refine z_seti (y := 0) hu.1 ?_
  refine z_iload B dL_law_822 1 rfl ?_
  refine z_icmp_eq (tgt := 829) B dL_law_824 (by decide) (fun _ => ?_) (fun h => absurd (by decide) h)
  refine z_iload B dL_law_829 1 rfl ?_
  refine z_if_ne (tgt := 846) B dL_law_831 (by decide) (fun h => absurd (by decide) h) (fun _ => ?_)
  refine z_aload_n B dL_law_834 rfl 3 rfl ?_
  refine z_iconst (v := 0) B dL_law_835 (by decide) ?_
  refine z_lald (j := 0) (x := 20) B (lKA (hk_K hK 431 rfl rfl)) (by decide) (in_of (lNA (hk_N hK 431 rfl rfl)) (show ¬ ((0 : Int32) < 0 ∨ 1 ≤ (0 : Int32).toNatClampNeg) by decide)) (rJ_at 431 0 rfl) dL_law_836 ?_
  refine z_iload B dL_law_837 0 rfl ?_
  refine z_i2l (v := 20) B dL_law_839 (by decide) ?_
  refine z_lcmp (v := 0) B dL_law_840 (by decide) ?_
  refine z_if_eq (tgt := 846) B dL_law_841 (by decide) (fun _ => ?_) (fun h => absurd (by decide) h)
  refine z_goto (tgt := 1395) B dL_law_846 (by decide) ?_
  exact z_widen (Nat.le_of_ble_eq_true rfl) (Nat.le_of_ble_eq_true rfl) (z_sub _ [2, 6] rfl (kk _))
set_option maxRecDepth 100000 in
set_option maxHeartbeats 4000000 in
theorem lf_11_352 {p : Program} {l : Launch} {e : Env} {s : State} {m : MethodId} {args : Array Value} {below : List Frame} {meth : Method} {c : Code} {g : gx_T} {Q : State → Prop} {σ : sx_T} {b t bS : Nat} {xs : Nat → Int32} (hlt : l.stackTraces = false) (B : zx_B p s m args meth c code RL 8 g) (hX : va_X bS 6 xs s s.heap) (hbl : bS < s.heap.size) (hbA : ¬ gx_b g ≤ bS) (hF : fz_P b t σ) (h_x1 : xs 1 = 21) (kk : ∀ σ', zx p l e room_1 s m args below meth c g 8 600002 7302232 Q σ' 1395 [(4, .int 0), (0, .ref bS)] []) : zx p l e room_1 s m args below meth c g 8 500 100000 Q σ 793 [(4, .int 0), (3, .ref (b + 431)), (2, .ref (b + 405)), (1, .ref (b + 0)), (0, .ref bS)] [] := by
  have hK := fz_lay hF
  refine z_eqs (σ' := (ap b σ [] [] [])) rfl ?_
  refine z_aload_n B dL_law_793 rfl 3 rfl ?_
  refine z_aload_n B dL_law_794 rfl 4 rfl ?_
  refine z_iload B dL_law_795 0 rfl ?_
  refine z_iconst (v := 1) B dL_law_797 (by decide) ?_
  refine z_iadd B dL_law_798 ?_
  refine z_seti (y := 1) (by decide) ?_
  refine z_sld (j := 1) (x := 21) B hX hbl hbA (by decide) (show ¬ ((1 : Int32) < 0 ∨ 6 ≤ (1 : Int32).toNatClampNeg) by decide) h_x1 dL_law_799 ?_
  refine z_aload_n B dL_law_800 rfl 1 rfl ?_
  refine z_cSWi (As := [.ref (b + 0), .int 21, .ref (b + 431)]) (rest := []) B cw_L_121 dL_law_801 (ci_L_tick_1023 l (σ := (ap b σ [] [] [])) (b := b) (lyA hK) (rI_at 0 7 (fz_I hF 0 7 rfl rfl)) (rI_at 0 8 (fz_I hF 0 8 rfl rfl)) (rI_at 4 2 (fz_I hF 4 2 rfl rfl)) (rR_at 0 3 (fz_R hF 0 3 rfl rfl))) rfl (by decide) rfl (Nat.le_of_ble_eq_true rfl) (by decide) (fun r u hu => ?_)
  refine z_eqs (σ' := (ap b σ [(0, 8, 21), (0, 8, 20), (0, 8, 19), (0, 8, 18), (0, 8, 17), (0, 8, 16), (0, 8, 15), (0, 8, 14), (0, 8, 13), (0, 8, 12), (0, 8, 11), (0, 8, 10), (0, 8, 9), (0, 8, 8), (0, 8, 7), (0, 8, 6), (0, 8, 5), (0, 8, 4), (0, 8, 3), (0, 8, 2), (0, 8, 1)] [(431, 0, 21)] [])) (hu.2.trans ap_ap) ?_
  show zx p l e _ s m _ below meth c g 8 _ _ _ _ 804 [(4, .int 0), (3, .ref (b + 431)), (2, .ref (b + 405)), (1, .ref (b + 0)), (0, .ref bS)] _
  refine z_seti (y := 0) hu.1 ?_
  refine z_istore (lv' := [(5, .int 0), (4, .int 0), (3, .ref (b + 431)), (2, .ref (b + 405)), (1, .ref (b + 0)), (0, .ref bS)]) B dL_law_804 (by decide) rfl ?_
  refine z_aload_n B dL_law_806 rfl 3 rfl ?_
  refine z_aload_n B dL_law_807 rfl 5 rfl ?_
  refine z_iload B dL_law_808 1 rfl ?_
  refine z_iconst (v := 1) B dL_law_810 (by decide) ?_
  refine z_iadd B dL_law_811 ?_
  refine z_seti (y := 1) (by decide) ?_
  refine z_sld (j := 1) (x := 21) B hX hbl hbA (by decide) (show ¬ ((1 : Int32) < 0 ∨ 6 ≤ (1 : Int32).toNatClampNeg) by decide) h_x1 dL_law_812 ?_
  refine z_cVi (As := [.int 21]) (rest := []) B cw_L_123 cx_10 dL_law_813 (ci_X9_tick_1026 l (σ := (ap b σ [(0, 8, 21), (0, 8, 20), (0, 8, 19), (0, 8, 18), (0, 8, 17), (0, 8, 16), (0, 8, 15), (0, 8, 14), (0, 8, 13), (0, 8, 12), (0, 8, 11), (0, 8, 10), (0, 8, 9), (0, 8, 8), (0, 8, 7), (0, 8, 6), (0, 8, 5), (0, 8, 4), (0, 8, 3), (0, 8, 2), (0, 8, 1)] [(431, 0, 21)] [])) (b := b) (lyA hK) (rI_at 405 1 (fz_I hF 405 1 rfl rfl)) (rI_at 405 6 (fz_I hF 405 6 rfl rfl)) (rI_at 405 16 (fz_I hF 405 16 rfl rfl))) (lKA (hk_K hK 405 rfl rfl)) rfl (by decide) rfl (Nat.le_of_ble_eq_true rfl) (by decide) (fun r u hu => ?_)
  refine z_eqs (σ' := (ap b σ [(405, 1, 21), (405, 1, 20), (405, 1, 19), (405, 1, 18), (405, 1, 17), (405, 1, 16), (405, 1, 15), (405, 1, 14), (405, 1, 13), (405, 1, 12), (405, 1, 11), (405, 1, 10), (405, 1, 9), (405, 1, 8), (405, 1, 7), (405, 1, 6), (405, 1, 5), (405, 1, 4), (405, 1, 3), (405, 1, 2), (405, 1, 1), (405, 0, 0), (0, 8, 21), (0, 8, 20), (0, 8, 19), (0, 8, 18), (0, 8, 17), (0, 8, 16), (0, 8, 15), (0, 8, 14), (0, 8, 13), (0, 8, 12), (0, 8, 11), (0, 8, 10), (0, 8, 9), (0, 8, 8), (0, 8, 7), (0, 8, 6), (0, 8, 5), (0, 8, 4), (0, 8, 3), (0, 8, 2), (0, 8, 1)] [(431, 0, 21)] [])) (hu.2.trans ap_ap) ?_
  show zx p l e _ s m _ below meth c g 8 _ _ _ _ 816 [(5, .int 0), (4, .int 0), (3, .ref (b + 431)), (2, .ref (b + 405)), (1, .ref (b + 0)), (0, .ref bS)] _
  refine z_seti (y := 21) hu.1 ?_
  refine z_istore (lv' := [(6, .int 21), (5, .int 0), (4, .int 0), (3, .ref (b + 431)), (2, .ref (b + 405)), (1, .ref (b + 0)), (0, .ref bS)]) B dL_law_816 (by decide) rfl ?_
  refine z_aload_n B dL_law_818 rfl 4 rfl ?_
  refine z_cVi (As := []) (rest := []) B cw_L_80 cx_10 dL_law_819 (ci_X9_thrown_95 l (σ := (ap b σ [(405, 1, 21), (405, 1, 20), (405, 1, 19), (405, 1, 18), (405, 1, 17), (405, 1, 16), (405, 1, 15), (405, 1, 14), (405, 1, 13), (405, 1, 12), (405, 1, 11), (405, 1, 10), (405, 1, 9), (405, 1, 8), (405, 1, 7), (405, 1, 6), (405, 1, 5), (405, 1, 4), (405, 1, 3), (405, 1, 2), (405, 1, 1), (405, 0, 0), (0, 8, 21), (0, 8, 20), (0, 8, 19), (0, 8, 18), (0, 8, 17), (0, 8, 16), (0, 8, 15), (0, 8, 14), (0, 8, 13), (0, 8, 12), (0, 8, 11), (0, 8, 10), (0, 8, 9), (0, 8, 8), (0, 8, 7), (0, 8, 6), (0, 8, 5), (0, 8, 4), (0, 8, 3), (0, 8, 2), (0, 8, 1)] [(431, 0, 21)] [])) (b := b) (lyA hK) (rI_at 405 0 rfl)) (lKA (hk_K hK 405 rfl rfl)) rfl (by decide) rfl (Nat.le_of_ble_eq_true rfl) (by decide) (fun r u hu => ?_)
  refine z_eqs (σ' := (ap b σ [(405, 1, 21), (405, 1, 20), (405, 1, 19), (405, 1, 18), (405, 1, 17), (405, 1, 16), (405, 1, 15), (405, 1, 14), (405, 1, 13), (405, 1, 12), (405, 1, 11), (405, 1, 10), (405, 1, 9), (405, 1, 8), (405, 1, 7), (405, 1, 6), (405, 1, 5), (405, 1, 4), (405, 1, 3), (405, 1, 2), (405, 1, 1), (405, 0, 0), (0, 8, 21), (0, 8, 20), (0, 8, 19), (0, 8, 18), (0, 8, 17), (0, 8, 16), (0, 8, 15), (0, 8, 14), (0, 8, 13), (0, 8, 12), (0, 8, 11), (0, 8, 10), (0, 8, 9), (0, 8, 8), (0, 8, 7), (0, 8, 6), (0, 8, 5), (0, 8, 4), (0, 8, 3), (0, 8, 2), (0, 8, 1)] [(431, 0, 21)] [])) hu.2 ?_
  show zx p l e _ s m _ below meth c g 8 _ _ _ _ 822 [(6, .int 21), (5, .int 0), (4, .int 0), (3, .ref (b + 431)), (2, .ref (b + 405)), (1, .ref (b + 0)), (0, .ref bS)] _
  refine z_seti (y := 0) hu.1 ?_
  refine z_iload B dL_law_822 1 rfl ?_
  refine z_icmp_eq (tgt := 829) B dL_law_824 (by decide) (fun _ => ?_) (fun h => absurd (by decide) h)
  refine z_iload B dL_law_829 1 rfl ?_
  refine z_if_ne (tgt := 846) B dL_law_831 (by decide) (fun h => absurd (by decide) h) (fun _ => ?_)
  refine z_aload_n B dL_law_834 rfl 3 rfl ?_
  refine z_iconst (v := 0) B dL_law_835 (by decide) ?_
  refine z_lald (j := 0) (x := 21) B (lKA (hk_K hK 431 rfl rfl)) (by decide) (in_of (lNA (hk_N hK 431 rfl rfl)) (show ¬ ((0 : Int32) < 0 ∨ 1 ≤ (0 : Int32).toNatClampNeg) by decide)) (rJ_at 431 0 rfl) dL_law_836 ?_
  refine z_iload B dL_law_837 0 rfl ?_
  refine z_i2l (v := 21) B dL_law_839 (by decide) ?_
  refine z_lcmp (v := 0) B dL_law_840 (by decide) ?_
  refine z_if_eq (tgt := 846) B dL_law_841 (by decide) (fun _ => ?_) (fun h => absurd (by decide) h)
  refine z_goto (tgt := 1395) B dL_law_846 (by decide) ?_
  exact z_widen (Nat.le_of_ble_eq_true rfl) (Nat.le_of_ble_eq_true rfl) (z_sub _ [2, 6] rfl (kk _))
set_option maxRecDepth 100000 in
set_option maxHeartbeats 4000000 in
theorem lf_11_353 {p : Program} {l : Launch} {e : Env} {s : State} {m : MethodId} {args : Array Value} {below : List Frame} {meth : Method} {c : Code} {g : gx_T} {Q : State → Prop} {σ : sx_T} {b t bS : Nat} {xs : Nat → Int32} (hlt : l.stackTraces = false) (B : zx_B p s m args meth c code RL 8 g) (hX : va_X bS 6 xs s s.heap) (hbl : bS < s.heap.size) (hbA : ¬ gx_b g ≤ bS) (hF : fz_P b t σ) (h_x1 : xs 1 = 22) (kk : ∀ σ', zx p l e room_1 s m args below meth c g 8 600002 7302232 Q σ' 1395 [(4, .int 0), (0, .ref bS)] []) : zx p l e room_1 s m args below meth c g 8 500 100000 Q σ 793 [(4, .int 0), (3, .ref (b + 431)), (2, .ref (b + 405)), (1, .ref (b + 0)), (0, .ref bS)] [] := by
  have hK := fz_lay hF
  refine z_eqs (σ' := (ap b σ [] [] [])) rfl ?_
  refine z_aload_n B dL_law_793 rfl 3 rfl ?_
  refine z_aload_n B dL_law_794 rfl 4 rfl ?_
  refine z_iload B dL_law_795 0 rfl ?_
  refine z_iconst (v := 1) B dL_law_797 (by decide) ?_
  refine z_iadd B dL_law_798 ?_
  refine z_seti (y := 1) (by decide) ?_
  refine z_sld (j := 1) (x := 22) B hX hbl hbA (by decide) (show ¬ ((1 : Int32) < 0 ∨ 6 ≤ (1 : Int32).toNatClampNeg) by decide) h_x1 dL_law_799 ?_
  refine z_aload_n B dL_law_800 rfl 1 rfl ?_
  refine z_cSWi (As := [.ref (b + 0), .int 22, .ref (b + 431)]) (rest := []) B cw_L_121 dL_law_801 (ci_L_tick_1028 l (σ := (ap b σ [] [] [])) (b := b) (lyA hK) (rI_at 0 7 (fz_I hF 0 7 rfl rfl)) (rI_at 0 8 (fz_I hF 0 8 rfl rfl)) (rI_at 4 2 (fz_I hF 4 2 rfl rfl)) (rR_at 0 3 (fz_R hF 0 3 rfl rfl))) rfl (by decide) rfl (Nat.le_of_ble_eq_true rfl) (by decide) (fun r u hu => ?_)
  refine z_eqs (σ' := (ap b σ [(0, 8, 22), (0, 8, 21), (0, 8, 20), (0, 8, 19), (0, 8, 18), (0, 8, 17), (0, 8, 16), (0, 8, 15), (0, 8, 14), (0, 8, 13), (0, 8, 12), (0, 8, 11), (0, 8, 10), (0, 8, 9), (0, 8, 8), (0, 8, 7), (0, 8, 6), (0, 8, 5), (0, 8, 4), (0, 8, 3), (0, 8, 2), (0, 8, 1)] [(431, 0, 22)] [])) (hu.2.trans ap_ap) ?_
  show zx p l e _ s m _ below meth c g 8 _ _ _ _ 804 [(4, .int 0), (3, .ref (b + 431)), (2, .ref (b + 405)), (1, .ref (b + 0)), (0, .ref bS)] _
  refine z_seti (y := 0) hu.1 ?_
  refine z_istore (lv' := [(5, .int 0), (4, .int 0), (3, .ref (b + 431)), (2, .ref (b + 405)), (1, .ref (b + 0)), (0, .ref bS)]) B dL_law_804 (by decide) rfl ?_
  refine z_aload_n B dL_law_806 rfl 3 rfl ?_
  refine z_aload_n B dL_law_807 rfl 5 rfl ?_
  refine z_iload B dL_law_808 1 rfl ?_
  refine z_iconst (v := 1) B dL_law_810 (by decide) ?_
  refine z_iadd B dL_law_811 ?_
  refine z_seti (y := 1) (by decide) ?_
  refine z_sld (j := 1) (x := 22) B hX hbl hbA (by decide) (show ¬ ((1 : Int32) < 0 ∨ 6 ≤ (1 : Int32).toNatClampNeg) by decide) h_x1 dL_law_812 ?_
  refine z_cVi (As := [.int 22]) (rest := []) B cw_L_123 cx_10 dL_law_813 (ci_X9_tick_1031 l (σ := (ap b σ [(0, 8, 22), (0, 8, 21), (0, 8, 20), (0, 8, 19), (0, 8, 18), (0, 8, 17), (0, 8, 16), (0, 8, 15), (0, 8, 14), (0, 8, 13), (0, 8, 12), (0, 8, 11), (0, 8, 10), (0, 8, 9), (0, 8, 8), (0, 8, 7), (0, 8, 6), (0, 8, 5), (0, 8, 4), (0, 8, 3), (0, 8, 2), (0, 8, 1)] [(431, 0, 22)] [])) (b := b) (lyA hK) (rI_at 405 1 (fz_I hF 405 1 rfl rfl)) (rI_at 405 6 (fz_I hF 405 6 rfl rfl)) (rI_at 405 16 (fz_I hF 405 16 rfl rfl))) (lKA (hk_K hK 405 rfl rfl)) rfl (by decide) rfl (Nat.le_of_ble_eq_true rfl) (by decide) (fun r u hu => ?_)
  refine z_eqs (σ' := (ap b σ [(405, 1, 22), (405, 1, 21), (405, 1, 20), (405, 1, 19), (405, 1, 18), (405, 1, 17), (405, 1, 16), (405, 1, 15), (405, 1, 14), (405, 1, 13), (405, 1, 12), (405, 1, 11), (405, 1, 10), (405, 1, 9), (405, 1, 8), (405, 1, 7), (405, 1, 6), (405, 1, 5), (405, 1, 4), (405, 1, 3), (405, 1, 2), (405, 1, 1), (405, 0, 0), (0, 8, 22), (0, 8, 21), (0, 8, 20), (0, 8, 19), (0, 8, 18), (0, 8, 17), (0, 8, 16), (0, 8, 15), (0, 8, 14), (0, 8, 13), (0, 8, 12), (0, 8, 11), (0, 8, 10), (0, 8, 9), (0, 8, 8), (0, 8, 7), (0, 8, 6), (0, 8, 5), (0, 8, 4), (0, 8, 3), (0, 8, 2), (0, 8, 1)] [(431, 0, 22)] [])) (hu.2.trans ap_ap) ?_
  show zx p l e _ s m _ below meth c g 8 _ _ _ _ 816 [(5, .int 0), (4, .int 0), (3, .ref (b + 431)), (2, .ref (b + 405)), (1, .ref (b + 0)), (0, .ref bS)] _
  refine z_seti (y := 22) hu.1 ?_
  refine z_istore (lv' := [(6, .int 22), (5, .int 0), (4, .int 0), (3, .ref (b + 431)), (2, .ref (b + 405)), (1, .ref (b + 0)), (0, .ref bS)]) B dL_law_816 (by decide) rfl ?_
  refine z_aload_n B dL_law_818 rfl 4 rfl ?_
  refine z_cVi (As := []) (rest := []) B cw_L_80 cx_10 dL_law_819 (ci_X9_thrown_95 l (σ := (ap b σ [(405, 1, 22), (405, 1, 21), (405, 1, 20), (405, 1, 19), (405, 1, 18), (405, 1, 17), (405, 1, 16), (405, 1, 15), (405, 1, 14), (405, 1, 13), (405, 1, 12), (405, 1, 11), (405, 1, 10), (405, 1, 9), (405, 1, 8), (405, 1, 7), (405, 1, 6), (405, 1, 5), (405, 1, 4), (405, 1, 3), (405, 1, 2), (405, 1, 1), (405, 0, 0), (0, 8, 22), (0, 8, 21), (0, 8, 20), (0, 8, 19), (0, 8, 18), (0, 8, 17), (0, 8, 16), (0, 8, 15), (0, 8, 14), (0, 8, 13), (0, 8, 12), (0, 8, 11), (0, 8, 10), (0, 8, 9), (0, 8, 8), (0, 8, 7), (0, 8, 6), (0, 8, 5), (0, 8, 4), (0, 8, 3), (0, 8, 2), (0, 8, 1)] [(431, 0, 22)] [])) (b := b) (lyA hK) (rI_at 405 0 rfl)) (lKA (hk_K hK 405 rfl rfl)) rfl (by decide) rfl (Nat.le_of_ble_eq_true rfl) (by decide) (fun r u hu => ?_)
  refine z_eqs (σ' := (ap b σ [(405, 1, 22), (405, 1, 21), (405, 1, 20), (405, 1, 19), (405, 1, 18), (405, 1, 17), (405, 1, 16), (405, 1, 15), (405, 1, 14), (405, 1, 13), (405, 1, 12), (405, 1, 11), (405, 1, 10), (405, 1, 9), (405, 1, 8), (405, 1, 7), (405, 1, 6), (405, 1, 5), (405, 1, 4), (405, 1, 3), (405, 1, 2), (405, 1, 1), (405, 0, 0), (0, 8, 22), (0, 8, 21), (0, 8, 20), (0, 8, 19), (0, 8, 18), (0, 8, 17), (0, 8, 16), (0, 8, 15), (0, 8, 14), (0, 8, 13), (0, 8, 12), (0, 8, 11), (0, 8, 10), (0, 8, 9), (0, 8, 8), (0, 8, 7), (0, 8, 6), (0, 8, 5), (0, 8, 4), (0, 8, 3), (0, 8, 2), (0, 8, 1)] [(431, 0, 22)] [])) hu.2 ?_
  show zx p l e _ s m _ below meth c g 8 _ _ _ _ 822 [(6, .int 22), (5, .int 0), (4, .int 0), (3, .ref (b + 431)), (2, .ref (b + 405)), (1, .ref (b + 0)), (0, .ref bS)] _
  refine z_seti (y := 0) hu.1 ?_
  refine z_iload B dL_law_822 1 rfl ?_
  refine z_icmp_eq (tgt := 829) B dL_law_824 (by decide) (fun _ => ?_) (fun h => absurd (by decide) h)
  refine z_iload B dL_law_829 1 rfl ?_
  refine z_if_ne (tgt := 846) B dL_law_831 (by decide) (fun h => absurd (by decide) h) (fun _ => ?_)
  refine z_aload_n B dL_law_834 rfl 3 rfl ?_
  refine z_iconst (v := 0) B dL_law_835 (by decide) ?_
  refine z_lald (j := 0) (x := 22) B (lKA (hk_K hK 431 rfl rfl)) (by decide) (in_of (lNA (hk_N hK 431 rfl rfl)) (show ¬ ((0 : Int32) < 0 ∨ 1 ≤ (0 : Int32).toNatClampNeg) by decide)) (rJ_at 431 0 rfl) dL_law_836 ?_
  refine z_iload B dL_law_837 0 rfl ?_
  refine z_i2l (v := 22) B dL_law_839 (by decide) ?_
  refine z_lcmp (v := 0) B dL_law_840 (by decide) ?_
  refine z_if_eq (tgt := 846) B dL_law_841 (by decide) (fun _ => ?_) (fun h => absurd (by decide) h)
  refine z_goto (tgt := 1395) B dL_law_846 (by decide) ?_
  exact z_widen (Nat.le_of_ble_eq_true rfl) (Nat.le_of_ble_eq_true rfl) (z_sub _ [2, 6] rfl (kk _))
set_option maxRecDepth 100000 in
set_option maxHeartbeats 4000000 in
theorem lf_11_354 {p : Program} {l : Launch} {e : Env} {s : State} {m : MethodId} {args : Array Value} {below : List Frame} {meth : Method} {c : Code} {g : gx_T} {Q : State → Prop} {σ : sx_T} {b t bS : Nat} {xs : Nat → Int32} (hlt : l.stackTraces = false) (B : zx_B p s m args meth c code RL 8 g) (hX : va_X bS 6 xs s s.heap) (hbl : bS < s.heap.size) (hbA : ¬ gx_b g ≤ bS) (hF : fz_P b t σ) (h_x1 : xs 1 = 23) (kk : ∀ σ', zx p l e room_1 s m args below meth c g 8 600002 7302232 Q σ' 1395 [(4, .int 0), (0, .ref bS)] []) : zx p l e room_1 s m args below meth c g 8 500 100000 Q σ 793 [(4, .int 0), (3, .ref (b + 431)), (2, .ref (b + 405)), (1, .ref (b + 0)), (0, .ref bS)] [] := by
  have hK := fz_lay hF
  refine z_eqs (σ' := (ap b σ [] [] [])) rfl ?_
  refine z_aload_n B dL_law_793 rfl 3 rfl ?_
  refine z_aload_n B dL_law_794 rfl 4 rfl ?_
  refine z_iload B dL_law_795 0 rfl ?_
  refine z_iconst (v := 1) B dL_law_797 (by decide) ?_
  refine z_iadd B dL_law_798 ?_
  refine z_seti (y := 1) (by decide) ?_
  refine z_sld (j := 1) (x := 23) B hX hbl hbA (by decide) (show ¬ ((1 : Int32) < 0 ∨ 6 ≤ (1 : Int32).toNatClampNeg) by decide) h_x1 dL_law_799 ?_
  refine z_aload_n B dL_law_800 rfl 1 rfl ?_
  refine z_cSWi (As := [.ref (b + 0), .int 23, .ref (b + 431)]) (rest := []) B cw_L_121 dL_law_801 (ci_L_tick_1033 l (σ := (ap b σ [] [] [])) (b := b) (lyA hK) (rI_at 0 7 (fz_I hF 0 7 rfl rfl)) (rI_at 0 8 (fz_I hF 0 8 rfl rfl)) (rI_at 4 2 (fz_I hF 4 2 rfl rfl)) (rR_at 0 3 (fz_R hF 0 3 rfl rfl))) rfl (by decide) rfl (Nat.le_of_ble_eq_true rfl) (by decide) (fun r u hu => ?_)
  refine z_eqs (σ' := (ap b σ [(0, 8, 23), (0, 8, 22), (0, 8, 21), (0, 8, 20), (0, 8, 19), (0, 8, 18), (0, 8, 17), (0, 8, 16), (0, 8, 15), (0, 8, 14), (0, 8, 13), (0, 8, 12), (0, 8, 11), (0, 8, 10), (0, 8, 9), (0, 8, 8), (0, 8, 7), (0, 8, 6), (0, 8, 5), (0, 8, 4), (0, 8, 3), (0, 8, 2), (0, 8, 1)] [(431, 0, 23)] [])) (hu.2.trans ap_ap) ?_
  show zx p l e _ s m _ below meth c g 8 _ _ _ _ 804 [(4, .int 0), (3, .ref (b + 431)), (2, .ref (b + 405)), (1, .ref (b + 0)), (0, .ref bS)] _
  refine z_seti (y := 0) hu.1 ?_
  refine z_istore (lv' := [(5, .int 0), (4, .int 0), (3, .ref (b + 431)), (2, .ref (b + 405)), (1, .ref (b + 0)), (0, .ref bS)]) B dL_law_804 (by decide) rfl ?_
  refine z_aload_n B dL_law_806 rfl 3 rfl ?_
  refine z_aload_n B dL_law_807 rfl 5 rfl ?_
  refine z_iload B dL_law_808 1 rfl ?_
  refine z_iconst (v := 1) B dL_law_810 (by decide) ?_
  refine z_iadd B dL_law_811 ?_
  refine z_seti (y := 1) (by decide) ?_
  refine z_sld (j := 1) (x := 23) B hX hbl hbA (by decide) (show ¬ ((1 : Int32) < 0 ∨ 6 ≤ (1 : Int32).toNatClampNeg) by decide) h_x1 dL_law_812 ?_
  refine z_cVi (As := [.int 23]) (rest := []) B cw_L_123 cx_10 dL_law_813 (ci_X9_tick_1036 l (σ := (ap b σ [(0, 8, 23), (0, 8, 22), (0, 8, 21), (0, 8, 20), (0, 8, 19), (0, 8, 18), (0, 8, 17), (0, 8, 16), (0, 8, 15), (0, 8, 14), (0, 8, 13), (0, 8, 12), (0, 8, 11), (0, 8, 10), (0, 8, 9), (0, 8, 8), (0, 8, 7), (0, 8, 6), (0, 8, 5), (0, 8, 4), (0, 8, 3), (0, 8, 2), (0, 8, 1)] [(431, 0, 23)] [])) (b := b) (lyA hK) (rI_at 405 1 (fz_I hF 405 1 rfl rfl)) (rI_at 405 6 (fz_I hF 405 6 rfl rfl)) (rI_at 405 16 (fz_I hF 405 16 rfl rfl))) (lKA (hk_K hK 405 rfl rfl)) rfl (by decide) rfl (Nat.le_of_ble_eq_true rfl) (by decide) (fun r u hu => ?_)
  refine z_eqs (σ' := (ap b σ [(405, 1, 23), (405, 1, 22), (405, 1, 21), (405, 1, 20), (405, 1, 19), (405, 1, 18), (405, 1, 17), (405, 1, 16), (405, 1, 15), (405, 1, 14), (405, 1, 13), (405, 1, 12), (405, 1, 11), (405, 1, 10), (405, 1, 9), (405, 1, 8), (405, 1, 7), (405, 1, 6), (405, 1, 5), (405, 1, 4), (405, 1, 3), (405, 1, 2), (405, 1, 1), (405, 0, 0), (0, 8, 23), (0, 8, 22), (0, 8, 21), (0, 8, 20), (0, 8, 19), (0, 8, 18), (0, 8, 17), (0, 8, 16), (0, 8, 15), (0, 8, 14), (0, 8, 13), (0, 8, 12), (0, 8, 11), (0, 8, 10), (0, 8, 9), (0, 8, 8), (0, 8, 7), (0, 8, 6), (0, 8, 5), (0, 8, 4), (0, 8, 3), (0, 8, 2), (0, 8, 1)] [(431, 0, 23)] [])) (hu.2.trans ap_ap) ?_
  show zx p l e _ s m _ below meth c g 8 _ _ _ _ 816 [(5, .int 0), (4, .int 0), (3, .ref (b + 431)), (2, .ref (b + 405)), (1, .ref (b + 0)), (0, .ref bS)] _
  refine z_seti (y := 23) hu.1 ?_
  refine z_istore (lv' := [(6, .int 23), (5, .int 0), (4, .int 0), (3, .ref (b + 431)), (2, .ref (b + 405)), (1, .ref (b + 0)), (0, .ref bS)]) B dL_law_816 (by decide) rfl ?_
  refine z_aload_n B dL_law_818 rfl 4 rfl ?_
  refine z_cVi (As := []) (rest := []) B cw_L_80 cx_10 dL_law_819 (ci_X9_thrown_95 l (σ := (ap b σ [(405, 1, 23), (405, 1, 22), (405, 1, 21), (405, 1, 20), (405, 1, 19), (405, 1, 18), (405, 1, 17), (405, 1, 16), (405, 1, 15), (405, 1, 14), (405, 1, 13), (405, 1, 12), (405, 1, 11), (405, 1, 10), (405, 1, 9), (405, 1, 8), (405, 1, 7), (405, 1, 6), (405, 1, 5), (405, 1, 4), (405, 1, 3), (405, 1, 2), (405, 1, 1), (405, 0, 0), (0, 8, 23), (0, 8, 22), (0, 8, 21), (0, 8, 20), (0, 8, 19), (0, 8, 18), (0, 8, 17), (0, 8, 16), (0, 8, 15), (0, 8, 14), (0, 8, 13), (0, 8, 12), (0, 8, 11), (0, 8, 10), (0, 8, 9), (0, 8, 8), (0, 8, 7), (0, 8, 6), (0, 8, 5), (0, 8, 4), (0, 8, 3), (0, 8, 2), (0, 8, 1)] [(431, 0, 23)] [])) (b := b) (lyA hK) (rI_at 405 0 rfl)) (lKA (hk_K hK 405 rfl rfl)) rfl (by decide) rfl (Nat.le_of_ble_eq_true rfl) (by decide) (fun r u hu => ?_)
  refine z_eqs (σ' := (ap b σ [(405, 1, 23), (405, 1, 22), (405, 1, 21), (405, 1, 20), (405, 1, 19), (405, 1, 18), (405, 1, 17), (405, 1, 16), (405, 1, 15), (405, 1, 14), (405, 1, 13), (405, 1, 12), (405, 1, 11), (405, 1, 10), (405, 1, 9), (405, 1, 8), (405, 1, 7), (405, 1, 6), (405, 1, 5), (405, 1, 4), (405, 1, 3), (405, 1, 2), (405, 1, 1), (405, 0, 0), (0, 8, 23), (0, 8, 22), (0, 8, 21), (0, 8, 20), (0, 8, 19), (0, 8, 18), (0, 8, 17), (0, 8, 16), (0, 8, 15), (0, 8, 14), (0, 8, 13), (0, 8, 12), (0, 8, 11), (0, 8, 10), (0, 8, 9), (0, 8, 8), (0, 8, 7), (0, 8, 6), (0, 8, 5), (0, 8, 4), (0, 8, 3), (0, 8, 2), (0, 8, 1)] [(431, 0, 23)] [])) hu.2 ?_
  show zx p l e _ s m _ below meth c g 8 _ _ _ _ 822 [(6, .int 23), (5, .int 0), (4, .int 0), (3, .ref (b + 431)), (2, .ref (b + 405)), (1, .ref (b + 0)), (0, .ref bS)] _
  refine z_seti (y := 0) hu.1 ?_
  refine z_iload B dL_law_822 1 rfl ?_
  refine z_icmp_eq (tgt := 829) B dL_law_824 (by decide) (fun _ => ?_) (fun h => absurd (by decide) h)
  refine z_iload B dL_law_829 1 rfl ?_
  refine z_if_ne (tgt := 846) B dL_law_831 (by decide) (fun h => absurd (by decide) h) (fun _ => ?_)
  refine z_aload_n B dL_law_834 rfl 3 rfl ?_
  refine z_iconst (v := 0) B dL_law_835 (by decide) ?_
  refine z_lald (j := 0) (x := 23) B (lKA (hk_K hK 431 rfl rfl)) (by decide) (in_of (lNA (hk_N hK 431 rfl rfl)) (show ¬ ((0 : Int32) < 0 ∨ 1 ≤ (0 : Int32).toNatClampNeg) by decide)) (rJ_at 431 0 rfl) dL_law_836 ?_
  refine z_iload B dL_law_837 0 rfl ?_
  refine z_i2l (v := 23) B dL_law_839 (by decide) ?_
  refine z_lcmp (v := 0) B dL_law_840 (by decide) ?_
  refine z_if_eq (tgt := 846) B dL_law_841 (by decide) (fun _ => ?_) (fun h => absurd (by decide) h)
  refine z_goto (tgt := 1395) B dL_law_846 (by decide) ?_
  exact z_widen (Nat.le_of_ble_eq_true rfl) (Nat.le_of_ble_eq_true rfl) (z_sub _ [2, 6] rfl (kk _))
set_option maxRecDepth 100000 in
set_option maxHeartbeats 4000000 in
theorem lf_11_355 {p : Program} {l : Launch} {e : Env} {s : State} {m : MethodId} {args : Array Value} {below : List Frame} {meth : Method} {c : Code} {g : gx_T} {Q : State → Prop} {σ : sx_T} {b t bS : Nat} {xs : Nat → Int32} (hlt : l.stackTraces = false) (B : zx_B p s m args meth c code RL 8 g) (hX : va_X bS 6 xs s s.heap) (hbl : bS < s.heap.size) (hbA : ¬ gx_b g ≤ bS) (hF : fz_P b t σ) (h_x1 : xs 1 = 24) (kk : ∀ σ', zx p l e room_1 s m args below meth c g 8 600002 7302232 Q σ' 1395 [(4, .int 0), (0, .ref bS)] []) : zx p l e room_1 s m args below meth c g 8 500 100000 Q σ 793 [(4, .int 0), (3, .ref (b + 431)), (2, .ref (b + 405)), (1, .ref (b + 0)), (0, .ref bS)] [] := by
  have hK := fz_lay hF
  refine z_eqs (σ' := (ap b σ [] [] [])) rfl ?_
  refine z_aload_n B dL_law_793 rfl 3 rfl ?_
  refine z_aload_n B dL_law_794 rfl 4 rfl ?_
  refine z_iload B dL_law_795 0 rfl ?_
  refine z_iconst (v := 1) B dL_law_797 (by decide) ?_
  refine z_iadd B dL_law_798 ?_
  refine z_seti (y := 1) (by decide) ?_
  refine z_sld (j := 1) (x := 24) B hX hbl hbA (by decide) (show ¬ ((1 : Int32) < 0 ∨ 6 ≤ (1 : Int32).toNatClampNeg) by decide) h_x1 dL_law_799 ?_
  refine z_aload_n B dL_law_800 rfl 1 rfl ?_
  refine z_cSWi (As := [.ref (b + 0), .int 24, .ref (b + 431)]) (rest := []) B cw_L_121 dL_law_801 (ci_L_tick_1038 l (σ := (ap b σ [] [] [])) (b := b) (lyA hK) (rI_at 0 7 (fz_I hF 0 7 rfl rfl)) (rI_at 0 8 (fz_I hF 0 8 rfl rfl)) (rI_at 4 2 (fz_I hF 4 2 rfl rfl)) (rR_at 0 3 (fz_R hF 0 3 rfl rfl))) rfl (by decide) rfl (Nat.le_of_ble_eq_true rfl) (by decide) (fun r u hu => ?_)
  refine z_eqs (σ' := (ap b σ [(0, 8, 24), (0, 8, 23), (0, 8, 22), (0, 8, 21), (0, 8, 20), (0, 8, 19), (0, 8, 18), (0, 8, 17), (0, 8, 16), (0, 8, 15), (0, 8, 14), (0, 8, 13), (0, 8, 12), (0, 8, 11), (0, 8, 10), (0, 8, 9), (0, 8, 8), (0, 8, 7), (0, 8, 6), (0, 8, 5), (0, 8, 4), (0, 8, 3), (0, 8, 2), (0, 8, 1)] [(431, 0, 24)] [])) (hu.2.trans ap_ap) ?_
  show zx p l e _ s m _ below meth c g 8 _ _ _ _ 804 [(4, .int 0), (3, .ref (b + 431)), (2, .ref (b + 405)), (1, .ref (b + 0)), (0, .ref bS)] _
  refine z_seti (y := 0) hu.1 ?_
  refine z_istore (lv' := [(5, .int 0), (4, .int 0), (3, .ref (b + 431)), (2, .ref (b + 405)), (1, .ref (b + 0)), (0, .ref bS)]) B dL_law_804 (by decide) rfl ?_
  refine z_aload_n B dL_law_806 rfl 3 rfl ?_
  refine z_aload_n B dL_law_807 rfl 5 rfl ?_
  refine z_iload B dL_law_808 1 rfl ?_
  refine z_iconst (v := 1) B dL_law_810 (by decide) ?_
  refine z_iadd B dL_law_811 ?_
  refine z_seti (y := 1) (by decide) ?_
  refine z_sld (j := 1) (x := 24) B hX hbl hbA (by decide) (show ¬ ((1 : Int32) < 0 ∨ 6 ≤ (1 : Int32).toNatClampNeg) by decide) h_x1 dL_law_812 ?_
  refine z_cVi (As := [.int 24]) (rest := []) B cw_L_123 cx_10 dL_law_813 (ci_X9_tick_1041 l (σ := (ap b σ [(0, 8, 24), (0, 8, 23), (0, 8, 22), (0, 8, 21), (0, 8, 20), (0, 8, 19), (0, 8, 18), (0, 8, 17), (0, 8, 16), (0, 8, 15), (0, 8, 14), (0, 8, 13), (0, 8, 12), (0, 8, 11), (0, 8, 10), (0, 8, 9), (0, 8, 8), (0, 8, 7), (0, 8, 6), (0, 8, 5), (0, 8, 4), (0, 8, 3), (0, 8, 2), (0, 8, 1)] [(431, 0, 24)] [])) (b := b) (lyA hK) (rI_at 405 1 (fz_I hF 405 1 rfl rfl)) (rI_at 405 6 (fz_I hF 405 6 rfl rfl)) (rI_at 405 16 (fz_I hF 405 16 rfl rfl))) (lKA (hk_K hK 405 rfl rfl)) rfl (by decide) rfl (Nat.le_of_ble_eq_true rfl) (by decide) (fun r u hu => ?_)
  refine z_eqs (σ' := (ap b σ [(405, 1, 24), (405, 1, 23), (405, 1, 22), (405, 1, 21), (405, 1, 20), (405, 1, 19), (405, 1, 18), (405, 1, 17), (405, 1, 16), (405, 1, 15), (405, 1, 14), (405, 1, 13), (405, 1, 12), (405, 1, 11), (405, 1, 10), (405, 1, 9), (405, 1, 8), (405, 1, 7), (405, 1, 6), (405, 1, 5), (405, 1, 4), (405, 1, 3), (405, 1, 2), (405, 1, 1), (405, 0, 0), (0, 8, 24), (0, 8, 23), (0, 8, 22), (0, 8, 21), (0, 8, 20), (0, 8, 19), (0, 8, 18), (0, 8, 17), (0, 8, 16), (0, 8, 15), (0, 8, 14), (0, 8, 13), (0, 8, 12), (0, 8, 11), (0, 8, 10), (0, 8, 9), (0, 8, 8), (0, 8, 7), (0, 8, 6), (0, 8, 5), (0, 8, 4), (0, 8, 3), (0, 8, 2), (0, 8, 1)] [(431, 0, 24)] [])) (hu.2.trans ap_ap) ?_
  show zx p l e _ s m _ below meth c g 8 _ _ _ _ 816 [(5, .int 0), (4, .int 0), (3, .ref (b + 431)), (2, .ref (b + 405)), (1, .ref (b + 0)), (0, .ref bS)] _
  refine z_seti (y := 24) hu.1 ?_
  refine z_istore (lv' := [(6, .int 24), (5, .int 0), (4, .int 0), (3, .ref (b + 431)), (2, .ref (b + 405)), (1, .ref (b + 0)), (0, .ref bS)]) B dL_law_816 (by decide) rfl ?_
  refine z_aload_n B dL_law_818 rfl 4 rfl ?_
  refine z_cVi (As := []) (rest := []) B cw_L_80 cx_10 dL_law_819 (ci_X9_thrown_95 l (σ := (ap b σ [(405, 1, 24), (405, 1, 23), (405, 1, 22), (405, 1, 21), (405, 1, 20), (405, 1, 19), (405, 1, 18), (405, 1, 17), (405, 1, 16), (405, 1, 15), (405, 1, 14), (405, 1, 13), (405, 1, 12), (405, 1, 11), (405, 1, 10), (405, 1, 9), (405, 1, 8), (405, 1, 7), (405, 1, 6), (405, 1, 5), (405, 1, 4), (405, 1, 3), (405, 1, 2), (405, 1, 1), (405, 0, 0), (0, 8, 24), (0, 8, 23), (0, 8, 22), (0, 8, 21), (0, 8, 20), (0, 8, 19), (0, 8, 18), (0, 8, 17), (0, 8, 16), (0, 8, 15), (0, 8, 14), (0, 8, 13), (0, 8, 12), (0, 8, 11), (0, 8, 10), (0, 8, 9), (0, 8, 8), (0, 8, 7), (0, 8, 6), (0, 8, 5), (0, 8, 4), (0, 8, 3), (0, 8, 2), (0, 8, 1)] [(431, 0, 24)] [])) (b := b) (lyA hK) (rI_at 405 0 rfl)) (lKA (hk_K hK 405 rfl rfl)) rfl (by decide) rfl (Nat.le_of_ble_eq_true rfl) (by decide) (fun r u hu => ?_)
  refine z_eqs (σ' := (ap b σ [(405, 1, 24), (405, 1, 23), (405, 1, 22), (405, 1, 21), (405, 1, 20), (405, 1, 19), (405, 1, 18), (405, 1, 17), (405, 1, 16), (405, 1, 15), (405, 1, 14), (405, 1, 13), (405, 1, 12), (405, 1, 11), (405, 1, 10), (405, 1, 9), (405, 1, 8), (405, 1, 7), (405, 1, 6), (405, 1, 5), (405, 1, 4), (405, 1, 3), (405, 1, 2), (405, 1, 1), (405, 0, 0), (0, 8, 24), (0, 8, 23), (0, 8, 22), (0, 8, 21), (0, 8, 20), (0, 8, 19), (0, 8, 18), (0, 8, 17), (0, 8, 16), (0, 8, 15), (0, 8, 14), (0, 8, 13), (0, 8, 12), (0, 8, 11), (0, 8, 10), (0, 8, 9), (0, 8, 8), (0, 8, 7), (0, 8, 6), (0, 8, 5), (0, 8, 4), (0, 8, 3), (0, 8, 2), (0, 8, 1)] [(431, 0, 24)] [])) hu.2 ?_
  show zx p l e _ s m _ below meth c g 8 _ _ _ _ 822 [(6, .int 24), (5, .int 0), (4, .int 0), (3, .ref (b + 431)), (2, .ref (b + 405)), (1, .ref (b + 0)), (0, .ref bS)] _
  refine z_seti (y := 0) hu.1 ?_
  refine z_iload B dL_law_822 1 rfl ?_
  refine z_icmp_eq (tgt := 829) B dL_law_824 (by decide) (fun _ => ?_) (fun h => absurd (by decide) h)
  refine z_iload B dL_law_829 1 rfl ?_
  refine z_if_ne (tgt := 846) B dL_law_831 (by decide) (fun h => absurd (by decide) h) (fun _ => ?_)
  refine z_aload_n B dL_law_834 rfl 3 rfl ?_
  refine z_iconst (v := 0) B dL_law_835 (by decide) ?_
  refine z_lald (j := 0) (x := 24) B (lKA (hk_K hK 431 rfl rfl)) (by decide) (in_of (lNA (hk_N hK 431 rfl rfl)) (show ¬ ((0 : Int32) < 0 ∨ 1 ≤ (0 : Int32).toNatClampNeg) by decide)) (rJ_at 431 0 rfl) dL_law_836 ?_
  refine z_iload B dL_law_837 0 rfl ?_
  refine z_i2l (v := 24) B dL_law_839 (by decide) ?_
  refine z_lcmp (v := 0) B dL_law_840 (by decide) ?_
  refine z_if_eq (tgt := 846) B dL_law_841 (by decide) (fun _ => ?_) (fun h => absurd (by decide) h)
  refine z_goto (tgt := 1395) B dL_law_846 (by decide) ?_
  exact z_widen (Nat.le_of_ble_eq_true rfl) (Nat.le_of_ble_eq_true rfl) (z_sub _ [2, 6] rfl (kk _))
set_option maxRecDepth 100000 in
set_option maxHeartbeats 4000000 in
theorem lf_11_356 {p : Program} {l : Launch} {e : Env} {s : State} {m : MethodId} {args : Array Value} {below : List Frame} {meth : Method} {c : Code} {g : gx_T} {Q : State → Prop} {σ : sx_T} {b t bS : Nat} {xs : Nat → Int32} (hlt : l.stackTraces = false) (B : zx_B p s m args meth c code RL 8 g) (hX : va_X bS 6 xs s s.heap) (hbl : bS < s.heap.size) (hbA : ¬ gx_b g ≤ bS) (hF : fz_P b t σ) (h_x1 : xs 1 = 25) (kk : ∀ σ', zx p l e room_1 s m args below meth c g 8 600002 7302232 Q σ' 1395 [(4, .int 0), (0, .ref bS)] []) : zx p l e room_1 s m args below meth c g 8 500 100000 Q σ 793 [(4, .int 0), (3, .ref (b + 431)), (2, .ref (b + 405)), (1, .ref (b + 0)), (0, .ref bS)] [] := by
  have hK := fz_lay hF
  refine z_eqs (σ' := (ap b σ [] [] [])) rfl ?_
  refine z_aload_n B dL_law_793 rfl 3 rfl ?_
  refine z_aload_n B dL_law_794 rfl 4 rfl ?_
  refine z_iload B dL_law_795 0 rfl ?_
  refine z_iconst (v := 1) B dL_law_797 (by decide) ?_
  refine z_iadd B dL_law_798 ?_
  refine z_seti (y := 1) (by decide) ?_
  refine z_sld (j := 1) (x := 25) B hX hbl hbA (by decide) (show ¬ ((1 : Int32) < 0 ∨ 6 ≤ (1 : Int32).toNatClampNeg) by decide) h_x1 dL_law_799 ?_
  refine z_aload_n B dL_law_800 rfl 1 rfl ?_
  refine z_cSWi (As := [.ref (b + 0), .int 25, .ref (b + 431)]) (rest := []) B cw_L_121 dL_law_801 (ci_L_tick_1043 l (σ := (ap b σ [] [] [])) (b := b) (lyA hK) (rI_at 0 7 (fz_I hF 0 7 rfl rfl)) (rI_at 0 8 (fz_I hF 0 8 rfl rfl)) (rI_at 4 2 (fz_I hF 4 2 rfl rfl)) (rR_at 0 3 (fz_R hF 0 3 rfl rfl))) rfl (by decide) rfl (Nat.le_of_ble_eq_true rfl) (by decide) (fun r u hu => ?_)
  refine z_eqs (σ' := (ap b σ [(0, 8, 25), (0, 8, 24), (0, 8, 23), (0, 8, 22), (0, 8, 21), (0, 8, 20), (0, 8, 19), (0, 8, 18), (0, 8, 17), (0, 8, 16), (0, 8, 15), (0, 8, 14), (0, 8, 13), (0, 8, 12), (0, 8, 11), (0, 8, 10), (0, 8, 9), (0, 8, 8), (0, 8, 7), (0, 8, 6), (0, 8, 5), (0, 8, 4), (0, 8, 3), (0, 8, 2), (0, 8, 1)] [(431, 0, 25)] [])) (hu.2.trans ap_ap) ?_
  show zx p l e _ s m _ below meth c g 8 _ _ _ _ 804 [(4, .int 0), (3, .ref (b + 431)), (2, .ref (b + 405)), (1, .ref (b + 0)), (0, .ref bS)] _
  refine z_seti (y := 0) hu.1 ?_
  refine z_istore (lv' := [(5, .int 0), (4, .int 0), (3, .ref (b + 431)), (2, .ref (b + 405)), (1, .ref (b + 0)), (0, .ref bS)]) B dL_law_804 (by decide) rfl ?_
  refine z_aload_n B dL_law_806 rfl 3 rfl ?_
  refine z_aload_n B dL_law_807 rfl 5 rfl ?_
  refine z_iload B dL_law_808 1 rfl ?_
  refine z_iconst (v := 1) B dL_law_810 (by decide) ?_
  refine z_iadd B dL_law_811 ?_
  refine z_seti (y := 1) (by decide) ?_
  refine z_sld (j := 1) (x := 25) B hX hbl hbA (by decide) (show ¬ ((1 : Int32) < 0 ∨ 6 ≤ (1 : Int32).toNatClampNeg) by decide) h_x1 dL_law_812 ?_
  refine z_cVi (As := [.int 25]) (rest := []) B cw_L_123 cx_10 dL_law_813 (ci_X9_tick_1046 l (σ := (ap b σ [(0, 8, 25), (0, 8, 24), (0, 8, 23), (0, 8, 22), (0, 8, 21), (0, 8, 20), (0, 8, 19), (0, 8, 18), (0, 8, 17), (0, 8, 16), (0, 8, 15), (0, 8, 14), (0, 8, 13), (0, 8, 12), (0, 8, 11), (0, 8, 10), (0, 8, 9), (0, 8, 8), (0, 8, 7), (0, 8, 6), (0, 8, 5), (0, 8, 4), (0, 8, 3), (0, 8, 2), (0, 8, 1)] [(431, 0, 25)] [])) (b := b) (lyA hK) (rI_at 405 1 (fz_I hF 405 1 rfl rfl)) (rI_at 405 6 (fz_I hF 405 6 rfl rfl)) (rI_at 405 16 (fz_I hF 405 16 rfl rfl))) (lKA (hk_K hK 405 rfl rfl)) rfl (by decide) rfl (Nat.le_of_ble_eq_true rfl) (by decide) (fun r u hu => ?_)
  refine z_eqs (σ' := (ap b σ [(405, 1, 25), (405, 1, 24), (405, 1, 23), (405, 1, 22), (405, 1, 21), (405, 1, 20), (405, 1, 19), (405, 1, 18), (405, 1, 17), (405, 1, 16), (405, 1, 15), (405, 1, 14), (405, 1, 13), (405, 1, 12), (405, 1, 11), (405, 1, 10), (405, 1, 9), (405, 1, 8), (405, 1, 7), (405, 1, 6), (405, 1, 5), (405, 1, 4), (405, 1, 3), (405, 1, 2), (405, 1, 1), (405, 0, 0), (0, 8, 25), (0, 8, 24), (0, 8, 23), (0, 8, 22), (0, 8, 21), (0, 8, 20), (0, 8, 19), (0, 8, 18), (0, 8, 17), (0, 8, 16), (0, 8, 15), (0, 8, 14), (0, 8, 13), (0, 8, 12), (0, 8, 11), (0, 8, 10), (0, 8, 9), (0, 8, 8), (0, 8, 7), (0, 8, 6), (0, 8, 5), (0, 8, 4), (0, 8, 3), (0, 8, 2), (0, 8, 1)] [(431, 0, 25)] [])) (hu.2.trans ap_ap) ?_
  show zx p l e _ s m _ below meth c g 8 _ _ _ _ 816 [(5, .int 0), (4, .int 0), (3, .ref (b + 431)), (2, .ref (b + 405)), (1, .ref (b + 0)), (0, .ref bS)] _
  refine z_seti (y := 25) hu.1 ?_
  refine z_istore (lv' := [(6, .int 25), (5, .int 0), (4, .int 0), (3, .ref (b + 431)), (2, .ref (b + 405)), (1, .ref (b + 0)), (0, .ref bS)]) B dL_law_816 (by decide) rfl ?_
  refine z_aload_n B dL_law_818 rfl 4 rfl ?_
  refine z_cVi (As := []) (rest := []) B cw_L_80 cx_10 dL_law_819 (ci_X9_thrown_95 l (σ := (ap b σ [(405, 1, 25), (405, 1, 24), (405, 1, 23), (405, 1, 22), (405, 1, 21), (405, 1, 20), (405, 1, 19), (405, 1, 18), (405, 1, 17), (405, 1, 16), (405, 1, 15), (405, 1, 14), (405, 1, 13), (405, 1, 12), (405, 1, 11), (405, 1, 10), (405, 1, 9), (405, 1, 8), (405, 1, 7), (405, 1, 6), (405, 1, 5), (405, 1, 4), (405, 1, 3), (405, 1, 2), (405, 1, 1), (405, 0, 0), (0, 8, 25), (0, 8, 24), (0, 8, 23), (0, 8, 22), (0, 8, 21), (0, 8, 20), (0, 8, 19), (0, 8, 18), (0, 8, 17), (0, 8, 16), (0, 8, 15), (0, 8, 14), (0, 8, 13), (0, 8, 12), (0, 8, 11), (0, 8, 10), (0, 8, 9), (0, 8, 8), (0, 8, 7), (0, 8, 6), (0, 8, 5), (0, 8, 4), (0, 8, 3), (0, 8, 2), (0, 8, 1)] [(431, 0, 25)] [])) (b := b) (lyA hK) (rI_at 405 0 rfl)) (lKA (hk_K hK 405 rfl rfl)) rfl (by decide) rfl (Nat.le_of_ble_eq_true rfl) (by decide) (fun r u hu => ?_)
  refine z_eqs (σ' := (ap b σ [(405, 1, 25), (405, 1, 24), (405, 1, 23), (405, 1, 22), (405, 1, 21), (405, 1, 20), (405, 1, 19), (405, 1, 18), (405, 1, 17), (405, 1, 16), (405, 1, 15), (405, 1, 14), (405, 1, 13), (405, 1, 12), (405, 1, 11), (405, 1, 10), (405, 1, 9), (405, 1, 8), (405, 1, 7), (405, 1, 6), (405, 1, 5), (405, 1, 4), (405, 1, 3), (405, 1, 2), (405, 1, 1), (405, 0, 0), (0, 8, 25), (0, 8, 24), (0, 8, 23), (0, 8, 22), (0, 8, 21), (0, 8, 20), (0, 8, 19), (0, 8, 18), (0, 8, 17), (0, 8, 16), (0, 8, 15), (0, 8, 14), (0, 8, 13), (0, 8, 12), (0, 8, 11), (0, 8, 10), (0, 8, 9), (0, 8, 8), (0, 8, 7), (0, 8, 6), (0, 8, 5), (0, 8, 4), (0, 8, 3), (0, 8, 2), (0, 8, 1)] [(431, 0, 25)] [])) hu.2 ?_
  show zx p l e _ s m _ below meth c g 8 _ _ _ _ 822 [(6, .int 25), (5, .int 0), (4, .int 0), (3, .ref (b + 431)), (2, .ref (b + 405)), (1, .ref (b + 0)), (0, .ref bS)] _
  refine z_seti (y := 0) hu.1 ?_
  refine z_iload B dL_law_822 1 rfl ?_
  refine z_icmp_eq (tgt := 829) B dL_law_824 (by decide) (fun _ => ?_) (fun h => absurd (by decide) h)
  refine z_iload B dL_law_829 1 rfl ?_
  refine z_if_ne (tgt := 846) B dL_law_831 (by decide) (fun h => absurd (by decide) h) (fun _ => ?_)
  refine z_aload_n B dL_law_834 rfl 3 rfl ?_
  refine z_iconst (v := 0) B dL_law_835 (by decide) ?_
  refine z_lald (j := 0) (x := 25) B (lKA (hk_K hK 431 rfl rfl)) (by decide) (in_of (lNA (hk_N hK 431 rfl rfl)) (show ¬ ((0 : Int32) < 0 ∨ 1 ≤ (0 : Int32).toNatClampNeg) by decide)) (rJ_at 431 0 rfl) dL_law_836 ?_
  refine z_iload B dL_law_837 0 rfl ?_
  refine z_i2l (v := 25) B dL_law_839 (by decide) ?_
  refine z_lcmp (v := 0) B dL_law_840 (by decide) ?_
  refine z_if_eq (tgt := 846) B dL_law_841 (by decide) (fun _ => ?_) (fun h => absurd (by decide) h)
  refine z_goto (tgt := 1395) B dL_law_846 (by decide) ?_
  exact z_widen (Nat.le_of_ble_eq_true rfl) (Nat.le_of_ble_eq_true rfl) (z_sub _ [2, 6] rfl (kk _))
set_option maxRecDepth 100000 in
set_option maxHeartbeats 4000000 in
theorem lf_11_357 {p : Program} {l : Launch} {e : Env} {s : State} {m : MethodId} {args : Array Value} {below : List Frame} {meth : Method} {c : Code} {g : gx_T} {Q : State → Prop} {σ : sx_T} {b t bS : Nat} {xs : Nat → Int32} (hlt : l.stackTraces = false) (B : zx_B p s m args meth c code RL 8 g) (hX : va_X bS 6 xs s s.heap) (hbl : bS < s.heap.size) (hbA : ¬ gx_b g ≤ bS) (hF : fz_P b t σ) (h_x1 : xs 1 = 26) (kk : ∀ σ', zx p l e room_1 s m args below meth c g 8 600002 7302232 Q σ' 1395 [(4, .int 0), (0, .ref bS)] []) : zx p l e room_1 s m args below meth c g 8 500 100000 Q σ 793 [(4, .int 0), (3, .ref (b + 431)), (2, .ref (b + 405)), (1, .ref (b + 0)), (0, .ref bS)] [] := by
  have hK := fz_lay hF
  refine z_eqs (σ' := (ap b σ [] [] [])) rfl ?_
  refine z_aload_n B dL_law_793 rfl 3 rfl ?_
  refine z_aload_n B dL_law_794 rfl 4 rfl ?_
  refine z_iload B dL_law_795 0 rfl ?_
  refine z_iconst (v := 1) B dL_law_797 (by decide) ?_
  refine z_iadd B dL_law_798 ?_
  refine z_seti (y := 1) (by decide) ?_
  refine z_sld (j := 1) (x := 26) B hX hbl hbA (by decide) (show ¬ ((1 : Int32) < 0 ∨ 6 ≤ (1 : Int32).toNatClampNeg) by decide) h_x1 dL_law_799 ?_
  refine z_aload_n B dL_law_800 rfl 1 rfl ?_
  refine z_cSWi (As := [.ref (b + 0), .int 26, .ref (b + 431)]) (rest := []) B cw_L_121 dL_law_801 (ci_L_tick_1048 l (σ := (ap b σ [] [] [])) (b := b) (lyA hK) (rI_at 0 7 (fz_I hF 0 7 rfl rfl)) (rI_at 0 8 (fz_I hF 0 8 rfl rfl)) (rI_at 4 2 (fz_I hF 4 2 rfl rfl)) (rR_at 0 3 (fz_R hF 0 3 rfl rfl))) rfl (by decide) rfl (Nat.le_of_ble_eq_true rfl) (by decide) (fun r u hu => ?_)
  refine z_eqs (σ' := (ap b σ [(0, 8, 26), (0, 8, 25), (0, 8, 24), (0, 8, 23), (0, 8, 22), (0, 8, 21), (0, 8, 20), (0, 8, 19), (0, 8, 18), (0, 8, 17), (0, 8, 16), (0, 8, 15), (0, 8, 14), (0, 8, 13), (0, 8, 12), (0, 8, 11), (0, 8, 10), (0, 8, 9), (0, 8, 8), (0, 8, 7), (0, 8, 6), (0, 8, 5), (0, 8, 4), (0, 8, 3), (0, 8, 2), (0, 8, 1)] [(431, 0, 26)] [])) (hu.2.trans ap_ap) ?_
  show zx p l e _ s m _ below meth c g 8 _ _ _ _ 804 [(4, .int 0), (3, .ref (b + 431)), (2, .ref (b + 405)), (1, .ref (b + 0)), (0, .ref bS)] _
  refine z_seti (y := 0) hu.1 ?_
  refine z_istore (lv' := [(5, .int 0), (4, .int 0), (3, .ref (b + 431)), (2, .ref (b + 405)), (1, .ref (b + 0)), (0, .ref bS)]) B dL_law_804 (by decide) rfl ?_
  refine z_aload_n B dL_law_806 rfl 3 rfl ?_
  refine z_aload_n B dL_law_807 rfl 5 rfl ?_
  refine z_iload B dL_law_808 1 rfl ?_
  refine z_iconst (v := 1) B dL_law_810 (by decide) ?_
  refine z_iadd B dL_law_811 ?_
  refine z_seti (y := 1) (by decide) ?_
  refine z_sld (j := 1) (x := 26) B hX hbl hbA (by decide) (show ¬ ((1 : Int32) < 0 ∨ 6 ≤ (1 : Int32).toNatClampNeg) by decide) h_x1 dL_law_812 ?_
  refine z_cVi (As := [.int 26]) (rest := []) B cw_L_123 cx_10 dL_law_813 (ci_X9_tick_1051 l (σ := (ap b σ [(0, 8, 26), (0, 8, 25), (0, 8, 24), (0, 8, 23), (0, 8, 22), (0, 8, 21), (0, 8, 20), (0, 8, 19), (0, 8, 18), (0, 8, 17), (0, 8, 16), (0, 8, 15), (0, 8, 14), (0, 8, 13), (0, 8, 12), (0, 8, 11), (0, 8, 10), (0, 8, 9), (0, 8, 8), (0, 8, 7), (0, 8, 6), (0, 8, 5), (0, 8, 4), (0, 8, 3), (0, 8, 2), (0, 8, 1)] [(431, 0, 26)] [])) (b := b) (lyA hK) (rI_at 405 1 (fz_I hF 405 1 rfl rfl)) (rI_at 405 6 (fz_I hF 405 6 rfl rfl)) (rI_at 405 16 (fz_I hF 405 16 rfl rfl))) (lKA (hk_K hK 405 rfl rfl)) rfl (by decide) rfl (Nat.le_of_ble_eq_true rfl) (by decide) (fun r u hu => ?_)
  refine z_eqs (σ' := (ap b σ [(405, 1, 26), (405, 1, 25), (405, 1, 24), (405, 1, 23), (405, 1, 22), (405, 1, 21), (405, 1, 20), (405, 1, 19), (405, 1, 18), (405, 1, 17), (405, 1, 16), (405, 1, 15), (405, 1, 14), (405, 1, 13), (405, 1, 12), (405, 1, 11), (405, 1, 10), (405, 1, 9), (405, 1, 8), (405, 1, 7), (405, 1, 6), (405, 1, 5), (405, 1, 4), (405, 1, 3), (405, 1, 2), (405, 1, 1), (405, 0, 0), (0, 8, 26), (0, 8, 25), (0, 8, 24), (0, 8, 23), (0, 8, 22), (0, 8, 21), (0, 8, 20), (0, 8, 19), (0, 8, 18), (0, 8, 17), (0, 8, 16), (0, 8, 15), (0, 8, 14), (0, 8, 13), (0, 8, 12), (0, 8, 11), (0, 8, 10), (0, 8, 9), (0, 8, 8), (0, 8, 7), (0, 8, 6), (0, 8, 5), (0, 8, 4), (0, 8, 3), (0, 8, 2), (0, 8, 1)] [(431, 0, 26)] [])) (hu.2.trans ap_ap) ?_
  show zx p l e _ s m _ below meth c g 8 _ _ _ _ 816 [(5, .int 0), (4, .int 0), (3, .ref (b + 431)), (2, .ref (b + 405)), (1, .ref (b + 0)), (0, .ref bS)] _
  refine z_seti (y := 26) hu.1 ?_
  refine z_istore (lv' := [(6, .int 26), (5, .int 0), (4, .int 0), (3, .ref (b + 431)), (2, .ref (b + 405)), (1, .ref (b + 0)), (0, .ref bS)]) B dL_law_816 (by decide) rfl ?_
  refine z_aload_n B dL_law_818 rfl 4 rfl ?_
  refine z_cVi (As := []) (rest := []) B cw_L_80 cx_10 dL_law_819 (ci_X9_thrown_95 l (σ := (ap b σ [(405, 1, 26), (405, 1, 25), (405, 1, 24), (405, 1, 23), (405, 1, 22), (405, 1, 21), (405, 1, 20), (405, 1, 19), (405, 1, 18), (405, 1, 17), (405, 1, 16), (405, 1, 15), (405, 1, 14), (405, 1, 13), (405, 1, 12), (405, 1, 11), (405, 1, 10), (405, 1, 9), (405, 1, 8), (405, 1, 7), (405, 1, 6), (405, 1, 5), (405, 1, 4), (405, 1, 3), (405, 1, 2), (405, 1, 1), (405, 0, 0), (0, 8, 26), (0, 8, 25), (0, 8, 24), (0, 8, 23), (0, 8, 22), (0, 8, 21), (0, 8, 20), (0, 8, 19), (0, 8, 18), (0, 8, 17), (0, 8, 16), (0, 8, 15), (0, 8, 14), (0, 8, 13), (0, 8, 12), (0, 8, 11), (0, 8, 10), (0, 8, 9), (0, 8, 8), (0, 8, 7), (0, 8, 6), (0, 8, 5), (0, 8, 4), (0, 8, 3), (0, 8, 2), (0, 8, 1)] [(431, 0, 26)] [])) (b := b) (lyA hK) (rI_at 405 0 rfl)) (lKA (hk_K hK 405 rfl rfl)) rfl (by decide) rfl (Nat.le_of_ble_eq_true rfl) (by decide) (fun r u hu => ?_)
  refine z_eqs (σ' := (ap b σ [(405, 1, 26), (405, 1, 25), (405, 1, 24), (405, 1, 23), (405, 1, 22), (405, 1, 21), (405, 1, 20), (405, 1, 19), (405, 1, 18), (405, 1, 17), (405, 1, 16), (405, 1, 15), (405, 1, 14), (405, 1, 13), (405, 1, 12), (405, 1, 11), (405, 1, 10), (405, 1, 9), (405, 1, 8), (405, 1, 7), (405, 1, 6), (405, 1, 5), (405, 1, 4), (405, 1, 3), (405, 1, 2), (405, 1, 1), (405, 0, 0), (0, 8, 26), (0, 8, 25), (0, 8, 24), (0, 8, 23), (0, 8, 22), (0, 8, 21), (0, 8, 20), (0, 8, 19), (0, 8, 18), (0, 8, 17), (0, 8, 16), (0, 8, 15), (0, 8, 14), (0, 8, 13), (0, 8, 12), (0, 8, 11), (0, 8, 10), (0, 8, 9), (0, 8, 8), (0, 8, 7), (0, 8, 6), (0, 8, 5), (0, 8, 4), (0, 8, 3), (0, 8, 2), (0, 8, 1)] [(431, 0, 26)] [])) hu.2 ?_
  show zx p l e _ s m _ below meth c g 8 _ _ _ _ 822 [(6, .int 26), (5, .int 0), (4, .int 0), (3, .ref (b + 431)), (2, .ref (b + 405)), (1, .ref (b + 0)), (0, .ref bS)] _
  refine z_seti (y := 0) hu.1 ?_
  refine z_iload B dL_law_822 1 rfl ?_
  refine z_icmp_eq (tgt := 829) B dL_law_824 (by decide) (fun _ => ?_) (fun h => absurd (by decide) h)
  refine z_iload B dL_law_829 1 rfl ?_
  refine z_if_ne (tgt := 846) B dL_law_831 (by decide) (fun h => absurd (by decide) h) (fun _ => ?_)
  refine z_aload_n B dL_law_834 rfl 3 rfl ?_
  refine z_iconst (v := 0) B dL_law_835 (by decide) ?_
  refine z_lald (j := 0) (x := 26) B (lKA (hk_K hK 431 rfl rfl)) (by decide) (in_of (lNA (hk_N hK 431 rfl rfl)) (show ¬ ((0 : Int32) < 0 ∨ 1 ≤ (0 : Int32).toNatClampNeg) by decide)) (rJ_at 431 0 rfl) dL_law_836 ?_
  refine z_iload B dL_law_837 0 rfl ?_
  refine z_i2l (v := 26) B dL_law_839 (by decide) ?_
  refine z_lcmp (v := 0) B dL_law_840 (by decide) ?_
  refine z_if_eq (tgt := 846) B dL_law_841 (by decide) (fun _ => ?_) (fun h => absurd (by decide) h)
  refine z_goto (tgt := 1395) B dL_law_846 (by decide) ?_
  exact z_widen (Nat.le_of_ble_eq_true rfl) (Nat.le_of_ble_eq_true rfl) (z_sub _ [2, 6] rfl (kk _))
set_option maxRecDepth 100000 in
set_option maxHeartbeats 4000000 in
theorem lf_11_358 {p : Program} {l : Launch} {e : Env} {s : State} {m : MethodId} {args : Array Value} {below : List Frame} {meth : Method} {c : Code} {g : gx_T} {Q : State → Prop} {σ : sx_T} {b t bS : Nat} {xs : Nat → Int32} (hlt : l.stackTraces = false) (B : zx_B p s m args meth c code RL 8 g) (hX : va_X bS 6 xs s s.heap) (hbl : bS < s.heap.size) (hbA : ¬ gx_b g ≤ bS) (hF : fz_P b t σ) (h_x1 : xs 1 = 27) (kk : ∀ σ', zx p l e room_1 s m args below meth c g 8 600002 7302232 Q σ' 1395 [(4, .int 0), (0, .ref bS)] []) : zx p l e room_1 s m args below meth c g 8 500 100000 Q σ 793 [(4, .int 0), (3, .ref (b + 431)), (2, .ref (b + 405)), (1, .ref (b + 0)), (0, .ref bS)] [] := by
  have hK := fz_lay hF
  refine z_eqs (σ' := (ap b σ [] [] [])) rfl ?_
  refine z_aload_n B dL_law_793 rfl 3 rfl ?_
  refine z_aload_n B dL_law_794 rfl 4 rfl ?_
  refine z_iload B dL_law_795 0 rfl ?_
  refine z_iconst (v := 1) B dL_law_797 (by decide) ?_
  refine z_iadd B dL_law_798 ?_
  refine z_seti (y := 1) (by decide) ?_
  refine z_sld (j := 1) (x := 27) B hX hbl hbA (by decide) (show ¬ ((1 : Int32) < 0 ∨ 6 ≤ (1 : Int32).toNatClampNeg) by decide) h_x1 dL_law_799 ?_
  refine z_aload_n B dL_law_800 rfl 1 rfl ?_
  refine z_cSWi (As := [.ref (b + 0), .int 27, .ref (b + 431)]) (rest := []) B cw_L_121 dL_law_801 (ci_L_tick_1053 l (σ := (ap b σ [] [] [])) (b := b) (lyA hK) (rI_at 0 7 (fz_I hF 0 7 rfl rfl)) (rI_at 0 8 (fz_I hF 0 8 rfl rfl)) (rI_at 4 2 (fz_I hF 4 2 rfl rfl)) (rR_at 0 3 (fz_R hF 0 3 rfl rfl))) rfl (by decide) rfl (Nat.le_of_ble_eq_true rfl) (by decide) (fun r u hu => ?_)
  refine z_eqs (σ' := (ap b σ [(0, 8, 27), (0, 8, 26), (0, 8, 25), (0, 8, 24), (0, 8, 23), (0, 8, 22), (0, 8, 21), (0, 8, 20), (0, 8, 19), (0, 8, 18), (0, 8, 17), (0, 8, 16), (0, 8, 15), (0, 8, 14), (0, 8, 13), (0, 8, 12), (0, 8, 11), (0, 8, 10), (0, 8, 9), (0, 8, 8), (0, 8, 7), (0, 8, 6), (0, 8, 5), (0, 8, 4), (0, 8, 3), (0, 8, 2), (0, 8, 1)] [(431, 0, 27)] [])) (hu.2.trans ap_ap) ?_
  show zx p l e _ s m _ below meth c g 8 _ _ _ _ 804 [(4, .int 0), (3, .ref (b + 431)), (2, .ref (b + 405)), (1, .ref (b + 0)), (0, .ref bS)] _
  refine z_seti (y := 0) hu.1 ?_
  refine z_istore (lv' := [(5, .int 0), (4, .int 0), (3, .ref (b + 431)), (2, .ref (b + 405)), (1, .ref (b + 0)), (0, .ref bS)]) B dL_law_804 (by decide) rfl ?_
  refine z_aload_n B dL_law_806 rfl 3 rfl ?_
  refine z_aload_n B dL_law_807 rfl 5 rfl ?_
  refine z_iload B dL_law_808 1 rfl ?_
  refine z_iconst (v := 1) B dL_law_810 (by decide) ?_
  refine z_iadd B dL_law_811 ?_
  refine z_seti (y := 1) (by decide) ?_
  refine z_sld (j := 1) (x := 27) B hX hbl hbA (by decide) (show ¬ ((1 : Int32) < 0 ∨ 6 ≤ (1 : Int32).toNatClampNeg) by decide) h_x1 dL_law_812 ?_
  refine z_cVi (As := [.int 27]) (rest := []) B cw_L_123 cx_10 dL_law_813 (ci_X9_tick_1056 l (σ := (ap b σ [(0, 8, 27), (0, 8, 26), (0, 8, 25), (0, 8, 24), (0, 8, 23), (0, 8, 22), (0, 8, 21), (0, 8, 20), (0, 8, 19), (0, 8, 18), (0, 8, 17), (0, 8, 16), (0, 8, 15), (0, 8, 14), (0, 8, 13), (0, 8, 12), (0, 8, 11), (0, 8, 10), (0, 8, 9), (0, 8, 8), (0, 8, 7), (0, 8, 6), (0, 8, 5), (0, 8, 4), (0, 8, 3), (0, 8, 2), (0, 8, 1)] [(431, 0, 27)] [])) (b := b) (lyA hK) (rI_at 405 1 (fz_I hF 405 1 rfl rfl)) (rI_at 405 6 (fz_I hF 405 6 rfl rfl)) (rI_at 405 16 (fz_I hF 405 16 rfl rfl))) (lKA (hk_K hK 405 rfl rfl)) rfl (by decide) rfl (Nat.le_of_ble_eq_true rfl) (by decide) (fun r u hu => ?_)
  refine z_eqs (σ' := (ap b σ [(405, 1, 27), (405, 1, 26), (405, 1, 25), (405, 1, 24), (405, 1, 23), (405, 1, 22), (405, 1, 21), (405, 1, 20), (405, 1, 19), (405, 1, 18), (405, 1, 17), (405, 1, 16), (405, 1, 15), (405, 1, 14), (405, 1, 13), (405, 1, 12), (405, 1, 11), (405, 1, 10), (405, 1, 9), (405, 1, 8), (405, 1, 7), (405, 1, 6), (405, 1, 5), (405, 1, 4), (405, 1, 3), (405, 1, 2), (405, 1, 1), (405, 0, 0), (0, 8, 27), (0, 8, 26), (0, 8, 25), (0, 8, 24), (0, 8, 23), (0, 8, 22), (0, 8, 21), (0, 8, 20), (0, 8, 19), (0, 8, 18), (0, 8, 17), (0, 8, 16), (0, 8, 15), (0, 8, 14), (0, 8, 13), (0, 8, 12), (0, 8, 11), (0, 8, 10), (0, 8, 9), (0, 8, 8), (0, 8, 7), (0, 8, 6), (0, 8, 5), (0, 8, 4), (0, 8, 3), (0, 8, 2), (0, 8, 1)] [(431, 0, 27)] [])) (hu.2.trans ap_ap) ?_
  show zx p l e _ s m _ below meth c g 8 _ _ _ _ 816 [(5, .int 0), (4, .int 0), (3, .ref (b + 431)), (2, .ref (b + 405)), (1, .ref (b + 0)), (0, .ref bS)] _
  refine z_seti (y := 27) hu.1 ?_
  refine z_istore (lv' := [(6, .int 27), (5, .int 0), (4, .int 0), (3, .ref (b + 431)), (2, .ref (b + 405)), (1, .ref (b + 0)), (0, .ref bS)]) B dL_law_816 (by decide) rfl ?_
  refine z_aload_n B dL_law_818 rfl 4 rfl ?_
  refine z_cVi (As := []) (rest := []) B cw_L_80 cx_10 dL_law_819 (ci_X9_thrown_95 l (σ := (ap b σ [(405, 1, 27), (405, 1, 26), (405, 1, 25), (405, 1, 24), (405, 1, 23), (405, 1, 22), (405, 1, 21), (405, 1, 20), (405, 1, 19), (405, 1, 18), (405, 1, 17), (405, 1, 16), (405, 1, 15), (405, 1, 14), (405, 1, 13), (405, 1, 12), (405, 1, 11), (405, 1, 10), (405, 1, 9), (405, 1, 8), (405, 1, 7), (405, 1, 6), (405, 1, 5), (405, 1, 4), (405, 1, 3), (405, 1, 2), (405, 1, 1), (405, 0, 0), (0, 8, 27), (0, 8, 26), (0, 8, 25), (0, 8, 24), (0, 8, 23), (0, 8, 22), (0, 8, 21), (0, 8, 20), (0, 8, 19), (0, 8, 18), (0, 8, 17), (0, 8, 16), (0, 8, 15), (0, 8, 14), (0, 8, 13), (0, 8, 12), (0, 8, 11), (0, 8, 10), (0, 8, 9), (0, 8, 8), (0, 8, 7), (0, 8, 6), (0, 8, 5), (0, 8, 4), (0, 8, 3), (0, 8, 2), (0, 8, 1)] [(431, 0, 27)] [])) (b := b) (lyA hK) (rI_at 405 0 rfl)) (lKA (hk_K hK 405 rfl rfl)) rfl (by decide) rfl (Nat.le_of_ble_eq_true rfl) (by decide) (fun r u hu => ?_)
  refine z_eqs (σ' := (ap b σ [(405, 1, 27), (405, 1, 26), (405, 1, 25), (405, 1, 24), (405, 1, 23), (405, 1, 22), (405, 1, 21), (405, 1, 20), (405, 1, 19), (405, 1, 18), (405, 1, 17), (405, 1, 16), (405, 1, 15), (405, 1, 14), (405, 1, 13), (405, 1, 12), (405, 1, 11), (405, 1, 10), (405, 1, 9), (405, 1, 8), (405, 1, 7), (405, 1, 6), (405, 1, 5), (405, 1, 4), (405, 1, 3), (405, 1, 2), (405, 1, 1), (405, 0, 0), (0, 8, 27), (0, 8, 26), (0, 8, 25), (0, 8, 24), (0, 8, 23), (0, 8, 22), (0, 8, 21), (0, 8, 20), (0, 8, 19), (0, 8, 18), (0, 8, 17), (0, 8, 16), (0, 8, 15), (0, 8, 14), (0, 8, 13), (0, 8, 12), (0, 8, 11), (0, 8, 10), (0, 8, 9), (0, 8, 8), (0, 8, 7), (0, 8, 6), (0, 8, 5), (0, 8, 4), (0, 8, 3), (0, 8, 2), (0, 8, 1)] [(431, 0, 27)] [])) hu.2 ?_
  show zx p l e _ s m _ below meth c g 8 _ _ _ _ 822 [(6, .int 27), (5, .int 0), (4, .int 0), (3, .ref (b + 431)), (2, .ref (b + 405)), (1, .ref (b + 0)), (0, .ref bS)] _
  refine z_seti (y := 0) hu.1 ?_
  refine z_iload B dL_law_822 1 rfl ?_
  refine z_icmp_eq (tgt := 829) B dL_law_824 (by decide) (fun _ => ?_) (fun h => absurd (by decide) h)
  refine z_iload B dL_law_829 1 rfl ?_
  refine z_if_ne (tgt := 846) B dL_law_831 (by decide) (fun h => absurd (by decide) h) (fun _ => ?_)
  refine z_aload_n B dL_law_834 rfl 3 rfl ?_
  refine z_iconst (v := 0) B dL_law_835 (by decide) ?_
  refine z_lald (j := 0) (x := 27) B (lKA (hk_K hK 431 rfl rfl)) (by decide) (in_of (lNA (hk_N hK 431 rfl rfl)) (show ¬ ((0 : Int32) < 0 ∨ 1 ≤ (0 : Int32).toNatClampNeg) by decide)) (rJ_at 431 0 rfl) dL_law_836 ?_
  refine z_iload B dL_law_837 0 rfl ?_
  refine z_i2l (v := 27) B dL_law_839 (by decide) ?_
  refine z_lcmp (v := 0) B dL_law_840 (by decide) ?_
  refine z_if_eq (tgt := 846) B dL_law_841 (by decide) (fun _ => ?_) (fun h => absurd (by decide) h)
  refine z_goto (tgt := 1395) B dL_law_846 (by decide) ?_
  exact z_widen (Nat.le_of_ble_eq_true rfl) (Nat.le_of_ble_eq_true rfl) (z_sub _ [2, 6] rfl (kk _))
set_option maxRecDepth 100000 in
set_option maxHeartbeats 4000000 in
theorem lf_11_359 {p : Program} {l : Launch} {e : Env} {s : State} {m : MethodId} {args : Array Value} {below : List Frame} {meth : Method} {c : Code} {g : gx_T} {Q : State → Prop} {σ : sx_T} {b t bS : Nat} {xs : Nat → Int32} (hlt : l.stackTraces = false) (B : zx_B p s m args meth c code RL 8 g) (hX : va_X bS 6 xs s s.heap) (hbl : bS < s.heap.size) (hbA : ¬ gx_b g ≤ bS) (hF : fz_P b t σ) (h_x1 : xs 1 = 28) (kk : ∀ σ', zx p l e room_1 s m args below meth c g 8 600002 7302232 Q σ' 1395 [(4, .int 0), (0, .ref bS)] []) : zx p l e room_1 s m args below meth c g 8 500 100000 Q σ 793 [(4, .int 0), (3, .ref (b + 431)), (2, .ref (b + 405)), (1, .ref (b + 0)), (0, .ref bS)] [] := by
  have hK := fz_lay hF
  refine z_eqs (σ' := (ap b σ [] [] [])) rfl ?_
  refine z_aload_n B dL_law_793 rfl 3 rfl ?_
  refine z_aload_n B dL_law_794 rfl 4 rfl ?_
  refine z_iload B dL_law_795 0 rfl ?_
  refine z_iconst (v := 1) B dL_law_797 (by decide) ?_
  refine z_iadd B dL_law_798 ?_
  refine z_seti (y := 1) (by decide) ?_
  refine z_sld (j := 1) (x := 28) B hX hbl hbA (by decide) (show ¬ ((1 : Int32) < 0 ∨ 6 ≤ (1 : Int32).toNatClampNeg) by decide) h_x1 dL_law_799 ?_
  refine z_aload_n B dL_law_800 rfl 1 rfl ?_
  refine z_cSWi (As := [.ref (b + 0), .int 28, .ref (b + 431)]) (rest := []) B cw_L_121 dL_law_801 (ci_L_tick_1058 l (σ := (ap b σ [] [] [])) (b := b) (lyA hK) (rI_at 0 7 (fz_I hF 0 7 rfl rfl)) (rI_at 0 8 (fz_I hF 0 8 rfl rfl)) (rI_at 4 2 (fz_I hF 4 2 rfl rfl)) (rR_at 0 3 (fz_R hF 0 3 rfl rfl))) rfl (by decide) rfl (Nat.le_of_ble_eq_true rfl) (by decide) (fun r u hu => ?_)
  refine z_eqs (σ' := (ap b σ [(0, 8, 28), (0, 8, 27), (0, 8, 26), (0, 8, 25), (0, 8, 24), (0, 8, 23), (0, 8, 22), (0, 8, 21), (0, 8, 20), (0, 8, 19), (0, 8, 18), (0, 8, 17), (0, 8, 16), (0, 8, 15), (0, 8, 14), (0, 8, 13), (0, 8, 12), (0, 8, 11), (0, 8, 10), (0, 8, 9), (0, 8, 8), (0, 8, 7), (0, 8, 6), (0, 8, 5), (0, 8, 4), (0, 8, 3), (0, 8, 2), (0, 8, 1)] [(431, 0, 28)] [])) (hu.2.trans ap_ap) ?_
  show zx p l e _ s m _ below meth c g 8 _ _ _ _ 804 [(4, .int 0), (3, .ref (b + 431)), (2, .ref (b + 405)), (1, .ref (b + 0)), (0, .ref bS)] _
  refine z_seti (y := 0) hu.1 ?_
  refine z_istore (lv' := [(5, .int 0), (4, .int 0), (3, .ref (b + 431)), (2, .ref (b + 405)), (1, .ref (b + 0)), (0, .ref bS)]) B dL_law_804 (by decide) rfl ?_
  refine z_aload_n B dL_law_806 rfl 3 rfl ?_
  refine z_aload_n B dL_law_807 rfl 5 rfl ?_
  refine z_iload B dL_law_808 1 rfl ?_
  refine z_iconst (v := 1) B dL_law_810 (by decide) ?_
  refine z_iadd B dL_law_811 ?_
  refine z_seti (y := 1) (by decide) ?_
  refine z_sld (j := 1) (x := 28) B hX hbl hbA (by decide) (show ¬ ((1 : Int32) < 0 ∨ 6 ≤ (1 : Int32).toNatClampNeg) by decide) h_x1 dL_law_812 ?_
  refine z_cVi (As := [.int 28]) (rest := []) B cw_L_123 cx_10 dL_law_813 (ci_X9_tick_1061 l (σ := (ap b σ [(0, 8, 28), (0, 8, 27), (0, 8, 26), (0, 8, 25), (0, 8, 24), (0, 8, 23), (0, 8, 22), (0, 8, 21), (0, 8, 20), (0, 8, 19), (0, 8, 18), (0, 8, 17), (0, 8, 16), (0, 8, 15), (0, 8, 14), (0, 8, 13), (0, 8, 12), (0, 8, 11), (0, 8, 10), (0, 8, 9), (0, 8, 8), (0, 8, 7), (0, 8, 6), (0, 8, 5), (0, 8, 4), (0, 8, 3), (0, 8, 2), (0, 8, 1)] [(431, 0, 28)] [])) (b := b) (lyA hK) (rI_at 405 1 (fz_I hF 405 1 rfl rfl)) (rI_at 405 6 (fz_I hF 405 6 rfl rfl)) (rI_at 405 16 (fz_I hF 405 16 rfl rfl))) (lKA (hk_K hK 405 rfl rfl)) rfl (by decide) rfl (Nat.le_of_ble_eq_true rfl) (by decide) (fun r u hu => ?_)
  refine z_eqs (σ' := (ap b σ [(405, 1, 28), (405, 1, 27), (405, 1, 26), (405, 1, 25), (405, 1, 24), (405, 1, 23), (405, 1, 22), (405, 1, 21), (405, 1, 20), (405, 1, 19), (405, 1, 18), (405, 1, 17), (405, 1, 16), (405, 1, 15), (405, 1, 14), (405, 1, 13), (405, 1, 12), (405, 1, 11), (405, 1, 10), (405, 1, 9), (405, 1, 8), (405, 1, 7), (405, 1, 6), (405, 1, 5), (405, 1, 4), (405, 1, 3), (405, 1, 2), (405, 1, 1), (405, 0, 0), (0, 8, 28), (0, 8, 27), (0, 8, 26), (0, 8, 25), (0, 8, 24), (0, 8, 23), (0, 8, 22), (0, 8, 21), (0, 8, 20), (0, 8, 19), (0, 8, 18), (0, 8, 17), (0, 8, 16), (0, 8, 15), (0, 8, 14), (0, 8, 13), (0, 8, 12), (0, 8, 11), (0, 8, 10), (0, 8, 9), (0, 8, 8), (0, 8, 7), (0, 8, 6), (0, 8, 5), (0, 8, 4), (0, 8, 3), (0, 8, 2), (0, 8, 1)] [(431, 0, 28)] [])) (hu.2.trans ap_ap) ?_
  show zx p l e _ s m _ below meth c g 8 _ _ _ _ 816 [(5, .int 0), (4, .int 0), (3, .ref (b + 431)), (2, .ref (b + 405)), (1, .ref (b + 0)), (0, .ref bS)] _
  refine z_seti (y := 28) hu.1 ?_
  refine z_istore (lv' := [(6, .int 28), (5, .int 0), (4, .int 0), (3, .ref (b + 431)), (2, .ref (b + 405)), (1, .ref (b + 0)), (0, .ref bS)]) B dL_law_816 (by decide) rfl ?_
  refine z_aload_n B dL_law_818 rfl 4 rfl ?_
  refine z_cVi (As := []) (rest := []) B cw_L_80 cx_10 dL_law_819 (ci_X9_thrown_95 l (σ := (ap b σ [(405, 1, 28), (405, 1, 27), (405, 1, 26), (405, 1, 25), (405, 1, 24), (405, 1, 23), (405, 1, 22), (405, 1, 21), (405, 1, 20), (405, 1, 19), (405, 1, 18), (405, 1, 17), (405, 1, 16), (405, 1, 15), (405, 1, 14), (405, 1, 13), (405, 1, 12), (405, 1, 11), (405, 1, 10), (405, 1, 9), (405, 1, 8), (405, 1, 7), (405, 1, 6), (405, 1, 5), (405, 1, 4), (405, 1, 3), (405, 1, 2), (405, 1, 1), (405, 0, 0), (0, 8, 28), (0, 8, 27), (0, 8, 26), (0, 8, 25), (0, 8, 24), (0, 8, 23), (0, 8, 22), (0, 8, 21), (0, 8, 20), (0, 8, 19), (0, 8, 18), (0, 8, 17), (0, 8, 16), (0, 8, 15), (0, 8, 14), (0, 8, 13), (0, 8, 12), (0, 8, 11), (0, 8, 10), (0, 8, 9), (0, 8, 8), (0, 8, 7), (0, 8, 6), (0, 8, 5), (0, 8, 4), (0, 8, 3), (0, 8, 2), (0, 8, 1)] [(431, 0, 28)] [])) (b := b) (lyA hK) (rI_at 405 0 rfl)) (lKA (hk_K hK 405 rfl rfl)) rfl (by decide) rfl (Nat.le_of_ble_eq_true rfl) (by decide) (fun r u hu => ?_)
  refine z_eqs (σ' := (ap b σ [(405, 1, 28), (405, 1, 27), (405, 1, 26), (405, 1, 25), (405, 1, 24), (405, 1, 23), (405, 1, 22), (405, 1, 21), (405, 1, 20), (405, 1, 19), (405, 1, 18), (405, 1, 17), (405, 1, 16), (405, 1, 15), (405, 1, 14), (405, 1, 13), (405, 1, 12), (405, 1, 11), (405, 1, 10), (405, 1, 9), (405, 1, 8), (405, 1, 7), (405, 1, 6), (405, 1, 5), (405, 1, 4), (405, 1, 3), (405, 1, 2), (405, 1, 1), (405, 0, 0), (0, 8, 28), (0, 8, 27), (0, 8, 26), (0, 8, 25), (0, 8, 24), (0, 8, 23), (0, 8, 22), (0, 8, 21), (0, 8, 20), (0, 8, 19), (0, 8, 18), (0, 8, 17), (0, 8, 16), (0, 8, 15), (0, 8, 14), (0, 8, 13), (0, 8, 12), (0, 8, 11), (0, 8, 10), (0, 8, 9), (0, 8, 8), (0, 8, 7), (0, 8, 6), (0, 8, 5), (0, 8, 4), (0, 8, 3), (0, 8, 2), (0, 8, 1)] [(431, 0, 28)] [])) hu.2 ?_
  show zx p l e _ s m _ below meth c g 8 _ _ _ _ 822 [(6, .int 28), (5, .int 0), (4, .int 0), (3, .ref (b + 431)), (2, .ref (b + 405)), (1, .ref (b + 0)), (0, .ref bS)] _
  refine z_seti (y := 0) hu.1 ?_
  refine z_iload B dL_law_822 1 rfl ?_
  refine z_icmp_eq (tgt := 829) B dL_law_824 (by decide) (fun _ => ?_) (fun h => absurd (by decide) h)
  refine z_iload B dL_law_829 1 rfl ?_
  refine z_if_ne (tgt := 846) B dL_law_831 (by decide) (fun h => absurd (by decide) h) (fun _ => ?_)
  refine z_aload_n B dL_law_834 rfl 3 rfl ?_
  refine z_iconst (v := 0) B dL_law_835 (by decide) ?_
  refine z_lald (j := 0) (x := 28) B (lKA (hk_K hK 431 rfl rfl)) (by decide) (in_of (lNA (hk_N hK 431 rfl rfl)) (show ¬ ((0 : Int32) < 0 ∨ 1 ≤ (0 : Int32).toNatClampNeg) by decide)) (rJ_at 431 0 rfl) dL_law_836 ?_
  refine z_iload B dL_law_837 0 rfl ?_
  refine z_i2l (v := 28) B dL_law_839 (by decide) ?_
  refine z_lcmp (v := 0) B dL_law_840 (by decide) ?_
  refine z_if_eq (tgt := 846) B dL_law_841 (by decide) (fun _ => ?_) (fun h => absurd (by decide) h)
  refine z_goto (tgt := 1395) B dL_law_846 (by decide) ?_
  exact z_widen (Nat.le_of_ble_eq_true rfl) (Nat.le_of_ble_eq_true rfl) (z_sub _ [2, 6] rfl (kk _))
set_option maxRecDepth 100000 in
set_option maxHeartbeats 4000000 in
theorem lf_11_360 {p : Program} {l : Launch} {e : Env} {s : State} {m : MethodId} {args : Array Value} {below : List Frame} {meth : Method} {c : Code} {g : gx_T} {Q : State → Prop} {σ : sx_T} {b t bS : Nat} {xs : Nat → Int32} (hlt : l.stackTraces = false) (B : zx_B p s m args meth c code RL 8 g) (hX : va_X bS 6 xs s s.heap) (hbl : bS < s.heap.size) (hbA : ¬ gx_b g ≤ bS) (hF : fz_P b t σ) (h_x1 : xs 1 = 29) (kk : ∀ σ', zx p l e room_1 s m args below meth c g 8 600002 7302232 Q σ' 1395 [(4, .int 0), (0, .ref bS)] []) : zx p l e room_1 s m args below meth c g 8 500 100000 Q σ 793 [(4, .int 0), (3, .ref (b + 431)), (2, .ref (b + 405)), (1, .ref (b + 0)), (0, .ref bS)] [] := by
  have hK := fz_lay hF
  refine z_eqs (σ' := (ap b σ [] [] [])) rfl ?_
  refine z_aload_n B dL_law_793 rfl 3 rfl ?_
  refine z_aload_n B dL_law_794 rfl 4 rfl ?_
  refine z_iload B dL_law_795 0 rfl ?_
  refine z_iconst (v := 1) B dL_law_797 (by decide) ?_
  refine z_iadd B dL_law_798 ?_
  refine z_seti (y := 1) (by decide) ?_
  refine z_sld (j := 1) (x := 29) B hX hbl hbA (by decide) (show ¬ ((1 : Int32) < 0 ∨ 6 ≤ (1 : Int32).toNatClampNeg) by decide) h_x1 dL_law_799 ?_
  refine z_aload_n B dL_law_800 rfl 1 rfl ?_
  refine z_cSWi (As := [.ref (b + 0), .int 29, .ref (b + 431)]) (rest := []) B cw_L_121 dL_law_801 (ci_L_tick_1063 l (σ := (ap b σ [] [] [])) (b := b) (lyA hK) (rI_at 0 7 (fz_I hF 0 7 rfl rfl)) (rI_at 0 8 (fz_I hF 0 8 rfl rfl)) (rI_at 4 2 (fz_I hF 4 2 rfl rfl)) (rR_at 0 3 (fz_R hF 0 3 rfl rfl))) rfl (by decide) rfl (Nat.le_of_ble_eq_true rfl) (by decide) (fun r u hu => ?_)
  refine z_eqs (σ' := (ap b σ [(0, 8, 29), (0, 8, 28), (0, 8, 27), (0, 8, 26), (0, 8, 25), (0, 8, 24), (0, 8, 23), (0, 8, 22), (0, 8, 21), (0, 8, 20), (0, 8, 19), (0, 8, 18), (0, 8, 17), (0, 8, 16), (0, 8, 15), (0, 8, 14), (0, 8, 13), (0, 8, 12), (0, 8, 11), (0, 8, 10), (0, 8, 9), (0, 8, 8), (0, 8, 7), (0, 8, 6), (0, 8, 5), (0, 8, 4), (0, 8, 3), (0, 8, 2), (0, 8, 1)] [(431, 0, 29)] [])) (hu.2.trans ap_ap) ?_
  show zx p l e _ s m _ below meth c g 8 _ _ _ _ 804 [(4, .int 0), (3, .ref (b + 431)), (2, .ref (b + 405)), (1, .ref (b + 0)), (0, .ref bS)] _
  refine z_seti (y := 0) hu.1 ?_
  refine z_istore (lv' := [(5, .int 0), (4, .int 0), (3, .ref (b + 431)), (2, .ref (b + 405)), (1, .ref (b + 0)), (0, .ref bS)]) B dL_law_804 (by decide) rfl ?_
  refine z_aload_n B dL_law_806 rfl 3 rfl ?_
  refine z_aload_n B dL_law_807 rfl 5 rfl ?_
  refine z_iload B dL_law_808 1 rfl ?_
  refine z_iconst (v := 1) B dL_law_810 (by decide) ?_
  refine z_iadd B dL_law_811 ?_
  refine z_seti (y := 1) (by decide) ?_
  refine z_sld (j := 1) (x := 29) B hX hbl hbA (by decide) (show ¬ ((1 : Int32) < 0 ∨ 6 ≤ (1 : Int32).toNatClampNeg) by decide) h_x1 dL_law_812 ?_
  refine z_cVi (As := [.int 29]) (rest := []) B cw_L_123 cx_10 dL_law_813 (ci_X9_tick_1066 l (σ := (ap b σ [(0, 8, 29), (0, 8, 28), (0, 8, 27), (0, 8, 26), (0, 8, 25), (0, 8, 24), (0, 8, 23), (0, 8, 22), (0, 8, 21), (0, 8, 20), (0, 8, 19), (0, 8, 18), (0, 8, 17), (0, 8, 16), (0, 8, 15), (0, 8, 14), (0, 8, 13), (0, 8, 12), (0, 8, 11), (0, 8, 10), (0, 8, 9), (0, 8, 8), (0, 8, 7), (0, 8, 6), (0, 8, 5), (0, 8, 4), (0, 8, 3), (0, 8, 2), (0, 8, 1)] [(431, 0, 29)] [])) (b := b) (lyA hK) (rI_at 405 1 (fz_I hF 405 1 rfl rfl)) (rI_at 405 6 (fz_I hF 405 6 rfl rfl)) (rI_at 405 16 (fz_I hF 405 16 rfl rfl))) (lKA (hk_K hK 405 rfl rfl)) rfl (by decide) rfl (Nat.le_of_ble_eq_true rfl) (by decide) (fun r u hu => ?_)
  refine z_eqs (σ' := (ap b σ [(405, 1, 29), (405, 1, 28), (405, 1, 27), (405, 1, 26), (405, 1, 25), (405, 1, 24), (405, 1, 23), (405, 1, 22), (405, 1, 21), (405, 1, 20), (405, 1, 19), (405, 1, 18), (405, 1, 17), (405, 1, 16), (405, 1, 15), (405, 1, 14), (405, 1, 13), (405, 1, 12), (405, 1, 11), (405, 1, 10), (405, 1, 9), (405, 1, 8), (405, 1, 7), (405, 1, 6), (405, 1, 5), (405, 1, 4), (405, 1, 3), (405, 1, 2), (405, 1, 1), (405, 0, 0), (0, 8, 29), (0, 8, 28), (0, 8, 27), (0, 8, 26), (0, 8, 25), (0, 8, 24), (0, 8, 23), (0, 8, 22), (0, 8, 21), (0, 8, 20), (0, 8, 19), (0, 8, 18), (0, 8, 17), (0, 8, 16), (0, 8, 15), (0, 8, 14), (0, 8, 13), (0, 8, 12), (0, 8, 11), (0, 8, 10), (0, 8, 9), (0, 8, 8), (0, 8, 7), (0, 8, 6), (0, 8, 5), (0, 8, 4), (0, 8, 3), (0, 8, 2), (0, 8, 1)] [(431, 0, 29)] [])) (hu.2.trans ap_ap) ?_
  show zx p l e _ s m _ below meth c g 8 _ _ _ _ 816 [(5, .int 0), (4, .int 0), (3, .ref (b + 431)), (2, .ref (b + 405)), (1, .ref (b + 0)), (0, .ref bS)] _
  refine z_seti (y := 29) hu.1 ?_
  refine z_istore (lv' := [(6, .int 29), (5, .int 0), (4, .int 0), (3, .ref (b + 431)), (2, .ref (b + 405)), (1, .ref (b + 0)), (0, .ref bS)]) B dL_law_816 (by decide) rfl ?_
  refine z_aload_n B dL_law_818 rfl 4 rfl ?_
  refine z_cVi (As := []) (rest := []) B cw_L_80 cx_10 dL_law_819 (ci_X9_thrown_95 l (σ := (ap b σ [(405, 1, 29), (405, 1, 28), (405, 1, 27), (405, 1, 26), (405, 1, 25), (405, 1, 24), (405, 1, 23), (405, 1, 22), (405, 1, 21), (405, 1, 20), (405, 1, 19), (405, 1, 18), (405, 1, 17), (405, 1, 16), (405, 1, 15), (405, 1, 14), (405, 1, 13), (405, 1, 12), (405, 1, 11), (405, 1, 10), (405, 1, 9), (405, 1, 8), (405, 1, 7), (405, 1, 6), (405, 1, 5), (405, 1, 4), (405, 1, 3), (405, 1, 2), (405, 1, 1), (405, 0, 0), (0, 8, 29), (0, 8, 28), (0, 8, 27), (0, 8, 26), (0, 8, 25), (0, 8, 24), (0, 8, 23), (0, 8, 22), (0, 8, 21), (0, 8, 20), (0, 8, 19), (0, 8, 18), (0, 8, 17), (0, 8, 16), (0, 8, 15), (0, 8, 14), (0, 8, 13), (0, 8, 12), (0, 8, 11), (0, 8, 10), (0, 8, 9), (0, 8, 8), (0, 8, 7), (0, 8, 6), (0, 8, 5), (0, 8, 4), (0, 8, 3), (0, 8, 2), (0, 8, 1)] [(431, 0, 29)] [])) (b := b) (lyA hK) (rI_at 405 0 rfl)) (lKA (hk_K hK 405 rfl rfl)) rfl (by decide) rfl (Nat.le_of_ble_eq_true rfl) (by decide) (fun r u hu => ?_)
  refine z_eqs (σ' := (ap b σ [(405, 1, 29), (405, 1, 28), (405, 1, 27), (405, 1, 26), (405, 1, 25), (405, 1, 24), (405, 1, 23), (405, 1, 22), (405, 1, 21), (405, 1, 20), (405, 1, 19), (405, 1, 18), (405, 1, 17), (405, 1, 16), (405, 1, 15), (405, 1, 14), (405, 1, 13), (405, 1, 12), (405, 1, 11), (405, 1, 10), (405, 1, 9), (405, 1, 8), (405, 1, 7), (405, 1, 6), (405, 1, 5), (405, 1, 4), (405, 1, 3), (405, 1, 2), (405, 1, 1), (405, 0, 0), (0, 8, 29), (0, 8, 28), (0, 8, 27), (0, 8, 26), (0, 8, 25), (0, 8, 24), (0, 8, 23), (0, 8, 22), (0, 8, 21), (0, 8, 20), (0, 8, 19), (0, 8, 18), (0, 8, 17), (0, 8, 16), (0, 8, 15), (0, 8, 14), (0, 8, 13), (0, 8, 12), (0, 8, 11), (0, 8, 10), (0, 8, 9), (0, 8, 8), (0, 8, 7), (0, 8, 6), (0, 8, 5), (0, 8, 4), (0, 8, 3), (0, 8, 2), (0, 8, 1)] [(431, 0, 29)] [])) hu.2 ?_
  show zx p l e _ s m _ below meth c g 8 _ _ _ _ 822 [(6, .int 29), (5, .int 0), (4, .int 0), (3, .ref (b + 431)), (2, .ref (b + 405)), (1, .ref (b + 0)), (0, .ref bS)] _
  refine z_seti (y := 0) hu.1 ?_
  refine z_iload B dL_law_822 1 rfl ?_
  refine z_icmp_eq (tgt := 829) B dL_law_824 (by decide) (fun _ => ?_) (fun h => absurd (by decide) h)
  refine z_iload B dL_law_829 1 rfl ?_
  refine z_if_ne (tgt := 846) B dL_law_831 (by decide) (fun h => absurd (by decide) h) (fun _ => ?_)
  refine z_aload_n B dL_law_834 rfl 3 rfl ?_
  refine z_iconst (v := 0) B dL_law_835 (by decide) ?_
  refine z_lald (j := 0) (x := 29) B (lKA (hk_K hK 431 rfl rfl)) (by decide) (in_of (lNA (hk_N hK 431 rfl rfl)) (show ¬ ((0 : Int32) < 0 ∨ 1 ≤ (0 : Int32).toNatClampNeg) by decide)) (rJ_at 431 0 rfl) dL_law_836 ?_
  refine z_iload B dL_law_837 0 rfl ?_
  refine z_i2l (v := 29) B dL_law_839 (by decide) ?_
  refine z_lcmp (v := 0) B dL_law_840 (by decide) ?_
  refine z_if_eq (tgt := 846) B dL_law_841 (by decide) (fun _ => ?_) (fun h => absurd (by decide) h)
  refine z_goto (tgt := 1395) B dL_law_846 (by decide) ?_
  exact z_widen (Nat.le_of_ble_eq_true rfl) (Nat.le_of_ble_eq_true rfl) (z_sub _ [2, 6] rfl (kk _))
set_option maxRecDepth 100000 in
set_option maxHeartbeats 4000000 in
theorem lf_11_361 {p : Program} {l : Launch} {e : Env} {s : State} {m : MethodId} {args : Array Value} {below : List Frame} {meth : Method} {c : Code} {g : gx_T} {Q : State → Prop} {σ : sx_T} {b t bS : Nat} {xs : Nat → Int32} (hlt : l.stackTraces = false) (B : zx_B p s m args meth c code RL 8 g) (hX : va_X bS 6 xs s s.heap) (hbl : bS < s.heap.size) (hbA : ¬ gx_b g ≤ bS) (hF : fz_P b t σ) (h_x1 : xs 1 = 30) (kk : ∀ σ', zx p l e room_1 s m args below meth c g 8 600002 7302232 Q σ' 1395 [(4, .int 0), (0, .ref bS)] []) : zx p l e room_1 s m args below meth c g 8 500 100000 Q σ 793 [(4, .int 0), (3, .ref (b + 431)), (2, .ref (b + 405)), (1, .ref (b + 0)), (0, .ref bS)] [] := by
  have hK := fz_lay hF
  refine z_eqs (σ' := (ap b σ [] [] [])) rfl ?_
  refine z_aload_n B dL_law_793 rfl 3 rfl ?_
  refine z_aload_n B dL_law_794 rfl 4 rfl ?_
  refine z_iload B dL_law_795 0 rfl ?_
  refine z_iconst (v := 1) B dL_law_797 (by decide) ?_
  refine z_iadd B dL_law_798 ?_
  refine z_seti (y := 1) (by decide) ?_
  refine z_sld (j := 1) (x := 30) B hX hbl hbA (by decide) (show ¬ ((1 : Int32) < 0 ∨ 6 ≤ (1 : Int32).toNatClampNeg) by decide) h_x1 dL_law_799 ?_
  refine z_aload_n B dL_law_800 rfl 1 rfl ?_
  refine z_cSWi (As := [.ref (b + 0), .int 30, .ref (b + 431)]) (rest := []) B cw_L_121 dL_law_801 (ci_L_tick_1068 l (σ := (ap b σ [] [] [])) (b := b) (lyA hK) (rI_at 0 7 (fz_I hF 0 7 rfl rfl)) (rI_at 0 8 (fz_I hF 0 8 rfl rfl)) (rI_at 4 2 (fz_I hF 4 2 rfl rfl)) (rR_at 0 3 (fz_R hF 0 3 rfl rfl))) rfl (by decide) rfl (Nat.le_of_ble_eq_true rfl) (by decide) (fun r u hu => ?_)
  refine z_eqs (σ' := (ap b σ [(0, 8, 30), (0, 8, 29), (0, 8, 28), (0, 8, 27), (0, 8, 26), (0, 8, 25), (0, 8, 24), (0, 8, 23), (0, 8, 22), (0, 8, 21), (0, 8, 20), (0, 8, 19), (0, 8, 18), (0, 8, 17), (0, 8, 16), (0, 8, 15), (0, 8, 14), (0, 8, 13), (0, 8, 12), (0, 8, 11), (0, 8, 10), (0, 8, 9), (0, 8, 8), (0, 8, 7), (0, 8, 6), (0, 8, 5), (0, 8, 4), (0, 8, 3), (0, 8, 2), (0, 8, 1)] [(431, 0, 30)] [])) (hu.2.trans ap_ap) ?_
  show zx p l e _ s m _ below meth c g 8 _ _ _ _ 804 [(4, .int 0), (3, .ref (b + 431)), (2, .ref (b + 405)), (1, .ref (b + 0)), (0, .ref bS)] _
  refine z_seti (y := 0) hu.1 ?_
  refine z_istore (lv' := [(5, .int 0), (4, .int 0), (3, .ref (b + 431)), (2, .ref (b + 405)), (1, .ref (b + 0)), (0, .ref bS)]) B dL_law_804 (by decide) rfl ?_
  refine z_aload_n B dL_law_806 rfl 3 rfl ?_
  refine z_aload_n B dL_law_807 rfl 5 rfl ?_
  refine z_iload B dL_law_808 1 rfl ?_
  refine z_iconst (v := 1) B dL_law_810 (by decide) ?_
  refine z_iadd B dL_law_811 ?_
  refine z_seti (y := 1) (by decide) ?_
  refine z_sld (j := 1) (x := 30) B hX hbl hbA (by decide) (show ¬ ((1 : Int32) < 0 ∨ 6 ≤ (1 : Int32).toNatClampNeg) by decide) h_x1 dL_law_812 ?_
  refine z_cVi (As := [.int 30]) (rest := []) B cw_L_123 cx_10 dL_law_813 (ci_X9_tick_1071 l (σ := (ap b σ [(0, 8, 30), (0, 8, 29), (0, 8, 28), (0, 8, 27), (0, 8, 26), (0, 8, 25), (0, 8, 24), (0, 8, 23), (0, 8, 22), (0, 8, 21), (0, 8, 20), (0, 8, 19), (0, 8, 18), (0, 8, 17), (0, 8, 16), (0, 8, 15), (0, 8, 14), (0, 8, 13), (0, 8, 12), (0, 8, 11), (0, 8, 10), (0, 8, 9), (0, 8, 8), (0, 8, 7), (0, 8, 6), (0, 8, 5), (0, 8, 4), (0, 8, 3), (0, 8, 2), (0, 8, 1)] [(431, 0, 30)] [])) (b := b) (lyA hK) (rI_at 405 1 (fz_I hF 405 1 rfl rfl)) (rI_at 405 6 (fz_I hF 405 6 rfl rfl)) (rI_at 405 16 (fz_I hF 405 16 rfl rfl))) (lKA (hk_K hK 405 rfl rfl)) rfl (by decide) rfl (Nat.le_of_ble_eq_true rfl) (by decide) (fun r u hu => ?_)
  refine z_eqs (σ' := (ap b σ [(405, 1, 30), (405, 1, 29), (405, 1, 28), (405, 1, 27), (405, 1, 26), (405, 1, 25), (405, 1, 24), (405, 1, 23), (405, 1, 22), (405, 1, 21), (405, 1, 20), (405, 1, 19), (405, 1, 18), (405, 1, 17), (405, 1, 16), (405, 1, 15), (405, 1, 14), (405, 1, 13), (405, 1, 12), (405, 1, 11), (405, 1, 10), (405, 1, 9), (405, 1, 8), (405, 1, 7), (405, 1, 6), (405, 1, 5), (405, 1, 4), (405, 1, 3), (405, 1, 2), (405, 1, 1), (405, 0, 0), (0, 8, 30), (0, 8, 29), (0, 8, 28), (0, 8, 27), (0, 8, 26), (0, 8, 25), (0, 8, 24), (0, 8, 23), (0, 8, 22), (0, 8, 21), (0, 8, 20), (0, 8, 19), (0, 8, 18), (0, 8, 17), (0, 8, 16), (0, 8, 15), (0, 8, 14), (0, 8, 13), (0, 8, 12), (0, 8, 11), (0, 8, 10), (0, 8, 9), (0, 8, 8), (0, 8, 7), (0, 8, 6), (0, 8, 5), (0, 8, 4), (0, 8, 3), (0, 8, 2), (0, 8, 1)] [(431, 0, 30)] [])) (hu.2.trans ap_ap) ?_
  show zx p l e _ s m _ below meth c g 8 _ _ _ _ 816 [(5, .int 0), (4, .int 0), (3, .ref (b + 431)), (2, .ref (b + 405)), (1, .ref (b + 0)), (0, .ref bS)] _
  refine z_seti (y := 30) hu.1 ?_
  refine z_istore (lv' := [(6, .int 30), (5, .int 0), (4, .int 0), (3, .ref (b + 431)), (2, .ref (b + 405)), (1, .ref (b + 0)), (0, .ref bS)]) B dL_law_816 (by decide) rfl ?_
  refine z_aload_n B dL_law_818 rfl 4 rfl ?_
  refine z_cVi (As := []) (rest := []) B cw_L_80 cx_10 dL_law_819 (ci_X9_thrown_95 l (σ := (ap b σ [(405, 1, 30), (405, 1, 29), (405, 1, 28), (405, 1, 27), (405, 1, 26), (405, 1, 25), (405, 1, 24), (405, 1, 23), (405, 1, 22), (405, 1, 21), (405, 1, 20), (405, 1, 19), (405, 1, 18), (405, 1, 17), (405, 1, 16), (405, 1, 15), (405, 1, 14), (405, 1, 13), (405, 1, 12), (405, 1, 11), (405, 1, 10), (405, 1, 9), (405, 1, 8), (405, 1, 7), (405, 1, 6), (405, 1, 5), (405, 1, 4), (405, 1, 3), (405, 1, 2), (405, 1, 1), (405, 0, 0), (0, 8, 30), (0, 8, 29), (0, 8, 28), (0, 8, 27), (0, 8, 26), (0, 8, 25), (0, 8, 24), (0, 8, 23), (0, 8, 22), (0, 8, 21), (0, 8, 20), (0, 8, 19), (0, 8, 18), (0, 8, 17), (0, 8, 16), (0, 8, 15), (0, 8, 14), (0, 8, 13), (0, 8, 12), (0, 8, 11), (0, 8, 10), (0, 8, 9), (0, 8, 8), (0, 8, 7), (0, 8, 6), (0, 8, 5), (0, 8, 4), (0, 8, 3), (0, 8, 2), (0, 8, 1)] [(431, 0, 30)] [])) (b := b) (lyA hK) (rI_at 405 0 rfl)) (lKA (hk_K hK 405 rfl rfl)) rfl (by decide) rfl (Nat.le_of_ble_eq_true rfl) (by decide) (fun r u hu => ?_)
  refine z_eqs (σ' := (ap b σ [(405, 1, 30), (405, 1, 29), (405, 1, 28), (405, 1, 27), (405, 1, 26), (405, 1, 25), (405, 1, 24), (405, 1, 23), (405, 1, 22), (405, 1, 21), (405, 1, 20), (405, 1, 19), (405, 1, 18), (405, 1, 17), (405, 1, 16), (405, 1, 15), (405, 1, 14), (405, 1, 13), (405, 1, 12), (405, 1, 11), (405, 1, 10), (405, 1, 9), (405, 1, 8), (405, 1, 7), (405, 1, 6), (405, 1, 5), (405, 1, 4), (405, 1, 3), (405, 1, 2), (405, 1, 1), (405, 0, 0), (0, 8, 30), (0, 8, 29), (0, 8, 28), (0, 8, 27), (0, 8, 26), (0, 8, 25), (0, 8, 24), (0, 8, 23), (0, 8, 22), (0, 8, 21), (0, 8, 20), (0, 8, 19), (0, 8, 18), (0, 8, 17), (0, 8, 16), (0, 8, 15), (0, 8, 14), (0, 8, 13), (0, 8, 12), (0, 8, 11), (0, 8, 10), (0, 8, 9), (0, 8, 8), (0, 8, 7), (0, 8, 6), (0, 8, 5), (0, 8, 4), (0, 8, 3), (0, 8, 2), (0, 8, 1)] [(431, 0, 30)] [])) hu.2 ?_
  show zx p l e _ s m _ below meth c g 8 _ _ _ _ 822 [(6, .int 30), (5, .int 0), (4, .int 0), (3, .ref (b + 431)), (2, .ref (b + 405)), (1, .ref (b + 0)), (0, .ref bS)] _
  refine z_seti (y := 0) hu.1 ?_
  refine z_iload B dL_law_822 1 rfl ?_
  refine z_icmp_eq (tgt := 829) B dL_law_824 (by decide) (fun _ => ?_) (fun h => absurd (by decide) h)
  refine z_iload B dL_law_829 1 rfl ?_
  refine z_if_ne (tgt := 846) B dL_law_831 (by decide) (fun h => absurd (by decide) h) (fun _ => ?_)
  refine z_aload_n B dL_law_834 rfl 3 rfl ?_
  refine z_iconst (v := 0) B dL_law_835 (by decide) ?_
  refine z_lald (j := 0) (x := 30) B (lKA (hk_K hK 431 rfl rfl)) (by decide) (in_of (lNA (hk_N hK 431 rfl rfl)) (show ¬ ((0 : Int32) < 0 ∨ 1 ≤ (0 : Int32).toNatClampNeg) by decide)) (rJ_at 431 0 rfl) dL_law_836 ?_
  refine z_iload B dL_law_837 0 rfl ?_
  refine z_i2l (v := 30) B dL_law_839 (by decide) ?_
  refine z_lcmp (v := 0) B dL_law_840 (by decide) ?_
  refine z_if_eq (tgt := 846) B dL_law_841 (by decide) (fun _ => ?_) (fun h => absurd (by decide) h)
  refine z_goto (tgt := 1395) B dL_law_846 (by decide) ?_
  exact z_widen (Nat.le_of_ble_eq_true rfl) (Nat.le_of_ble_eq_true rfl) (z_sub _ [2, 6] rfl (kk _))
set_option maxRecDepth 100000 in
set_option maxHeartbeats 4000000 in
theorem lf_11_362 {p : Program} {l : Launch} {e : Env} {s : State} {m : MethodId} {args : Array Value} {below : List Frame} {meth : Method} {c : Code} {g : gx_T} {Q : State → Prop} {σ : sx_T} {b t bS : Nat} {xs : Nat → Int32} (hlt : l.stackTraces = false) (B : zx_B p s m args meth c code RL 8 g) (hX : va_X bS 6 xs s s.heap) (hbl : bS < s.heap.size) (hbA : ¬ gx_b g ≤ bS) (hF : fz_P b t σ) (h_x1 : xs 1 = 31) (kk : ∀ σ', zx p l e room_1 s m args below meth c g 8 600002 7302232 Q σ' 1395 [(4, .int 0), (0, .ref bS)] []) : zx p l e room_1 s m args below meth c g 8 500 100000 Q σ 793 [(4, .int 0), (3, .ref (b + 431)), (2, .ref (b + 405)), (1, .ref (b + 0)), (0, .ref bS)] [] := by
  have hK := fz_lay hF
  refine z_eqs (σ' := (ap b σ [] [] [])) rfl ?_
  refine z_aload_n B dL_law_793 rfl 3 rfl ?_
  refine z_aload_n B dL_law_794 rfl 4 rfl ?_
  refine z_iload B dL_law_795 0 rfl ?_
  refine z_iconst (v := 1) B dL_law_797 (by decide) ?_
  refine z_iadd B dL_law_798 ?_
  refine z_seti (y := 1) (by decide) ?_
  refine z_sld (j := 1) (x := 31) B hX hbl hbA (by decide) (show ¬ ((1 : Int32) < 0 ∨ 6 ≤ (1 : Int32).toNatClampNeg) by decide) h_x1 dL_law_799 ?_
  refine z_aload_n B dL_law_800 rfl 1 rfl ?_
  refine z_cSWi (As := [.ref (b + 0), .int 31, .ref (b + 431)]) (rest := []) B cw_L_121 dL_law_801 (ci_L_tick_1073 l (σ := (ap b σ [] [] [])) (b := b) (lyA hK) (rI_at 0 7 (fz_I hF 0 7 rfl rfl)) (rI_at 0 8 (fz_I hF 0 8 rfl rfl)) (rI_at 4 2 (fz_I hF 4 2 rfl rfl)) (rR_at 0 3 (fz_R hF 0 3 rfl rfl))) rfl (by decide) rfl (Nat.le_of_ble_eq_true rfl) (by decide) (fun r u hu => ?_)
  refine z_eqs (σ' := (ap b σ [(0, 8, 31), (0, 8, 30), (0, 8, 29), (0, 8, 28), (0, 8, 27), (0, 8, 26), (0, 8, 25), (0, 8, 24), (0, 8, 23), (0, 8, 22), (0, 8, 21), (0, 8, 20), (0, 8, 19), (0, 8, 18), (0, 8, 17), (0, 8, 16), (0, 8, 15), (0, 8, 14), (0, 8, 13), (0, 8, 12), (0, 8, 11), (0, 8, 10), (0, 8, 9), (0, 8, 8), (0, 8, 7), (0, 8, 6), (0, 8, 5), (0, 8, 4), (0, 8, 3), (0, 8, 2), (0, 8, 1)] [(431, 0, 31)] [])) (hu.2.trans ap_ap) ?_
  show zx p l e _ s m _ below meth c g 8 _ _ _ _ 804 [(4, .int 0), (3, .ref (b + 431)), (2, .ref (b + 405)), (1, .ref (b + 0)), (0, .ref bS)] _
  refine z_seti (y := 0) hu.1 ?_
  refine z_istore (lv' := [(5, .int 0), (4, .int 0), (3, .ref (b + 431)), (2, .ref (b + 405)), (1, .ref (b + 0)), (0, .ref bS)]) B dL_law_804 (by decide) rfl ?_
  refine z_aload_n B dL_law_806 rfl 3 rfl ?_
  refine z_aload_n B dL_law_807 rfl 5 rfl ?_
  refine z_iload B dL_law_808 1 rfl ?_
  refine z_iconst (v := 1) B dL_law_810 (by decide) ?_
  refine z_iadd B dL_law_811 ?_
  refine z_seti (y := 1) (by decide) ?_
  refine z_sld (j := 1) (x := 31) B hX hbl hbA (by decide) (show ¬ ((1 : Int32) < 0 ∨ 6 ≤ (1 : Int32).toNatClampNeg) by decide) h_x1 dL_law_812 ?_
  refine z_cVi (As := [.int 31]) (rest := []) B cw_L_123 cx_10 dL_law_813 (ci_X9_tick_1076 l (σ := (ap b σ [(0, 8, 31), (0, 8, 30), (0, 8, 29), (0, 8, 28), (0, 8, 27), (0, 8, 26), (0, 8, 25), (0, 8, 24), (0, 8, 23), (0, 8, 22), (0, 8, 21), (0, 8, 20), (0, 8, 19), (0, 8, 18), (0, 8, 17), (0, 8, 16), (0, 8, 15), (0, 8, 14), (0, 8, 13), (0, 8, 12), (0, 8, 11), (0, 8, 10), (0, 8, 9), (0, 8, 8), (0, 8, 7), (0, 8, 6), (0, 8, 5), (0, 8, 4), (0, 8, 3), (0, 8, 2), (0, 8, 1)] [(431, 0, 31)] [])) (b := b) (lyA hK) (rI_at 405 1 (fz_I hF 405 1 rfl rfl)) (rI_at 405 6 (fz_I hF 405 6 rfl rfl)) (rI_at 405 16 (fz_I hF 405 16 rfl rfl))) (lKA (hk_K hK 405 rfl rfl)) rfl (by decide) rfl (Nat.le_of_ble_eq_true rfl) (by decide) (fun r u hu => ?_)
  refine z_eqs (σ' := (ap b σ [(405, 1, 31), (405, 1, 30), (405, 1, 29), (405, 1, 28), (405, 1, 27), (405, 1, 26), (405, 1, 25), (405, 1, 24), (405, 1, 23), (405, 1, 22), (405, 1, 21), (405, 1, 20), (405, 1, 19), (405, 1, 18), (405, 1, 17), (405, 1, 16), (405, 1, 15), (405, 1, 14), (405, 1, 13), (405, 1, 12), (405, 1, 11), (405, 1, 10), (405, 1, 9), (405, 1, 8), (405, 1, 7), (405, 1, 6), (405, 1, 5), (405, 1, 4), (405, 1, 3), (405, 1, 2), (405, 1, 1), (405, 0, 0), (0, 8, 31), (0, 8, 30), (0, 8, 29), (0, 8, 28), (0, 8, 27), (0, 8, 26), (0, 8, 25), (0, 8, 24), (0, 8, 23), (0, 8, 22), (0, 8, 21), (0, 8, 20), (0, 8, 19), (0, 8, 18), (0, 8, 17), (0, 8, 16), (0, 8, 15), (0, 8, 14), (0, 8, 13), (0, 8, 12), (0, 8, 11), (0, 8, 10), (0, 8, 9), (0, 8, 8), (0, 8, 7), (0, 8, 6), (0, 8, 5), (0, 8, 4), (0, 8, 3), (0, 8, 2), (0, 8, 1)] [(431, 0, 31)] [])) (hu.2.trans ap_ap) ?_
  show zx p l e _ s m _ below meth c g 8 _ _ _ _ 816 [(5, .int 0), (4, .int 0), (3, .ref (b + 431)), (2, .ref (b + 405)), (1, .ref (b + 0)), (0, .ref bS)] _
  refine z_seti (y := 31) hu.1 ?_
  refine z_istore (lv' := [(6, .int 31), (5, .int 0), (4, .int 0), (3, .ref (b + 431)), (2, .ref (b + 405)), (1, .ref (b + 0)), (0, .ref bS)]) B dL_law_816 (by decide) rfl ?_
  refine z_aload_n B dL_law_818 rfl 4 rfl ?_
  refine z_cVi (As := []) (rest := []) B cw_L_80 cx_10 dL_law_819 (ci_X9_thrown_95 l (σ := (ap b σ [(405, 1, 31), (405, 1, 30), (405, 1, 29), (405, 1, 28), (405, 1, 27), (405, 1, 26), (405, 1, 25), (405, 1, 24), (405, 1, 23), (405, 1, 22), (405, 1, 21), (405, 1, 20), (405, 1, 19), (405, 1, 18), (405, 1, 17), (405, 1, 16), (405, 1, 15), (405, 1, 14), (405, 1, 13), (405, 1, 12), (405, 1, 11), (405, 1, 10), (405, 1, 9), (405, 1, 8), (405, 1, 7), (405, 1, 6), (405, 1, 5), (405, 1, 4), (405, 1, 3), (405, 1, 2), (405, 1, 1), (405, 0, 0), (0, 8, 31), (0, 8, 30), (0, 8, 29), (0, 8, 28), (0, 8, 27), (0, 8, 26), (0, 8, 25), (0, 8, 24), (0, 8, 23), (0, 8, 22), (0, 8, 21), (0, 8, 20), (0, 8, 19), (0, 8, 18), (0, 8, 17), (0, 8, 16), (0, 8, 15), (0, 8, 14), (0, 8, 13), (0, 8, 12), (0, 8, 11), (0, 8, 10), (0, 8, 9), (0, 8, 8), (0, 8, 7), (0, 8, 6), (0, 8, 5), (0, 8, 4), (0, 8, 3), (0, 8, 2), (0, 8, 1)] [(431, 0, 31)] [])) (b := b) (lyA hK) (rI_at 405 0 rfl)) (lKA (hk_K hK 405 rfl rfl)) rfl (by decide) rfl (Nat.le_of_ble_eq_true rfl) (by decide) (fun r u hu => ?_)
  refine z_eqs (σ' := (ap b σ [(405, 1, 31), (405, 1, 30), (405, 1, 29), (405, 1, 28), (405, 1, 27), (405, 1, 26), (405, 1, 25), (405, 1, 24), (405, 1, 23), (405, 1, 22), (405, 1, 21), (405, 1, 20), (405, 1, 19), (405, 1, 18), (405, 1, 17), (405, 1, 16), (405, 1, 15), (405, 1, 14), (405, 1, 13), (405, 1, 12), (405, 1, 11), (405, 1, 10), (405, 1, 9), (405, 1, 8), (405, 1, 7), (405, 1, 6), (405, 1, 5), (405, 1, 4), (405, 1, 3), (405, 1, 2), (405, 1, 1), (405, 0, 0), (0, 8, 31), (0, 8, 30), (0, 8, 29), (0, 8, 28), (0, 8, 27), (0, 8, 26), (0, 8, 25), (0, 8, 24), (0, 8, 23), (0, 8, 22), (0, 8, 21), (0, 8, 20), (0, 8, 19), (0, 8, 18), (0, 8, 17), (0, 8, 16), (0, 8, 15), (0, 8, 14), (0, 8, 13), (0, 8, 12), (0, 8, 11), (0, 8, 10), (0, 8, 9), (0, 8, 8), (0, 8, 7), (0, 8, 6), (0, 8, 5), (0, 8, 4), (0, 8, 3), (0, 8, 2), (0, 8, 1)] [(431, 0, 31)] [])) hu.2 ?_
  show zx p l e _ s m _ below meth c g 8 _ _ _ _ 822 [(6, .int 31), (5, .int 0), (4, .int 0), (3, .ref (b + 431)), (2, .ref (b + 405)), (1, .ref (b + 0)), (0, .ref bS)] _
  refine z_seti (y := 0) hu.1 ?_
  refine z_iload B dL_law_822 1 rfl ?_
  refine z_icmp_eq (tgt := 829) B dL_law_824 (by decide) (fun _ => ?_) (fun h => absurd (by decide) h)
  refine z_iload B dL_law_829 1 rfl ?_
  refine z_if_ne (tgt := 846) B dL_law_831 (by decide) (fun h => absurd (by decide) h) (fun _ => ?_)
  refine z_aload_n B dL_law_834 rfl 3 rfl ?_
  refine z_iconst (v := 0) B dL_law_835 (by decide) ?_
  refine z_lald (j := 0) (x := 31) B (lKA (hk_K hK 431 rfl rfl)) (by decide) (in_of (lNA (hk_N hK 431 rfl rfl)) (show ¬ ((0 : Int32) < 0 ∨ 1 ≤ (0 : Int32).toNatClampNeg) by decide)) (rJ_at 431 0 rfl) dL_law_836 ?_
  refine z_iload B dL_law_837 0 rfl ?_
  refine z_i2l (v := 31) B dL_law_839 (by decide) ?_
  refine z_lcmp (v := 0) B dL_law_840 (by decide) ?_
  refine z_if_eq (tgt := 846) B dL_law_841 (by decide) (fun _ => ?_) (fun h => absurd (by decide) h)
  refine z_goto (tgt := 1395) B dL_law_846 (by decide) ?_
  exact z_widen (Nat.le_of_ble_eq_true rfl) (Nat.le_of_ble_eq_true rfl) (z_sub _ [2, 6] rfl (kk _))
set_option maxRecDepth 100000 in
set_option maxHeartbeats 4000000 in
theorem lf_11_363 {p : Program} {l : Launch} {e : Env} {s : State} {m : MethodId} {args : Array Value} {below : List Frame} {meth : Method} {c : Code} {g : gx_T} {Q : State → Prop} {σ : sx_T} {b t bS : Nat} {xs : Nat → Int32} (hlt : l.stackTraces = false) (B : zx_B p s m args meth c code RL 8 g) (hX : va_X bS 6 xs s s.heap) (hbl : bS < s.heap.size) (hbA : ¬ gx_b g ≤ bS) (hF : fz_P b t σ) (h_x1 : xs 1 = 32) (kk : ∀ σ', zx p l e room_1 s m args below meth c g 8 600002 7302232 Q σ' 1395 [(4, .int 0), (0, .ref bS)] []) : zx p l e room_1 s m args below meth c g 8 500 100000 Q σ 793 [(4, .int 0), (3, .ref (b + 431)), (2, .ref (b + 405)), (1, .ref (b + 0)), (0, .ref bS)] [] := by
  have hK := fz_lay hF
  refine z_eqs (σ' := (ap b σ [] [] [])) rfl ?_
  refine z_aload_n B dL_law_793 rfl 3 rfl ?_
  refine z_aload_n B dL_law_794 rfl 4 rfl ?_
  refine z_iload B dL_law_795 0 rfl ?_
  refine z_iconst (v := 1) B dL_law_797 (by decide) ?_
  refine z_iadd B dL_law_798 ?_
  refine z_seti (y := 1) (by decide) ?_
  refine z_sld (j := 1) (x := 32) B hX hbl hbA (by decide) (show ¬ ((1 : Int32) < 0 ∨ 6 ≤ (1 : Int32).toNatClampNeg) by decide) h_x1 dL_law_799 ?_
  refine z_aload_n B dL_law_800 rfl 1 rfl ?_
  refine z_cSWi (As := [.ref (b + 0), .int 32, .ref (b + 431)]) (rest := []) B cw_L_121 dL_law_801 (ci_L_tick_1078 l (σ := (ap b σ [] [] [])) (b := b) (lyA hK) (rI_at 0 7 (fz_I hF 0 7 rfl rfl)) (rI_at 0 8 (fz_I hF 0 8 rfl rfl)) (rI_at 4 2 (fz_I hF 4 2 rfl rfl)) (rR_at 0 3 (fz_R hF 0 3 rfl rfl))) rfl (by decide) rfl (Nat.le_of_ble_eq_true rfl) (by decide) (fun r u hu => ?_)
  refine z_eqs (σ' := (ap b σ [(0, 8, 32), (0, 8, 31), (0, 8, 30), (0, 8, 29), (0, 8, 28), (0, 8, 27), (0, 8, 26), (0, 8, 25), (0, 8, 24), (0, 8, 23), (0, 8, 22), (0, 8, 21), (0, 8, 20), (0, 8, 19), (0, 8, 18), (0, 8, 17), (0, 8, 16), (0, 8, 15), (0, 8, 14), (0, 8, 13), (0, 8, 12), (0, 8, 11), (0, 8, 10), (0, 8, 9), (0, 8, 8), (0, 8, 7), (0, 8, 6), (0, 8, 5), (0, 8, 4), (0, 8, 3), (0, 8, 2), (0, 8, 1)] [(431, 0, 32)] [])) (hu.2.trans ap_ap) ?_
  show zx p l e _ s m _ below meth c g 8 _ _ _ _ 804 [(4, .int 0), (3, .ref (b + 431)), (2, .ref (b + 405)), (1, .ref (b + 0)), (0, .ref bS)] _
  refine z_seti (y := 0) hu.1 ?_
  refine z_istore (lv' := [(5, .int 0), (4, .int 0), (3, .ref (b + 431)), (2, .ref (b + 405)), (1, .ref (b + 0)), (0, .ref bS)]) B dL_law_804 (by decide) rfl ?_
  refine z_aload_n B dL_law_806 rfl 3 rfl ?_
  refine z_aload_n B dL_law_807 rfl 5 rfl ?_
  refine z_iload B dL_law_808 1 rfl ?_
  refine z_iconst (v := 1) B dL_law_810 (by decide) ?_
  refine z_iadd B dL_law_811 ?_
  refine z_seti (y := 1) (by decide) ?_
  refine z_sld (j := 1) (x := 32) B hX hbl hbA (by decide) (show ¬ ((1 : Int32) < 0 ∨ 6 ≤ (1 : Int32).toNatClampNeg) by decide) h_x1 dL_law_812 ?_
  refine z_cVi (As := [.int 32]) (rest := []) B cw_L_123 cx_10 dL_law_813 (ci_X9_tick_1081 l (σ := (ap b σ [(0, 8, 32), (0, 8, 31), (0, 8, 30), (0, 8, 29), (0, 8, 28), (0, 8, 27), (0, 8, 26), (0, 8, 25), (0, 8, 24), (0, 8, 23), (0, 8, 22), (0, 8, 21), (0, 8, 20), (0, 8, 19), (0, 8, 18), (0, 8, 17), (0, 8, 16), (0, 8, 15), (0, 8, 14), (0, 8, 13), (0, 8, 12), (0, 8, 11), (0, 8, 10), (0, 8, 9), (0, 8, 8), (0, 8, 7), (0, 8, 6), (0, 8, 5), (0, 8, 4), (0, 8, 3), (0, 8, 2), (0, 8, 1)] [(431, 0, 32)] [])) (b := b) (lyA hK) (rI_at 405 1 (fz_I hF 405 1 rfl rfl)) (rI_at 405 6 (fz_I hF 405 6 rfl rfl)) (rI_at 405 16 (fz_I hF 405 16 rfl rfl))) (lKA (hk_K hK 405 rfl rfl)) rfl (by decide) rfl (Nat.le_of_ble_eq_true rfl) (by decide) (fun r u hu => ?_)
  refine z_eqs (σ' := (ap b σ [(405, 1, 32), (405, 1, 31), (405, 1, 30), (405, 1, 29), (405, 1, 28), (405, 1, 27), (405, 1, 26), (405, 1, 25), (405, 1, 24), (405, 1, 23), (405, 1, 22), (405, 1, 21), (405, 1, 20), (405, 1, 19), (405, 1, 18), (405, 1, 17), (405, 1, 16), (405, 1, 15), (405, 1, 14), (405, 1, 13), (405, 1, 12), (405, 1, 11), (405, 1, 10), (405, 1, 9), (405, 1, 8), (405, 1, 7), (405, 1, 6), (405, 1, 5), (405, 1, 4), (405, 1, 3), (405, 1, 2), (405, 1, 1), (405, 0, 0), (0, 8, 32), (0, 8, 31), (0, 8, 30), (0, 8, 29), (0, 8, 28), (0, 8, 27), (0, 8, 26), (0, 8, 25), (0, 8, 24), (0, 8, 23), (0, 8, 22), (0, 8, 21), (0, 8, 20), (0, 8, 19), (0, 8, 18), (0, 8, 17), (0, 8, 16), (0, 8, 15), (0, 8, 14), (0, 8, 13), (0, 8, 12), (0, 8, 11), (0, 8, 10), (0, 8, 9), (0, 8, 8), (0, 8, 7), (0, 8, 6), (0, 8, 5), (0, 8, 4), (0, 8, 3), (0, 8, 2), (0, 8, 1)] [(431, 0, 32)] [])) (hu.2.trans ap_ap) ?_
  show zx p l e _ s m _ below meth c g 8 _ _ _ _ 816 [(5, .int 0), (4, .int 0), (3, .ref (b + 431)), (2, .ref (b + 405)), (1, .ref (b + 0)), (0, .ref bS)] _
  refine z_seti (y := 32) hu.1 ?_
  refine z_istore (lv' := [(6, .int 32), (5, .int 0), (4, .int 0), (3, .ref (b + 431)), (2, .ref (b + 405)), (1, .ref (b + 0)), (0, .ref bS)]) B dL_law_816 (by decide) rfl ?_
  refine z_aload_n B dL_law_818 rfl 4 rfl ?_
  refine z_cVi (As := []) (rest := []) B cw_L_80 cx_10 dL_law_819 (ci_X9_thrown_95 l (σ := (ap b σ [(405, 1, 32), (405, 1, 31), (405, 1, 30), (405, 1, 29), (405, 1, 28), (405, 1, 27), (405, 1, 26), (405, 1, 25), (405, 1, 24), (405, 1, 23), (405, 1, 22), (405, 1, 21), (405, 1, 20), (405, 1, 19), (405, 1, 18), (405, 1, 17), (405, 1, 16), (405, 1, 15), (405, 1, 14), (405, 1, 13), (405, 1, 12), (405, 1, 11), (405, 1, 10), (405, 1, 9), (405, 1, 8), (405, 1, 7), (405, 1, 6), (405, 1, 5), (405, 1, 4), (405, 1, 3), (405, 1, 2), (405, 1, 1), (405, 0, 0), (0, 8, 32), (0, 8, 31), (0, 8, 30), (0, 8, 29), (0, 8, 28), (0, 8, 27), (0, 8, 26), (0, 8, 25), (0, 8, 24), (0, 8, 23), (0, 8, 22), (0, 8, 21), (0, 8, 20), (0, 8, 19), (0, 8, 18), (0, 8, 17), (0, 8, 16), (0, 8, 15), (0, 8, 14), (0, 8, 13), (0, 8, 12), (0, 8, 11), (0, 8, 10), (0, 8, 9), (0, 8, 8), (0, 8, 7), (0, 8, 6), (0, 8, 5), (0, 8, 4), (0, 8, 3), (0, 8, 2), (0, 8, 1)] [(431, 0, 32)] [])) (b := b) (lyA hK) (rI_at 405 0 rfl)) (lKA (hk_K hK 405 rfl rfl)) rfl (by decide) rfl (Nat.le_of_ble_eq_true rfl) (by decide) (fun r u hu => ?_)
  refine z_eqs (σ' := (ap b σ [(405, 1, 32), (405, 1, 31), (405, 1, 30), (405, 1, 29), (405, 1, 28), (405, 1, 27), (405, 1, 26), (405, 1, 25), (405, 1, 24), (405, 1, 23), (405, 1, 22), (405, 1, 21), (405, 1, 20), (405, 1, 19), (405, 1, 18), (405, 1, 17), (405, 1, 16), (405, 1, 15), (405, 1, 14), (405, 1, 13), (405, 1, 12), (405, 1, 11), (405, 1, 10), (405, 1, 9), (405, 1, 8), (405, 1, 7), (405, 1, 6), (405, 1, 5), (405, 1, 4), (405, 1, 3), (405, 1, 2), (405, 1, 1), (405, 0, 0), (0, 8, 32), (0, 8, 31), (0, 8, 30), (0, 8, 29), (0, 8, 28), (0, 8, 27), (0, 8, 26), (0, 8, 25), (0, 8, 24), (0, 8, 23), (0, 8, 22), (0, 8, 21), (0, 8, 20), (0, 8, 19), (0, 8, 18), (0, 8, 17), (0, 8, 16), (0, 8, 15), (0, 8, 14), (0, 8, 13), (0, 8, 12), (0, 8, 11), (0, 8, 10), (0, 8, 9), (0, 8, 8), (0, 8, 7), (0, 8, 6), (0, 8, 5), (0, 8, 4), (0, 8, 3), (0, 8, 2), (0, 8, 1)] [(431, 0, 32)] [])) hu.2 ?_
  show zx p l e _ s m _ below meth c g 8 _ _ _ _ 822 [(6, .int 32), (5, .int 0), (4, .int 0), (3, .ref (b + 431)), (2, .ref (b + 405)), (1, .ref (b + 0)), (0, .ref bS)] _
  refine z_seti (y := 0) hu.1 ?_
  refine z_iload B dL_law_822 1 rfl ?_
  refine z_icmp_eq (tgt := 829) B dL_law_824 (by decide) (fun _ => ?_) (fun h => absurd (by decide) h)
  refine z_iload B dL_law_829 1 rfl ?_
  refine z_if_ne (tgt := 846) B dL_law_831 (by decide) (fun h => absurd (by decide) h) (fun _ => ?_)
  refine z_aload_n B dL_law_834 rfl 3 rfl ?_
  refine z_iconst (v := 0) B dL_law_835 (by decide) ?_
  refine z_lald (j := 0) (x := 32) B (lKA (hk_K hK 431 rfl rfl)) (by decide) (in_of (lNA (hk_N hK 431 rfl rfl)) (show ¬ ((0 : Int32) < 0 ∨ 1 ≤ (0 : Int32).toNatClampNeg) by decide)) (rJ_at 431 0 rfl) dL_law_836 ?_
  refine z_iload B dL_law_837 0 rfl ?_
  refine z_i2l (v := 32) B dL_law_839 (by decide) ?_
  refine z_lcmp (v := 0) B dL_law_840 (by decide) ?_
  refine z_if_eq (tgt := 846) B dL_law_841 (by decide) (fun _ => ?_) (fun h => absurd (by decide) h)
  refine z_goto (tgt := 1395) B dL_law_846 (by decide) ?_
  exact z_widen (Nat.le_of_ble_eq_true rfl) (Nat.le_of_ble_eq_true rfl) (z_sub _ [2, 6] rfl (kk _))
set_option maxRecDepth 100000 in
set_option maxHeartbeats 4000000 in
theorem lf_11_364 {p : Program} {l : Launch} {e : Env} {s : State} {m : MethodId} {args : Array Value} {below : List Frame} {meth : Method} {c : Code} {g : gx_T} {Q : State → Prop} {σ : sx_T} {b t bS : Nat} {xs : Nat → Int32} (hlt : l.stackTraces = false) (B : zx_B p s m args meth c code RL 8 g) (hX : va_X bS 6 xs s s.heap) (hbl : bS < s.heap.size) (hbA : ¬ gx_b g ≤ bS) (hF : fz_P b t σ) (h_x1 : xs 1 = 33) (kk : ∀ σ', zx p l e room_1 s m args below meth c g 8 600002 7302232 Q σ' 1395 [(4, .int 0), (0, .ref bS)] []) : zx p l e room_1 s m args below meth c g 8 500 100000 Q σ 793 [(4, .int 0), (3, .ref (b + 431)), (2, .ref (b + 405)), (1, .ref (b + 0)), (0, .ref bS)] [] := by
  have hK := fz_lay hF
  refine z_eqs (σ' := (ap b σ [] [] [])) rfl ?_
  refine z_aload_n B dL_law_793 rfl 3 rfl ?_
  refine z_aload_n B dL_law_794 rfl 4 rfl ?_
  refine z_iload B dL_law_795 0 rfl ?_
  refine z_iconst (v := 1) B dL_law_797 (by decide) ?_
  refine z_iadd B dL_law_798 ?_
  refine z_seti (y := 1) (by decide) ?_
  refine z_sld (j := 1) (x := 33) B hX hbl hbA (by decide) (show ¬ ((1 : Int32) < 0 ∨ 6 ≤ (1 : Int32).toNatClampNeg) by decide) h_x1 dL_law_799 ?_
  refine z_aload_n B dL_law_800 rfl 1 rfl ?_
  refine z_cSWi (As := [.ref (b + 0), .int 33, .ref (b + 431)]) (rest := []) B cw_L_121 dL_law_801 (ci_L_tick_1083 l (σ := (ap b σ [] [] [])) (b := b) (lyA hK) (rI_at 0 7 (fz_I hF 0 7 rfl rfl)) (rI_at 0 8 (fz_I hF 0 8 rfl rfl)) (rI_at 4 2 (fz_I hF 4 2 rfl rfl)) (rR_at 0 3 (fz_R hF 0 3 rfl rfl))) rfl (by decide) rfl (Nat.le_of_ble_eq_true rfl) (by decide) (fun r u hu => ?_)
  refine z_eqs (σ' := (ap b σ [(0, 8, 33), (0, 8, 32), (0, 8, 31), (0, 8, 30), (0, 8, 29), (0, 8, 28), (0, 8, 27), (0, 8, 26), (0, 8, 25), (0, 8, 24), (0, 8, 23), (0, 8, 22), (0, 8, 21), (0, 8, 20), (0, 8, 19), (0, 8, 18), (0, 8, 17), (0, 8, 16), (0, 8, 15), (0, 8, 14), (0, 8, 13), (0, 8, 12), (0, 8, 11), (0, 8, 10), (0, 8, 9), (0, 8, 8), (0, 8, 7), (0, 8, 6), (0, 8, 5), (0, 8, 4), (0, 8, 3), (0, 8, 2), (0, 8, 1)] [(431, 0, 33)] [])) (hu.2.trans ap_ap) ?_
  show zx p l e _ s m _ below meth c g 8 _ _ _ _ 804 [(4, .int 0), (3, .ref (b + 431)), (2, .ref (b + 405)), (1, .ref (b + 0)), (0, .ref bS)] _
  refine z_seti (y := 0) hu.1 ?_
  refine z_istore (lv' := [(5, .int 0), (4, .int 0), (3, .ref (b + 431)), (2, .ref (b + 405)), (1, .ref (b + 0)), (0, .ref bS)]) B dL_law_804 (by decide) rfl ?_
  refine z_aload_n B dL_law_806 rfl 3 rfl ?_
  refine z_aload_n B dL_law_807 rfl 5 rfl ?_
  refine z_iload B dL_law_808 1 rfl ?_
  refine z_iconst (v := 1) B dL_law_810 (by decide) ?_
  refine z_iadd B dL_law_811 ?_
  refine z_seti (y := 1) (by decide) ?_
  refine z_sld (j := 1) (x := 33) B hX hbl hbA (by decide) (show ¬ ((1 : Int32) < 0 ∨ 6 ≤ (1 : Int32).toNatClampNeg) by decide) h_x1 dL_law_812 ?_
  refine z_cVi (As := [.int 33]) (rest := []) B cw_L_123 cx_10 dL_law_813 (ci_X9_tick_1086 l (σ := (ap b σ [(0, 8, 33), (0, 8, 32), (0, 8, 31), (0, 8, 30), (0, 8, 29), (0, 8, 28), (0, 8, 27), (0, 8, 26), (0, 8, 25), (0, 8, 24), (0, 8, 23), (0, 8, 22), (0, 8, 21), (0, 8, 20), (0, 8, 19), (0, 8, 18), (0, 8, 17), (0, 8, 16), (0, 8, 15), (0, 8, 14), (0, 8, 13), (0, 8, 12), (0, 8, 11), (0, 8, 10), (0, 8, 9), (0, 8, 8), (0, 8, 7), (0, 8, 6), (0, 8, 5), (0, 8, 4), (0, 8, 3), (0, 8, 2), (0, 8, 1)] [(431, 0, 33)] [])) (b := b) (lyA hK) (rI_at 405 1 (fz_I hF 405 1 rfl rfl)) (rI_at 405 6 (fz_I hF 405 6 rfl rfl)) (rI_at 405 16 (fz_I hF 405 16 rfl rfl))) (lKA (hk_K hK 405 rfl rfl)) rfl (by decide) rfl (Nat.le_of_ble_eq_true rfl) (by decide) (fun r u hu => ?_)
  refine z_eqs (σ' := (ap b σ [(405, 1, 33), (405, 1, 32), (405, 1, 31), (405, 1, 30), (405, 1, 29), (405, 1, 28), (405, 1, 27), (405, 1, 26), (405, 1, 25), (405, 1, 24), (405, 1, 23), (405, 1, 22), (405, 1, 21), (405, 1, 20), (405, 1, 19), (405, 1, 18), (405, 1, 17), (405, 1, 16), (405, 1, 15), (405, 1, 14), (405, 1, 13), (405, 1, 12), (405, 1, 11), (405, 1, 10), (405, 1, 9), (405, 1, 8), (405, 1, 7), (405, 1, 6), (405, 1, 5), (405, 1, 4), (405, 1, 3), (405, 1, 2), (405, 1, 1), (405, 0, 0), (0, 8, 33), (0, 8, 32), (0, 8, 31), (0, 8, 30), (0, 8, 29), (0, 8, 28), (0, 8, 27), (0, 8, 26), (0, 8, 25), (0, 8, 24), (0, 8, 23), (0, 8, 22), (0, 8, 21), (0, 8, 20), (0, 8, 19), (0, 8, 18), (0, 8, 17), (0, 8, 16), (0, 8, 15), (0, 8, 14), (0, 8, 13), (0, 8, 12), (0, 8, 11), (0, 8, 10), (0, 8, 9), (0, 8, 8), (0, 8, 7), (0, 8, 6), (0, 8, 5), (0, 8, 4), (0, 8, 3), (0, 8, 2), (0, 8, 1)] [(431, 0, 33)] [])) (hu.2.trans ap_ap) ?_
  show zx p l e _ s m _ below meth c g 8 _ _ _ _ 816 [(5, .int 0), (4, .int 0), (3, .ref (b + 431)), (2, .ref (b + 405)), (1, .ref (b + 0)), (0, .ref bS)] _
  refine z_seti (y := 33) hu.1 ?_
  refine z_istore (lv' := [(6, .int 33), (5, .int 0), (4, .int 0), (3, .ref (b + 431)), (2, .ref (b + 405)), (1, .ref (b + 0)), (0, .ref bS)]) B dL_law_816 (by decide) rfl ?_
  refine z_aload_n B dL_law_818 rfl 4 rfl ?_
  refine z_cVi (As := []) (rest := []) B cw_L_80 cx_10 dL_law_819 (ci_X9_thrown_95 l (σ := (ap b σ [(405, 1, 33), (405, 1, 32), (405, 1, 31), (405, 1, 30), (405, 1, 29), (405, 1, 28), (405, 1, 27), (405, 1, 26), (405, 1, 25), (405, 1, 24), (405, 1, 23), (405, 1, 22), (405, 1, 21), (405, 1, 20), (405, 1, 19), (405, 1, 18), (405, 1, 17), (405, 1, 16), (405, 1, 15), (405, 1, 14), (405, 1, 13), (405, 1, 12), (405, 1, 11), (405, 1, 10), (405, 1, 9), (405, 1, 8), (405, 1, 7), (405, 1, 6), (405, 1, 5), (405, 1, 4), (405, 1, 3), (405, 1, 2), (405, 1, 1), (405, 0, 0), (0, 8, 33), (0, 8, 32), (0, 8, 31), (0, 8, 30), (0, 8, 29), (0, 8, 28), (0, 8, 27), (0, 8, 26), (0, 8, 25), (0, 8, 24), (0, 8, 23), (0, 8, 22), (0, 8, 21), (0, 8, 20), (0, 8, 19), (0, 8, 18), (0, 8, 17), (0, 8, 16), (0, 8, 15), (0, 8, 14), (0, 8, 13), (0, 8, 12), (0, 8, 11), (0, 8, 10), (0, 8, 9), (0, 8, 8), (0, 8, 7), (0, 8, 6), (0, 8, 5), (0, 8, 4), (0, 8, 3), (0, 8, 2), (0, 8, 1)] [(431, 0, 33)] [])) (b := b) (lyA hK) (rI_at 405 0 rfl)) (lKA (hk_K hK 405 rfl rfl)) rfl (by decide) rfl (Nat.le_of_ble_eq_true rfl) (by decide) (fun r u hu => ?_)
  refine z_eqs (σ' := (ap b σ [(405, 1, 33), (405, 1, 32), (405, 1, 31), (405, 1, 30), (405, 1, 29), (405, 1, 28), (405, 1, 27), (405, 1, 26), (405, 1, 25), (405, 1, 24), (405, 1, 23), (405, 1, 22), (405, 1, 21), (405, 1, 20), (405, 1, 19), (405, 1, 18), (405, 1, 17), (405, 1, 16), (405, 1, 15), (405, 1, 14), (405, 1, 13), (405, 1, 12), (405, 1, 11), (405, 1, 10), (405, 1, 9), (405, 1, 8), (405, 1, 7), (405, 1, 6), (405, 1, 5), (405, 1, 4), (405, 1, 3), (405, 1, 2), (405, 1, 1), (405, 0, 0), (0, 8, 33), (0, 8, 32), (0, 8, 31), (0, 8, 30), (0, 8, 29), (0, 8, 28), (0, 8, 27), (0, 8, 26), (0, 8, 25), (0, 8, 24), (0, 8, 23), (0, 8, 22), (0, 8, 21), (0, 8, 20), (0, 8, 19), (0, 8, 18), (0, 8, 17), (0, 8, 16), (0, 8, 15), (0, 8, 14), (0, 8, 13), (0, 8, 12), (0, 8, 11), (0, 8, 10), (0, 8, 9), (0, 8, 8), (0, 8, 7), (0, 8, 6), (0, 8, 5), (0, 8, 4), (0, 8, 3), (0, 8, 2), (0, 8, 1)] [(431, 0, 33)] [])) hu.2 ?_
  show zx p l e _ s m _ below meth c g 8 _ _ _ _ 822 [(6, .int 33), (5, .int 0), (4, .int 0), (3, .ref (b + 431)), (2, .ref (b + 405)), (1, .ref (b + 0)), (0, .ref bS)] _
  refine z_seti (y := 0) hu.1 ?_
  refine z_iload B dL_law_822 1 rfl ?_
  refine z_icmp_eq (tgt := 829) B dL_law_824 (by decide) (fun _ => ?_) (fun h => absurd (by decide) h)
  refine z_iload B dL_law_829 1 rfl ?_
  refine z_if_ne (tgt := 846) B dL_law_831 (by decide) (fun h => absurd (by decide) h) (fun _ => ?_)
  refine z_aload_n B dL_law_834 rfl 3 rfl ?_
  refine z_iconst (v := 0) B dL_law_835 (by decide) ?_
  refine z_lald (j := 0) (x := 33) B (lKA (hk_K hK 431 rfl rfl)) (by decide) (in_of (lNA (hk_N hK 431 rfl rfl)) (show ¬ ((0 : Int32) < 0 ∨ 1 ≤ (0 : Int32).toNatClampNeg) by decide)) (rJ_at 431 0 rfl) dL_law_836 ?_
  refine z_iload B dL_law_837 0 rfl ?_
  refine z_i2l (v := 33) B dL_law_839 (by decide) ?_
  refine z_lcmp (v := 0) B dL_law_840 (by decide) ?_
  refine z_if_eq (tgt := 846) B dL_law_841 (by decide) (fun _ => ?_) (fun h => absurd (by decide) h)
  refine z_goto (tgt := 1395) B dL_law_846 (by decide) ?_
  exact z_widen (Nat.le_of_ble_eq_true rfl) (Nat.le_of_ble_eq_true rfl) (z_sub _ [2, 6] rfl (kk _))
set_option maxRecDepth 100000 in
set_option maxHeartbeats 4000000 in
theorem lf_11_365 {p : Program} {l : Launch} {e : Env} {s : State} {m : MethodId} {args : Array Value} {below : List Frame} {meth : Method} {c : Code} {g : gx_T} {Q : State → Prop} {σ : sx_T} {b t bS : Nat} {xs : Nat → Int32} (hlt : l.stackTraces = false) (B : zx_B p s m args meth c code RL 8 g) (hX : va_X bS 6 xs s s.heap) (hbl : bS < s.heap.size) (hbA : ¬ gx_b g ≤ bS) (hF : fz_P b t σ) (h_x1 : xs 1 = 34) (kk : ∀ σ', zx p l e room_1 s m args below meth c g 8 600002 7302232 Q σ' 1395 [(4, .int 0), (0, .ref bS)] []) : zx p l e room_1 s m args below meth c g 8 500 100000 Q σ 793 [(4, .int 0), (3, .ref (b + 431)), (2, .ref (b + 405)), (1, .ref (b + 0)), (0, .ref bS)] [] := by
  have hK := fz_lay hF
  refine z_eqs (σ' := (ap b σ [] [] [])) rfl ?_
  refine z_aload_n B dL_law_793 rfl 3 rfl ?_
  refine z_aload_n B dL_law_794 rfl 4 rfl ?_
  refine z_iload B dL_law_795 0 rfl ?_
  refine z_iconst (v := 1) B dL_law_797 (by decide) ?_
  refine z_iadd B dL_law_798 ?_
  refine z_seti (y := 1) (by decide) ?_
  refine z_sld (j := 1) (x := 34) B hX hbl hbA (by decide) (show ¬ ((1 : Int32) < 0 ∨ 6 ≤ (1 : Int32).toNatClampNeg) by decide) h_x1 dL_law_799 ?_
  refine z_aload_n B dL_law_800 rfl 1 rfl ?_
  refine z_cSWi (As := [.ref (b + 0), .int 34, .ref (b + 431)]) (rest := []) B cw_L_121 dL_law_801 (ci_L_tick_1088 l (σ := (ap b σ [] [] [])) (b := b) (lyA hK) (rI_at 0 7 (fz_I hF 0 7 rfl rfl)) (rI_at 0 8 (fz_I hF 0 8 rfl rfl)) (rI_at 4 2 (fz_I hF 4 2 rfl rfl)) (rR_at 0 3 (fz_R hF 0 3 rfl rfl))) rfl (by decide) rfl (Nat.le_of_ble_eq_true rfl) (by decide) (fun r u hu => ?_)
  refine z_eqs (σ' := (ap b σ [(0, 8, 34), (0, 8, 33), (0, 8, 32), (0, 8, 31), (0, 8, 30), (0, 8, 29), (0, 8, 28), (0, 8, 27), (0, 8, 26), (0, 8, 25), (0, 8, 24), (0, 8, 23), (0, 8, 22), (0, 8, 21), (0, 8, 20), (0, 8, 19), (0, 8, 18), (0, 8, 17), (0, 8, 16), (0, 8, 15), (0, 8, 14), (0, 8, 13), (0, 8, 12), (0, 8, 11), (0, 8, 10), (0, 8, 9), (0, 8, 8), (0, 8, 7), (0, 8, 6), (0, 8, 5), (0, 8, 4), (0, 8, 3), (0, 8, 2), (0, 8, 1)] [(431, 0, 34)] [])) (hu.2.trans ap_ap) ?_
  show zx p l e _ s m _ below meth c g 8 _ _ _ _ 804 [(4, .int 0), (3, .ref (b + 431)), (2, .ref (b + 405)), (1, .ref (b + 0)), (0, .ref bS)] _
  refine z_seti (y := 0) hu.1 ?_
  refine z_istore (lv' := [(5, .int 0), (4, .int 0), (3, .ref (b + 431)), (2, .ref (b + 405)), (1, .ref (b + 0)), (0, .ref bS)]) B dL_law_804 (by decide) rfl ?_
  refine z_aload_n B dL_law_806 rfl 3 rfl ?_
  refine z_aload_n B dL_law_807 rfl 5 rfl ?_
  refine z_iload B dL_law_808 1 rfl ?_
  refine z_iconst (v := 1) B dL_law_810 (by decide) ?_
  refine z_iadd B dL_law_811 ?_
  refine z_seti (y := 1) (by decide) ?_
  refine z_sld (j := 1) (x := 34) B hX hbl hbA (by decide) (show ¬ ((1 : Int32) < 0 ∨ 6 ≤ (1 : Int32).toNatClampNeg) by decide) h_x1 dL_law_812 ?_
  refine z_cVi (As := [.int 34]) (rest := []) B cw_L_123 cx_10 dL_law_813 (ci_X9_tick_1091 l (σ := (ap b σ [(0, 8, 34), (0, 8, 33), (0, 8, 32), (0, 8, 31), (0, 8, 30), (0, 8, 29), (0, 8, 28), (0, 8, 27), (0, 8, 26), (0, 8, 25), (0, 8, 24), (0, 8, 23), (0, 8, 22), (0, 8, 21), (0, 8, 20), (0, 8, 19), (0, 8, 18), (0, 8, 17), (0, 8, 16), (0, 8, 15), (0, 8, 14), (0, 8, 13), (0, 8, 12), (0, 8, 11), (0, 8, 10), (0, 8, 9), (0, 8, 8), (0, 8, 7), (0, 8, 6), (0, 8, 5), (0, 8, 4), (0, 8, 3), (0, 8, 2), (0, 8, 1)] [(431, 0, 34)] [])) (b := b) (lyA hK) (rI_at 405 1 (fz_I hF 405 1 rfl rfl)) (rI_at 405 6 (fz_I hF 405 6 rfl rfl)) (rI_at 405 16 (fz_I hF 405 16 rfl rfl))) (lKA (hk_K hK 405 rfl rfl)) rfl (by decide) rfl (Nat.le_of_ble_eq_true rfl) (by decide) (fun r u hu => ?_)
  refine z_eqs (σ' := (ap b σ [(405, 1, 34), (405, 1, 33), (405, 1, 32), (405, 1, 31), (405, 1, 30), (405, 1, 29), (405, 1, 28), (405, 1, 27), (405, 1, 26), (405, 1, 25), (405, 1, 24), (405, 1, 23), (405, 1, 22), (405, 1, 21), (405, 1, 20), (405, 1, 19), (405, 1, 18), (405, 1, 17), (405, 1, 16), (405, 1, 15), (405, 1, 14), (405, 1, 13), (405, 1, 12), (405, 1, 11), (405, 1, 10), (405, 1, 9), (405, 1, 8), (405, 1, 7), (405, 1, 6), (405, 1, 5), (405, 1, 4), (405, 1, 3), (405, 1, 2), (405, 1, 1), (405, 0, 0), (0, 8, 34), (0, 8, 33), (0, 8, 32), (0, 8, 31), (0, 8, 30), (0, 8, 29), (0, 8, 28), (0, 8, 27), (0, 8, 26), (0, 8, 25), (0, 8, 24), (0, 8, 23), (0, 8, 22), (0, 8, 21), (0, 8, 20), (0, 8, 19), (0, 8, 18), (0, 8, 17), (0, 8, 16), (0, 8, 15), (0, 8, 14), (0, 8, 13), (0, 8, 12), (0, 8, 11), (0, 8, 10), (0, 8, 9), (0, 8, 8), (0, 8, 7), (0, 8, 6), (0, 8, 5), (0, 8, 4), (0, 8, 3), (0, 8, 2), (0, 8, 1)] [(431, 0, 34)] [])) (hu.2.trans ap_ap) ?_
  show zx p l e _ s m _ below meth c g 8 _ _ _ _ 816 [(5, .int 0), (4, .int 0), (3, .ref (b + 431)), (2, .ref (b + 405)), (1, .ref (b + 0)), (0, .ref bS)] _
  refine z_seti (y := 34) hu.1 ?_
  refine z_istore (lv' := [(6, .int 34), (5, .int 0), (4, .int 0), (3, .ref (b + 431)), (2, .ref (b + 405)), (1, .ref (b + 0)), (0, .ref bS)]) B dL_law_816 (by decide) rfl ?_
  refine z_aload_n B dL_law_818 rfl 4 rfl ?_
  refine z_cVi (As := []) (rest := []) B cw_L_80 cx_10 dL_law_819 (ci_X9_thrown_95 l (σ := (ap b σ [(405, 1, 34), (405, 1, 33), (405, 1, 32), (405, 1, 31), (405, 1, 30), (405, 1, 29), (405, 1, 28), (405, 1, 27), (405, 1, 26), (405, 1, 25), (405, 1, 24), (405, 1, 23), (405, 1, 22), (405, 1, 21), (405, 1, 20), (405, 1, 19), (405, 1, 18), (405, 1, 17), (405, 1, 16), (405, 1, 15), (405, 1, 14), (405, 1, 13), (405, 1, 12), (405, 1, 11), (405, 1, 10), (405, 1, 9), (405, 1, 8), (405, 1, 7), (405, 1, 6), (405, 1, 5), (405, 1, 4), (405, 1, 3), (405, 1, 2), (405, 1, 1), (405, 0, 0), (0, 8, 34), (0, 8, 33), (0, 8, 32), (0, 8, 31), (0, 8, 30), (0, 8, 29), (0, 8, 28), (0, 8, 27), (0, 8, 26), (0, 8, 25), (0, 8, 24), (0, 8, 23), (0, 8, 22), (0, 8, 21), (0, 8, 20), (0, 8, 19), (0, 8, 18), (0, 8, 17), (0, 8, 16), (0, 8, 15), (0, 8, 14), (0, 8, 13), (0, 8, 12), (0, 8, 11), (0, 8, 10), (0, 8, 9), (0, 8, 8), (0, 8, 7), (0, 8, 6), (0, 8, 5), (0, 8, 4), (0, 8, 3), (0, 8, 2), (0, 8, 1)] [(431, 0, 34)] [])) (b := b) (lyA hK) (rI_at 405 0 rfl)) (lKA (hk_K hK 405 rfl rfl)) rfl (by decide) rfl (Nat.le_of_ble_eq_true rfl) (by decide) (fun r u hu => ?_)
  refine z_eqs (σ' := (ap b σ [(405, 1, 34), (405, 1, 33), (405, 1, 32), (405, 1, 31), (405, 1, 30), (405, 1, 29), (405, 1, 28), (405, 1, 27), (405, 1, 26), (405, 1, 25), (405, 1, 24), (405, 1, 23), (405, 1, 22), (405, 1, 21), (405, 1, 20), (405, 1, 19), (405, 1, 18), (405, 1, 17), (405, 1, 16), (405, 1, 15), (405, 1, 14), (405, 1, 13), (405, 1, 12), (405, 1, 11), (405, 1, 10), (405, 1, 9), (405, 1, 8), (405, 1, 7), (405, 1, 6), (405, 1, 5), (405, 1, 4), (405, 1, 3), (405, 1, 2), (405, 1, 1), (405, 0, 0), (0, 8, 34), (0, 8, 33), (0, 8, 32), (0, 8, 31), (0, 8, 30), (0, 8, 29), (0, 8, 28), (0, 8, 27), (0, 8, 26), (0, 8, 25), (0, 8, 24), (0, 8, 23), (0, 8, 22), (0, 8, 21), (0, 8, 20), (0, 8, 19), (0, 8, 18), (0, 8, 17), (0, 8, 16), (0, 8, 15), (0, 8, 14), (0, 8, 13), (0, 8, 12), (0, 8, 11), (0, 8, 10), (0, 8, 9), (0, 8, 8), (0, 8, 7), (0, 8, 6), (0, 8, 5), (0, 8, 4), (0, 8, 3), (0, 8, 2), (0, 8, 1)] [(431, 0, 34)] [])) hu.2 ?_
  show zx p l e _ s m _ below meth c g 8 _ _ _ _ 822 [(6, .int 34), (5, .int 0), (4, .int 0), (3, .ref (b + 431)), (2, .ref (b + 405)), (1, .ref (b + 0)), (0, .ref bS)] _
  refine z_seti (y := 0) hu.1 ?_
  refine z_iload B dL_law_822 1 rfl ?_
  refine z_icmp_eq (tgt := 829) B dL_law_824 (by decide) (fun _ => ?_) (fun h => absurd (by decide) h)
  refine z_iload B dL_law_829 1 rfl ?_
  refine z_if_ne (tgt := 846) B dL_law_831 (by decide) (fun h => absurd (by decide) h) (fun _ => ?_)
  refine z_aload_n B dL_law_834 rfl 3 rfl ?_
  refine z_iconst (v := 0) B dL_law_835 (by decide) ?_
  refine z_lald (j := 0) (x := 34) B (lKA (hk_K hK 431 rfl rfl)) (by decide) (in_of (lNA (hk_N hK 431 rfl rfl)) (show ¬ ((0 : Int32) < 0 ∨ 1 ≤ (0 : Int32).toNatClampNeg) by decide)) (rJ_at 431 0 rfl) dL_law_836 ?_
  refine z_iload B dL_law_837 0 rfl ?_
  refine z_i2l (v := 34) B dL_law_839 (by decide) ?_
  refine z_lcmp (v := 0) B dL_law_840 (by decide) ?_
  refine z_if_eq (tgt := 846) B dL_law_841 (by decide) (fun _ => ?_) (fun h => absurd (by decide) h)
  refine z_goto (tgt := 1395) B dL_law_846 (by decide) ?_
  exact z_widen (Nat.le_of_ble_eq_true rfl) (Nat.le_of_ble_eq_true rfl) (z_sub _ [2, 6] rfl (kk _))
set_option maxRecDepth 100000 in
set_option maxHeartbeats 4000000 in
theorem lf_11_366 {p : Program} {l : Launch} {e : Env} {s : State} {m : MethodId} {args : Array Value} {below : List Frame} {meth : Method} {c : Code} {g : gx_T} {Q : State → Prop} {σ : sx_T} {b t bS : Nat} {xs : Nat → Int32} (hlt : l.stackTraces = false) (B : zx_B p s m args meth c code RL 8 g) (hX : va_X bS 6 xs s s.heap) (hbl : bS < s.heap.size) (hbA : ¬ gx_b g ≤ bS) (hF : fz_P b t σ) (h_x1 : xs 1 = 35) (kk : ∀ σ', zx p l e room_1 s m args below meth c g 8 600002 7302232 Q σ' 1395 [(4, .int 0), (0, .ref bS)] []) : zx p l e room_1 s m args below meth c g 8 500 100000 Q σ 793 [(4, .int 0), (3, .ref (b + 431)), (2, .ref (b + 405)), (1, .ref (b + 0)), (0, .ref bS)] [] := by
  have hK := fz_lay hF
  refine z_eqs (σ' := (ap b σ [] [] [])) rfl ?_
  refine z_aload_n B dL_law_793 rfl 3 rfl ?_
  refine z_aload_n B dL_law_794 rfl 4 rfl ?_
  refine z_iload B dL_law_795 0 rfl ?_
  refine z_iconst (v := 1) B dL_law_797 (by decide) ?_
  refine z_iadd B dL_law_798 ?_
  refine z_seti (y := 1) (by decide) ?_
  refine z_sld (j := 1) (x := 35) B hX hbl hbA (by decide) (show ¬ ((1 : Int32) < 0 ∨ 6 ≤ (1 : Int32).toNatClampNeg) by decide) h_x1 dL_law_799 ?_
  refine z_aload_n B dL_law_800 rfl 1 rfl ?_
  refine z_cSWi (As := [.ref (b + 0), .int 35, .ref (b + 431)]) (rest := []) B cw_L_121 dL_law_801 (ci_L_tick_1093 l (σ := (ap b σ [] [] [])) (b := b) (lyA hK) (rI_at 0 7 (fz_I hF 0 7 rfl rfl)) (rI_at 0 8 (fz_I hF 0 8 rfl rfl)) (rI_at 4 2 (fz_I hF 4 2 rfl rfl)) (rR_at 0 3 (fz_R hF 0 3 rfl rfl))) rfl (by decide) rfl (Nat.le_of_ble_eq_true rfl) (by decide) (fun r u hu => ?_)
  refine z_eqs (σ' := (ap b σ [(0, 8, 35), (0, 8, 34), (0, 8, 33), (0, 8, 32), (0, 8, 31), (0, 8, 30), (0, 8, 29), (0, 8, 28), (0, 8, 27), (0, 8, 26), (0, 8, 25), (0, 8, 24), (0, 8, 23), (0, 8, 22), (0, 8, 21), (0, 8, 20), (0, 8, 19), (0, 8, 18), (0, 8, 17), (0, 8, 16), (0, 8, 15), (0, 8, 14), (0, 8, 13), (0, 8, 12), (0, 8, 11), (0, 8, 10), (0, 8, 9), (0, 8, 8), (0, 8, 7), (0, 8, 6), (0, 8, 5), (0, 8, 4), (0, 8, 3), (0, 8, 2), (0, 8, 1)] [(431, 0, 35)] [])) (hu.2.trans ap_ap) ?_
  show zx p l e _ s m _ below meth c g 8 _ _ _ _ 804 [(4, .int 0), (3, .ref (b + 431)), (2, .ref (b + 405)), (1, .ref (b + 0)), (0, .ref bS)] _
  refine z_seti (y := 0) hu.1 ?_
  refine z_istore (lv' := [(5, .int 0), (4, .int 0), (3, .ref (b + 431)), (2, .ref (b + 405)), (1, .ref (b + 0)), (0, .ref bS)]) B dL_law_804 (by decide) rfl ?_
  refine z_aload_n B dL_law_806 rfl 3 rfl ?_
  refine z_aload_n B dL_law_807 rfl 5 rfl ?_
  refine z_iload B dL_law_808 1 rfl ?_
  refine z_iconst (v := 1) B dL_law_810 (by decide) ?_
  refine z_iadd B dL_law_811 ?_
  refine z_seti (y := 1) (by decide) ?_
  refine z_sld (j := 1) (x := 35) B hX hbl hbA (by decide) (show ¬ ((1 : Int32) < 0 ∨ 6 ≤ (1 : Int32).toNatClampNeg) by decide) h_x1 dL_law_812 ?_
  refine z_cVi (As := [.int 35]) (rest := []) B cw_L_123 cx_10 dL_law_813 (ci_X9_tick_1096 l (σ := (ap b σ [(0, 8, 35), (0, 8, 34), (0, 8, 33), (0, 8, 32), (0, 8, 31), (0, 8, 30), (0, 8, 29), (0, 8, 28), (0, 8, 27), (0, 8, 26), (0, 8, 25), (0, 8, 24), (0, 8, 23), (0, 8, 22), (0, 8, 21), (0, 8, 20), (0, 8, 19), (0, 8, 18), (0, 8, 17), (0, 8, 16), (0, 8, 15), (0, 8, 14), (0, 8, 13), (0, 8, 12), (0, 8, 11), (0, 8, 10), (0, 8, 9), (0, 8, 8), (0, 8, 7), (0, 8, 6), (0, 8, 5), (0, 8, 4), (0, 8, 3), (0, 8, 2), (0, 8, 1)] [(431, 0, 35)] [])) (b := b) (lyA hK) (rI_at 405 1 (fz_I hF 405 1 rfl rfl)) (rI_at 405 6 (fz_I hF 405 6 rfl rfl)) (rI_at 405 16 (fz_I hF 405 16 rfl rfl))) (lKA (hk_K hK 405 rfl rfl)) rfl (by decide) rfl (Nat.le_of_ble_eq_true rfl) (by decide) (fun r u hu => ?_)
  refine z_eqs (σ' := (ap b σ [(405, 1, 35), (405, 1, 34), (405, 1, 33), (405, 1, 32), (405, 1, 31), (405, 1, 30), (405, 1, 29), (405, 1, 28), (405, 1, 27), (405, 1, 26), (405, 1, 25), (405, 1, 24), (405, 1, 23), (405, 1, 22), (405, 1, 21), (405, 1, 20), (405, 1, 19), (405, 1, 18), (405, 1, 17), (405, 1, 16), (405, 1, 15), (405, 1, 14), (405, 1, 13), (405, 1, 12), (405, 1, 11), (405, 1, 10), (405, 1, 9), (405, 1, 8), (405, 1, 7), (405, 1, 6), (405, 1, 5), (405, 1, 4), (405, 1, 3), (405, 1, 2), (405, 1, 1), (405, 0, 0), (0, 8, 35), (0, 8, 34), (0, 8, 33), (0, 8, 32), (0, 8, 31), (0, 8, 30), (0, 8, 29), (0, 8, 28), (0, 8, 27), (0, 8, 26), (0, 8, 25), (0, 8, 24), (0, 8, 23), (0, 8, 22), (0, 8, 21), (0, 8, 20), (0, 8, 19), (0, 8, 18), (0, 8, 17), (0, 8, 16), (0, 8, 15), (0, 8, 14), (0, 8, 13), (0, 8, 12), (0, 8, 11), (0, 8, 10), (0, 8, 9), (0, 8, 8), (0, 8, 7), (0, 8, 6), (0, 8, 5), (0, 8, 4), (0, 8, 3), (0, 8, 2), (0, 8, 1)] [(431, 0, 35)] [])) (hu.2.trans ap_ap) ?_
  show zx p l e _ s m _ below meth c g 8 _ _ _ _ 816 [(5, .int 0), (4, .int 0), (3, .ref (b + 431)), (2, .ref (b + 405)), (1, .ref (b + 0)), (0, .ref bS)] _
  refine z_seti (y := 35) hu.1 ?_
  refine z_istore (lv' := [(6, .int 35), (5, .int 0), (4, .int 0), (3, .ref (b + 431)), (2, .ref (b + 405)), (1, .ref (b + 0)), (0, .ref bS)]) B dL_law_816 (by decide) rfl ?_
  refine z_aload_n B dL_law_818 rfl 4 rfl ?_
  refine z_cVi (As := []) (rest := []) B cw_L_80 cx_10 dL_law_819 (ci_X9_thrown_95 l (σ := (ap b σ [(405, 1, 35), (405, 1, 34), (405, 1, 33), (405, 1, 32), (405, 1, 31), (405, 1, 30), (405, 1, 29), (405, 1, 28), (405, 1, 27), (405, 1, 26), (405, 1, 25), (405, 1, 24), (405, 1, 23), (405, 1, 22), (405, 1, 21), (405, 1, 20), (405, 1, 19), (405, 1, 18), (405, 1, 17), (405, 1, 16), (405, 1, 15), (405, 1, 14), (405, 1, 13), (405, 1, 12), (405, 1, 11), (405, 1, 10), (405, 1, 9), (405, 1, 8), (405, 1, 7), (405, 1, 6), (405, 1, 5), (405, 1, 4), (405, 1, 3), (405, 1, 2), (405, 1, 1), (405, 0, 0), (0, 8, 35), (0, 8, 34), (0, 8, 33), (0, 8, 32), (0, 8, 31), (0, 8, 30), (0, 8, 29), (0, 8, 28), (0, 8, 27), (0, 8, 26), (0, 8, 25), (0, 8, 24), (0, 8, 23), (0, 8, 22), (0, 8, 21), (0, 8, 20), (0, 8, 19), (0, 8, 18), (0, 8, 17), (0, 8, 16), (0, 8, 15), (0, 8, 14), (0, 8, 13), (0, 8, 12), (0, 8, 11), (0, 8, 10), (0, 8, 9), (0, 8, 8), (0, 8, 7), (0, 8, 6), (0, 8, 5), (0, 8, 4), (0, 8, 3), (0, 8, 2), (0, 8, 1)] [(431, 0, 35)] [])) (b := b) (lyA hK) (rI_at 405 0 rfl)) (lKA (hk_K hK 405 rfl rfl)) rfl (by decide) rfl (Nat.le_of_ble_eq_true rfl) (by decide) (fun r u hu => ?_)
  refine z_eqs (σ' := (ap b σ [(405, 1, 35), (405, 1, 34), (405, 1, 33), (405, 1, 32), (405, 1, 31), (405, 1, 30), (405, 1, 29), (405, 1, 28), (405, 1, 27), (405, 1, 26), (405, 1, 25), (405, 1, 24), (405, 1, 23), (405, 1, 22), (405, 1, 21), (405, 1, 20), (405, 1, 19), (405, 1, 18), (405, 1, 17), (405, 1, 16), (405, 1, 15), (405, 1, 14), (405, 1, 13), (405, 1, 12), (405, 1, 11), (405, 1, 10), (405, 1, 9), (405, 1, 8), (405, 1, 7), (405, 1, 6), (405, 1, 5), (405, 1, 4), (405, 1, 3), (405, 1, 2), (405, 1, 1), (405, 0, 0), (0, 8, 35), (0, 8, 34), (0, 8, 33), (0, 8, 32), (0, 8, 31), (0, 8, 30), (0, 8, 29), (0, 8, 28), (0, 8, 27), (0, 8, 26), (0, 8, 25), (0, 8, 24), (0, 8, 23), (0, 8, 22), (0, 8, 21), (0, 8, 20), (0, 8, 19), (0, 8, 18), (0, 8, 17), (0, 8, 16), (0, 8, 15), (0, 8, 14), (0, 8, 13), (0, 8, 12), (0, 8, 11), (0, 8, 10), (0, 8, 9), (0, 8, 8), (0, 8, 7), (0, 8, 6), (0, 8, 5), (0, 8, 4), (0, 8, 3), (0, 8, 2), (0, 8, 1)] [(431, 0, 35)] [])) hu.2 ?_
  show zx p l e _ s m _ below meth c g 8 _ _ _ _ 822 [(6, .int 35), (5, .int 0), (4, .int 0), (3, .ref (b + 431)), (2, .ref (b + 405)), (1, .ref (b + 0)), (0, .ref bS)] _
  refine z_seti (y := 0) hu.1 ?_
  refine z_iload B dL_law_822 1 rfl ?_
  refine z_icmp_eq (tgt := 829) B dL_law_824 (by decide) (fun _ => ?_) (fun h => absurd (by decide) h)
  refine z_iload B dL_law_829 1 rfl ?_
  refine z_if_ne (tgt := 846) B dL_law_831 (by decide) (fun h => absurd (by decide) h) (fun _ => ?_)
  refine z_aload_n B dL_law_834 rfl 3 rfl ?_
  refine z_iconst (v := 0) B dL_law_835 (by decide) ?_
  refine z_lald (j := 0) (x := 35) B (lKA (hk_K hK 431 rfl rfl)) (by decide) (in_of (lNA (hk_N hK 431 rfl rfl)) (show ¬ ((0 : Int32) < 0 ∨ 1 ≤ (0 : Int32).toNatClampNeg) by decide)) (rJ_at 431 0 rfl) dL_law_836 ?_
  refine z_iload B dL_law_837 0 rfl ?_
  refine z_i2l (v := 35) B dL_law_839 (by decide) ?_
  refine z_lcmp (v := 0) B dL_law_840 (by decide) ?_
  refine z_if_eq (tgt := 846) B dL_law_841 (by decide) (fun _ => ?_) (fun h => absurd (by decide) h)
  refine z_goto (tgt := 1395) B dL_law_846 (by decide) ?_
  exact z_widen (Nat.le_of_ble_eq_true rfl) (Nat.le_of_ble_eq_true rfl) (z_sub _ [2, 6] rfl (kk _))
set_option maxRecDepth 100000 in
set_option maxHeartbeats 4000000 in
theorem lf_11_367 {p : Program} {l : Launch} {e : Env} {s : State} {m : MethodId} {args : Array Value} {below : List Frame} {meth : Method} {c : Code} {g : gx_T} {Q : State → Prop} {σ : sx_T} {b t bS : Nat} {xs : Nat → Int32} (hlt : l.stackTraces = false) (B : zx_B p s m args meth c code RL 8 g) (hX : va_X bS 6 xs s s.heap) (hbl : bS < s.heap.size) (hbA : ¬ gx_b g ≤ bS) (hF : fz_P b t σ) (h_x1 : xs 1 = 36) (kk : ∀ σ', zx p l e room_1 s m args below meth c g 8 600002 7302232 Q σ' 1395 [(4, .int 0), (0, .ref bS)] []) : zx p l e room_1 s m args below meth c g 8 500 100000 Q σ 793 [(4, .int 0), (3, .ref (b + 431)), (2, .ref (b + 405)), (1, .ref (b + 0)), (0, .ref bS)] [] := by
  have hK := fz_lay hF
  refine z_eqs (σ' := (ap b σ [] [] [])) rfl ?_
  refine z_aload_n B dL_law_793 rfl 3 rfl ?_
  refine z_aload_n B dL_law_794 rfl 4 rfl ?_
  refine z_iload B dL_law_795 0 rfl ?_
  refine z_iconst (v := 1) B dL_law_797 (by decide) ?_
  refine z_iadd B dL_law_798 ?_
  refine z_seti (y := 1) (by decide) ?_
  refine z_sld (j := 1) (x := 36) B hX hbl hbA (by decide) (show ¬ ((1 : Int32) < 0 ∨ 6 ≤ (1 : Int32).toNatClampNeg) by decide) h_x1 dL_law_799 ?_
  refine z_aload_n B dL_law_800 rfl 1 rfl ?_
  refine z_cSWi (As := [.ref (b + 0), .int 36, .ref (b + 431)]) (rest := []) B cw_L_121 dL_law_801 (ci_L_tick_1098 l (σ := (ap b σ [] [] [])) (b := b) (lyA hK) (rI_at 0 7 (fz_I hF 0 7 rfl rfl)) (rI_at 0 8 (fz_I hF 0 8 rfl rfl)) (rI_at 4 2 (fz_I hF 4 2 rfl rfl)) (rR_at 0 3 (fz_R hF 0 3 rfl rfl))) rfl (by decide) rfl (Nat.le_of_ble_eq_true rfl) (by decide) (fun r u hu => ?_)
  refine z_eqs (σ' := (ap b σ [(0, 8, 36), (0, 8, 35), (0, 8, 34), (0, 8, 33), (0, 8, 32), (0, 8, 31), (0, 8, 30), (0, 8, 29), (0, 8, 28), (0, 8, 27), (0, 8, 26), (0, 8, 25), (0, 8, 24), (0, 8, 23), (0, 8, 22), (0, 8, 21), (0, 8, 20), (0, 8, 19), (0, 8, 18), (0, 8, 17), (0, 8, 16), (0, 8, 15), (0, 8, 14), (0, 8, 13), (0, 8, 12), (0, 8, 11), (0, 8, 10), (0, 8, 9), (0, 8, 8), (0, 8, 7), (0, 8, 6), (0, 8, 5), (0, 8, 4), (0, 8, 3), (0, 8, 2), (0, 8, 1)] [(431, 0, 36)] [])) (hu.2.trans ap_ap) ?_
  show zx p l e _ s m _ below meth c g 8 _ _ _ _ 804 [(4, .int 0), (3, .ref (b + 431)), (2, .ref (b + 405)), (1, .ref (b + 0)), (0, .ref bS)] _
  refine z_seti (y := 0) hu.1 ?_
  refine z_istore (lv' := [(5, .int 0), (4, .int 0), (3, .ref (b + 431)), (2, .ref (b + 405)), (1, .ref (b + 0)), (0, .ref bS)]) B dL_law_804 (by decide) rfl ?_
  refine z_aload_n B dL_law_806 rfl 3 rfl ?_
  refine z_aload_n B dL_law_807 rfl 5 rfl ?_
  refine z_iload B dL_law_808 1 rfl ?_
  refine z_iconst (v := 1) B dL_law_810 (by decide) ?_
  refine z_iadd B dL_law_811 ?_
  refine z_seti (y := 1) (by decide) ?_
  refine z_sld (j := 1) (x := 36) B hX hbl hbA (by decide) (show ¬ ((1 : Int32) < 0 ∨ 6 ≤ (1 : Int32).toNatClampNeg) by decide) h_x1 dL_law_812 ?_
  refine z_cVi (As := [.int 36]) (rest := []) B cw_L_123 cx_10 dL_law_813 (ci_X9_tick_1101 l (σ := (ap b σ [(0, 8, 36), (0, 8, 35), (0, 8, 34), (0, 8, 33), (0, 8, 32), (0, 8, 31), (0, 8, 30), (0, 8, 29), (0, 8, 28), (0, 8, 27), (0, 8, 26), (0, 8, 25), (0, 8, 24), (0, 8, 23), (0, 8, 22), (0, 8, 21), (0, 8, 20), (0, 8, 19), (0, 8, 18), (0, 8, 17), (0, 8, 16), (0, 8, 15), (0, 8, 14), (0, 8, 13), (0, 8, 12), (0, 8, 11), (0, 8, 10), (0, 8, 9), (0, 8, 8), (0, 8, 7), (0, 8, 6), (0, 8, 5), (0, 8, 4), (0, 8, 3), (0, 8, 2), (0, 8, 1)] [(431, 0, 36)] [])) (b := b) (lyA hK) (rI_at 405 1 (fz_I hF 405 1 rfl rfl)) (rI_at 405 6 (fz_I hF 405 6 rfl rfl)) (rI_at 405 16 (fz_I hF 405 16 rfl rfl))) (lKA (hk_K hK 405 rfl rfl)) rfl (by decide) rfl (Nat.le_of_ble_eq_true rfl) (by decide) (fun r u hu => ?_)
  refine z_eqs (σ' := (ap b σ [(405, 1, 36), (405, 1, 35), (405, 1, 34), (405, 1, 33), (405, 1, 32), (405, 1, 31), (405, 1, 30), (405, 1, 29), (405, 1, 28), (405, 1, 27), (405, 1, 26), (405, 1, 25), (405, 1, 24), (405, 1, 23), (405, 1, 22), (405, 1, 21), (405, 1, 20), (405, 1, 19), (405, 1, 18), (405, 1, 17), (405, 1, 16), (405, 1, 15), (405, 1, 14), (405, 1, 13), (405, 1, 12), (405, 1, 11), (405, 1, 10), (405, 1, 9), (405, 1, 8), (405, 1, 7), (405, 1, 6), (405, 1, 5), (405, 1, 4), (405, 1, 3), (405, 1, 2), (405, 1, 1), (405, 0, 0), (0, 8, 36), (0, 8, 35), (0, 8, 34), (0, 8, 33), (0, 8, 32), (0, 8, 31), (0, 8, 30), (0, 8, 29), (0, 8, 28), (0, 8, 27), (0, 8, 26), (0, 8, 25), (0, 8, 24), (0, 8, 23), (0, 8, 22), (0, 8, 21), (0, 8, 20), (0, 8, 19), (0, 8, 18), (0, 8, 17), (0, 8, 16), (0, 8, 15), (0, 8, 14), (0, 8, 13), (0, 8, 12), (0, 8, 11), (0, 8, 10), (0, 8, 9), (0, 8, 8), (0, 8, 7), (0, 8, 6), (0, 8, 5), (0, 8, 4), (0, 8, 3), (0, 8, 2), (0, 8, 1)] [(431, 0, 36)] [])) (hu.2.trans ap_ap) ?_
  show zx p l e _ s m _ below meth c g 8 _ _ _ _ 816 [(5, .int 0), (4, .int 0), (3, .ref (b + 431)), (2, .ref (b + 405)), (1, .ref (b + 0)), (0, .ref bS)] _
  refine z_seti (y := 36) hu.1 ?_
  refine z_istore (lv' := [(6, .int 36), (5, .int 0), (4, .int 0), (3, .ref (b + 431)), (2, .ref (b + 405)), (1, .ref (b + 0)), (0, .ref bS)]) B dL_law_816 (by decide) rfl ?_
  refine z_aload_n B dL_law_818 rfl 4 rfl ?_
  refine z_cVi (As := []) (rest := []) B cw_L_80 cx_10 dL_law_819 (ci_X9_thrown_95 l (σ := (ap b σ [(405, 1, 36), (405, 1, 35), (405, 1, 34), (405, 1, 33), (405, 1, 32), (405, 1, 31), (405, 1, 30), (405, 1, 29), (405, 1, 28), (405, 1, 27), (405, 1, 26), (405, 1, 25), (405, 1, 24), (405, 1, 23), (405, 1, 22), (405, 1, 21), (405, 1, 20), (405, 1, 19), (405, 1, 18), (405, 1, 17), (405, 1, 16), (405, 1, 15), (405, 1, 14), (405, 1, 13), (405, 1, 12), (405, 1, 11), (405, 1, 10), (405, 1, 9), (405, 1, 8), (405, 1, 7), (405, 1, 6), (405, 1, 5), (405, 1, 4), (405, 1, 3), (405, 1, 2), (405, 1, 1), (405, 0, 0), (0, 8, 36), (0, 8, 35), (0, 8, 34), (0, 8, 33), (0, 8, 32), (0, 8, 31), (0, 8, 30), (0, 8, 29), (0, 8, 28), (0, 8, 27), (0, 8, 26), (0, 8, 25), (0, 8, 24), (0, 8, 23), (0, 8, 22), (0, 8, 21), (0, 8, 20), (0, 8, 19), (0, 8, 18), (0, 8, 17), (0, 8, 16), (0, 8, 15), (0, 8, 14), (0, 8, 13), (0, 8, 12), (0, 8, 11), (0, 8, 10), (0, 8, 9), (0, 8, 8), (0, 8, 7), (0, 8, 6), (0, 8, 5), (0, 8, 4), (0, 8, 3), (0, 8, 2), (0, 8, 1)] [(431, 0, 36)] [])) (b := b) (lyA hK) (rI_at 405 0 rfl)) (lKA (hk_K hK 405 rfl rfl)) rfl (by decide) rfl (Nat.le_of_ble_eq_true rfl) (by decide) (fun r u hu => ?_)
  refine z_eqs (σ' := (ap b σ [(405, 1, 36), (405, 1, 35), (405, 1, 34), (405, 1, 33), (405, 1, 32), (405, 1, 31), (405, 1, 30), (405, 1, 29), (405, 1, 28), (405, 1, 27), (405, 1, 26), (405, 1, 25), (405, 1, 24), (405, 1, 23), (405, 1, 22), (405, 1, 21), (405, 1, 20), (405, 1, 19), (405, 1, 18), (405, 1, 17), (405, 1, 16), (405, 1, 15), (405, 1, 14), (405, 1, 13), (405, 1, 12), (405, 1, 11), (405, 1, 10), (405, 1, 9), (405, 1, 8), (405, 1, 7), (405, 1, 6), (405, 1, 5), (405, 1, 4), (405, 1, 3), (405, 1, 2), (405, 1, 1), (405, 0, 0), (0, 8, 36), (0, 8, 35), (0, 8, 34), (0, 8, 33), (0, 8, 32), (0, 8, 31), (0, 8, 30), (0, 8, 29), (0, 8, 28), (0, 8, 27), (0, 8, 26), (0, 8, 25), (0, 8, 24), (0, 8, 23), (0, 8, 22), (0, 8, 21), (0, 8, 20), (0, 8, 19), (0, 8, 18), (0, 8, 17), (0, 8, 16), (0, 8, 15), (0, 8, 14), (0, 8, 13), (0, 8, 12), (0, 8, 11), (0, 8, 10), (0, 8, 9), (0, 8, 8), (0, 8, 7), (0, 8, 6), (0, 8, 5), (0, 8, 4), (0, 8, 3), (0, 8, 2), (0, 8, 1)] [(431, 0, 36)] [])) hu.2 ?_
  show zx p l e _ s m _ below meth c g 8 _ _ _ _ 822 [(6, .int 36), (5, .int 0), (4, .int 0), (3, .ref (b + 431)), (2, .ref (b + 405)), (1, .ref (b + 0)), (0, .ref bS)] _
  refine z_seti (y := 0) hu.1 ?_
  refine z_iload B dL_law_822 1 rfl ?_
  refine z_icmp_eq (tgt := 829) B dL_law_824 (by decide) (fun _ => ?_) (fun h => absurd (by decide) h)
  refine z_iload B dL_law_829 1 rfl ?_
  refine z_if_ne (tgt := 846) B dL_law_831 (by decide) (fun h => absurd (by decide) h) (fun _ => ?_)
  refine z_aload_n B dL_law_834 rfl 3 rfl ?_
  refine z_iconst (v := 0) B dL_law_835 (by decide) ?_
  refine z_lald (j := 0) (x := 36) B (lKA (hk_K hK 431 rfl rfl)) (by decide) (in_of (lNA (hk_N hK 431 rfl rfl)) (show ¬ ((0 : Int32) < 0 ∨ 1 ≤ (0 : Int32).toNatClampNeg) by decide)) (rJ_at 431 0 rfl) dL_law_836 ?_
  refine z_iload B dL_law_837 0 rfl ?_
  refine z_i2l (v := 36) B dL_law_839 (by decide) ?_
  refine z_lcmp (v := 0) B dL_law_840 (by decide) ?_
  refine z_if_eq (tgt := 846) B dL_law_841 (by decide) (fun _ => ?_) (fun h => absurd (by decide) h)
  refine z_goto (tgt := 1395) B dL_law_846 (by decide) ?_
  exact z_widen (Nat.le_of_ble_eq_true rfl) (Nat.le_of_ble_eq_true rfl) (z_sub _ [2, 6] rfl (kk _))
set_option maxRecDepth 100000 in
set_option maxHeartbeats 4000000 in
theorem lf_11_368 {p : Program} {l : Launch} {e : Env} {s : State} {m : MethodId} {args : Array Value} {below : List Frame} {meth : Method} {c : Code} {g : gx_T} {Q : State → Prop} {σ : sx_T} {b t bS : Nat} {xs : Nat → Int32} (hlt : l.stackTraces = false) (B : zx_B p s m args meth c code RL 8 g) (hX : va_X bS 6 xs s s.heap) (hbl : bS < s.heap.size) (hbA : ¬ gx_b g ≤ bS) (hF : fz_P b t σ) (h_x1 : xs 1 = 37) (kk : ∀ σ', zx p l e room_1 s m args below meth c g 8 600002 7302232 Q σ' 1395 [(4, .int 0), (0, .ref bS)] []) : zx p l e room_1 s m args below meth c g 8 500 100000 Q σ 793 [(4, .int 0), (3, .ref (b + 431)), (2, .ref (b + 405)), (1, .ref (b + 0)), (0, .ref bS)] [] := by
  have hK := fz_lay hF
  refine z_eqs (σ' := (ap b σ [] [] [])) rfl ?_
  refine z_aload_n B dL_law_793 rfl 3 rfl ?_
  refine z_aload_n B dL_law_794 rfl 4 rfl ?_
  refine z_iload B dL_law_795 0 rfl ?_
  refine z_iconst (v := 1) B dL_law_797 (by decide) ?_
  refine z_iadd B dL_law_798 ?_
  refine z_seti (y := 1) (by decide) ?_
  refine z_sld (j := 1) (x := 37) B hX hbl hbA (by decide) (show ¬ ((1 : Int32) < 0 ∨ 6 ≤ (1 : Int32).toNatClampNeg) by decide) h_x1 dL_law_799 ?_
  refine z_aload_n B dL_law_800 rfl 1 rfl ?_
  refine z_cSWi (As := [.ref (b + 0), .int 37, .ref (b + 431)]) (rest := []) B cw_L_121 dL_law_801 (ci_L_tick_1103 l (σ := (ap b σ [] [] [])) (b := b) (lyA hK) (rI_at 0 7 (fz_I hF 0 7 rfl rfl)) (rI_at 0 8 (fz_I hF 0 8 rfl rfl)) (rI_at 4 2 (fz_I hF 4 2 rfl rfl)) (rR_at 0 3 (fz_R hF 0 3 rfl rfl))) rfl (by decide) rfl (Nat.le_of_ble_eq_true rfl) (by decide) (fun r u hu => ?_)
  refine z_eqs (σ' := (ap b σ [(0, 8, 37), (0, 8, 36), (0, 8, 35), (0, 8, 34), (0, 8, 33), (0, 8, 32), (0, 8, 31), (0, 8, 30), (0, 8, 29), (0, 8, 28), (0, 8, 27), (0, 8, 26), (0, 8, 25), (0, 8, 24), (0, 8, 23), (0, 8, 22), (0, 8, 21), (0, 8, 20), (0, 8, 19), (0, 8, 18), (0, 8, 17), (0, 8, 16), (0, 8, 15), (0, 8, 14), (0, 8, 13), (0, 8, 12), (0, 8, 11), (0, 8, 10), (0, 8, 9), (0, 8, 8), (0, 8, 7), (0, 8, 6), (0, 8, 5), (0, 8, 4), (0, 8, 3), (0, 8, 2), (0, 8, 1)] [(431, 0, 37)] [])) (hu.2.trans ap_ap) ?_
  show zx p l e _ s m _ below meth c g 8 _ _ _ _ 804 [(4, .int 0), (3, .ref (b + 431)), (2, .ref (b + 405)), (1, .ref (b + 0)), (0, .ref bS)] _
  refine z_seti (y := 0) hu.1 ?_
  refine z_istore (lv' := [(5, .int 0), (4, .int 0), (3, .ref (b + 431)), (2, .ref (b + 405)), (1, .ref (b + 0)), (0, .ref bS)]) B dL_law_804 (by decide) rfl ?_
  refine z_aload_n B dL_law_806 rfl 3 rfl ?_
  refine z_aload_n B dL_law_807 rfl 5 rfl ?_
  refine z_iload B dL_law_808 1 rfl ?_
  refine z_iconst (v := 1) B dL_law_810 (by decide) ?_
  refine z_iadd B dL_law_811 ?_
  refine z_seti (y := 1) (by decide) ?_
  refine z_sld (j := 1) (x := 37) B hX hbl hbA (by decide) (show ¬ ((1 : Int32) < 0 ∨ 6 ≤ (1 : Int32).toNatClampNeg) by decide) h_x1 dL_law_812 ?_
  refine z_cVi (As := [.int 37]) (rest := []) B cw_L_123 cx_10 dL_law_813 (ci_X9_tick_1106 l (σ := (ap b σ [(0, 8, 37), (0, 8, 36), (0, 8, 35), (0, 8, 34), (0, 8, 33), (0, 8, 32), (0, 8, 31), (0, 8, 30), (0, 8, 29), (0, 8, 28), (0, 8, 27), (0, 8, 26), (0, 8, 25), (0, 8, 24), (0, 8, 23), (0, 8, 22), (0, 8, 21), (0, 8, 20), (0, 8, 19), (0, 8, 18), (0, 8, 17), (0, 8, 16), (0, 8, 15), (0, 8, 14), (0, 8, 13), (0, 8, 12), (0, 8, 11), (0, 8, 10), (0, 8, 9), (0, 8, 8), (0, 8, 7), (0, 8, 6), (0, 8, 5), (0, 8, 4), (0, 8, 3), (0, 8, 2), (0, 8, 1)] [(431, 0, 37)] [])) (b := b) (lyA hK) (rI_at 405 1 (fz_I hF 405 1 rfl rfl)) (rI_at 405 6 (fz_I hF 405 6 rfl rfl)) (rI_at 405 16 (fz_I hF 405 16 rfl rfl))) (lKA (hk_K hK 405 rfl rfl)) rfl (by decide) rfl (Nat.le_of_ble_eq_true rfl) (by decide) (fun r u hu => ?_)
  refine z_eqs (σ' := (ap b σ [(405, 1, 37), (405, 1, 36), (405, 1, 35), (405, 1, 34), (405, 1, 33), (405, 1, 32), (405, 1, 31), (405, 1, 30), (405, 1, 29), (405, 1, 28), (405, 1, 27), (405, 1, 26), (405, 1, 25), (405, 1, 24), (405, 1, 23), (405, 1, 22), (405, 1, 21), (405, 1, 20), (405, 1, 19), (405, 1, 18), (405, 1, 17), (405, 1, 16), (405, 1, 15), (405, 1, 14), (405, 1, 13), (405, 1, 12), (405, 1, 11), (405, 1, 10), (405, 1, 9), (405, 1, 8), (405, 1, 7), (405, 1, 6), (405, 1, 5), (405, 1, 4), (405, 1, 3), (405, 1, 2), (405, 1, 1), (405, 0, 0), (0, 8, 37), (0, 8, 36), (0, 8, 35), (0, 8, 34), (0, 8, 33), (0, 8, 32), (0, 8, 31), (0, 8, 30), (0, 8, 29), (0, 8, 28), (0, 8, 27), (0, 8, 26), (0, 8, 25), (0, 8, 24), (0, 8, 23), (0, 8, 22), (0, 8, 21), (0, 8, 20), (0, 8, 19), (0, 8, 18), (0, 8, 17), (0, 8, 16), (0, 8, 15), (0, 8, 14), (0, 8, 13), (0, 8, 12), (0, 8, 11), (0, 8, 10), (0, 8, 9), (0, 8, 8), (0, 8, 7), (0, 8, 6), (0, 8, 5), (0, 8, 4), (0, 8, 3), (0, 8, 2), (0, 8, 1)] [(431, 0, 37)] [])) (hu.2.trans ap_ap) ?_
  show zx p l e _ s m _ below meth c g 8 _ _ _ _ 816 [(5, .int 0), (4, .int 0), (3, .ref (b + 431)), (2, .ref (b + 405)), (1, .ref (b + 0)), (0, .ref bS)] _
  refine z_seti (y := 37) hu.1 ?_
  refine z_istore (lv' := [(6, .int 37), (5, .int 0), (4, .int 0), (3, .ref (b + 431)), (2, .ref (b + 405)), (1, .ref (b + 0)), (0, .ref bS)]) B dL_law_816 (by decide) rfl ?_
  refine z_aload_n B dL_law_818 rfl 4 rfl ?_
  refine z_cVi (As := []) (rest := []) B cw_L_80 cx_10 dL_law_819 (ci_X9_thrown_95 l (σ := (ap b σ [(405, 1, 37), (405, 1, 36), (405, 1, 35), (405, 1, 34), (405, 1, 33), (405, 1, 32), (405, 1, 31), (405, 1, 30), (405, 1, 29), (405, 1, 28), (405, 1, 27), (405, 1, 26), (405, 1, 25), (405, 1, 24), (405, 1, 23), (405, 1, 22), (405, 1, 21), (405, 1, 20), (405, 1, 19), (405, 1, 18), (405, 1, 17), (405, 1, 16), (405, 1, 15), (405, 1, 14), (405, 1, 13), (405, 1, 12), (405, 1, 11), (405, 1, 10), (405, 1, 9), (405, 1, 8), (405, 1, 7), (405, 1, 6), (405, 1, 5), (405, 1, 4), (405, 1, 3), (405, 1, 2), (405, 1, 1), (405, 0, 0), (0, 8, 37), (0, 8, 36), (0, 8, 35), (0, 8, 34), (0, 8, 33), (0, 8, 32), (0, 8, 31), (0, 8, 30), (0, 8, 29), (0, 8, 28), (0, 8, 27), (0, 8, 26), (0, 8, 25), (0, 8, 24), (0, 8, 23), (0, 8, 22), (0, 8, 21), (0, 8, 20), (0, 8, 19), (0, 8, 18), (0, 8, 17), (0, 8, 16), (0, 8, 15), (0, 8, 14), (0, 8, 13), (0, 8, 12), (0, 8, 11), (0, 8, 10), (0, 8, 9), (0, 8, 8), (0, 8, 7), (0, 8, 6), (0, 8, 5), (0, 8, 4), (0, 8, 3), (0, 8, 2), (0, 8, 1)] [(431, 0, 37)] [])) (b := b) (lyA hK) (rI_at 405 0 rfl)) (lKA (hk_K hK 405 rfl rfl)) rfl (by decide) rfl (Nat.le_of_ble_eq_true rfl) (by decide) (fun r u hu => ?_)
  refine z_eqs (σ' := (ap b σ [(405, 1, 37), (405, 1, 36), (405, 1, 35), (405, 1, 34), (405, 1, 33), (405, 1, 32), (405, 1, 31), (405, 1, 30), (405, 1, 29), (405, 1, 28), (405, 1, 27), (405, 1, 26), (405, 1, 25), (405, 1, 24), (405, 1, 23), (405, 1, 22), (405, 1, 21), (405, 1, 20), (405, 1, 19), (405, 1, 18), (405, 1, 17), (405, 1, 16), (405, 1, 15), (405, 1, 14), (405, 1, 13), (405, 1, 12), (405, 1, 11), (405, 1, 10), (405, 1, 9), (405, 1, 8), (405, 1, 7), (405, 1, 6), (405, 1, 5), (405, 1, 4), (405, 1, 3), (405, 1, 2), (405, 1, 1), (405, 0, 0), (0, 8, 37), (0, 8, 36), (0, 8, 35), (0, 8, 34), (0, 8, 33), (0, 8, 32), (0, 8, 31), (0, 8, 30), (0, 8, 29), (0, 8, 28), (0, 8, 27), (0, 8, 26), (0, 8, 25), (0, 8, 24), (0, 8, 23), (0, 8, 22), (0, 8, 21), (0, 8, 20), (0, 8, 19), (0, 8, 18), (0, 8, 17), (0, 8, 16), (0, 8, 15), (0, 8, 14), (0, 8, 13), (0, 8, 12), (0, 8, 11), (0, 8, 10), (0, 8, 9), (0, 8, 8), (0, 8, 7), (0, 8, 6), (0, 8, 5), (0, 8, 4), (0, 8, 3), (0, 8, 2), (0, 8, 1)] [(431, 0, 37)] [])) hu.2 ?_
  show zx p l e _ s m _ below meth c g 8 _ _ _ _ 822 [(6, .int 37), (5, .int 0), (4, .int 0), (3, .ref (b + 431)), (2, .ref (b + 405)), (1, .ref (b + 0)), (0, .ref bS)] _
  refine z_seti (y := 0) hu.1 ?_
  refine z_iload B dL_law_822 1 rfl ?_
  refine z_icmp_eq (tgt := 829) B dL_law_824 (by decide) (fun _ => ?_) (fun h => absurd (by decide) h)
  refine z_iload B dL_law_829 1 rfl ?_
  refine z_if_ne (tgt := 846) B dL_law_831 (by decide) (fun h => absurd (by decide) h) (fun _ => ?_)
  refine z_aload_n B dL_law_834 rfl 3 rfl ?_
  refine z_iconst (v := 0) B dL_law_835 (by decide) ?_
  refine z_lald (j := 0) (x := 37) B (lKA (hk_K hK 431 rfl rfl)) (by decide) (in_of (lNA (hk_N hK 431 rfl rfl)) (show ¬ ((0 : Int32) < 0 ∨ 1 ≤ (0 : Int32).toNatClampNeg) by decide)) (rJ_at 431 0 rfl) dL_law_836 ?_
  refine z_iload B dL_law_837 0 rfl ?_
  refine z_i2l (v := 37) B dL_law_839 (by decide) ?_
  refine z_lcmp (v := 0) B dL_law_840 (by decide) ?_
  refine z_if_eq (tgt := 846) B dL_law_841 (by decide) (fun _ => ?_) (fun h => absurd (by decide) h)
  refine z_goto (tgt := 1395) B dL_law_846 (by decide) ?_
  exact z_widen (Nat.le_of_ble_eq_true rfl) (Nat.le_of_ble_eq_true rfl) (z_sub _ [2, 6] rfl (kk _))
set_option maxRecDepth 100000 in
set_option maxHeartbeats 4000000 in
theorem lf_11_369 {p : Program} {l : Launch} {e : Env} {s : State} {m : MethodId} {args : Array Value} {below : List Frame} {meth : Method} {c : Code} {g : gx_T} {Q : State → Prop} {σ : sx_T} {b t bS : Nat} {xs : Nat → Int32} (hlt : l.stackTraces = false) (B : zx_B p s m args meth c code RL 8 g) (hX : va_X bS 6 xs s s.heap) (hbl : bS < s.heap.size) (hbA : ¬ gx_b g ≤ bS) (hF : fz_P b t σ) (h_x1 : xs 1 = 38) (kk : ∀ σ', zx p l e room_1 s m args below meth c g 8 600002 7302232 Q σ' 1395 [(4, .int 0), (0, .ref bS)] []) : zx p l e room_1 s m args below meth c g 8 500 100000 Q σ 793 [(4, .int 0), (3, .ref (b + 431)), (2, .ref (b + 405)), (1, .ref (b + 0)), (0, .ref bS)] [] := by
  have hK := fz_lay hF
  refine z_eqs (σ' := (ap b σ [] [] [])) rfl ?_
  refine z_aload_n B dL_law_793 rfl 3 rfl ?_
  refine z_aload_n B dL_law_794 rfl 4 rfl ?_
  refine z_iload B dL_law_795 0 rfl ?_
  refine z_iconst (v := 1) B dL_law_797 (by decide) ?_
  refine z_iadd B dL_law_798 ?_
  refine z_seti (y := 1) (by decide) ?_
  refine z_sld (j := 1) (x := 38) B hX hbl hbA (by decide) (show ¬ ((1 : Int32) < 0 ∨ 6 ≤ (1 : Int32).toNatClampNeg) by decide) h_x1 dL_law_799 ?_
  refine z_aload_n B dL_law_800 rfl 1 rfl ?_
  refine z_cSWi (As := [.ref (b + 0), .int 38, .ref (b + 431)]) (rest := []) B cw_L_121 dL_law_801 (ci_L_tick_1108 l (σ := (ap b σ [] [] [])) (b := b) (lyA hK) (rI_at 0 7 (fz_I hF 0 7 rfl rfl)) (rI_at 0 8 (fz_I hF 0 8 rfl rfl)) (rI_at 4 2 (fz_I hF 4 2 rfl rfl)) (rR_at 0 3 (fz_R hF 0 3 rfl rfl))) rfl (by decide) rfl (Nat.le_of_ble_eq_true rfl) (by decide) (fun r u hu => ?_)
  refine z_eqs (σ' := (ap b σ [(0, 8, 38), (0, 8, 37), (0, 8, 36), (0, 8, 35), (0, 8, 34), (0, 8, 33), (0, 8, 32), (0, 8, 31), (0, 8, 30), (0, 8, 29), (0, 8, 28), (0, 8, 27), (0, 8, 26), (0, 8, 25), (0, 8, 24), (0, 8, 23), (0, 8, 22), (0, 8, 21), (0, 8, 20), (0, 8, 19), (0, 8, 18), (0, 8, 17), (0, 8, 16), (0, 8, 15), (0, 8, 14), (0, 8, 13), (0, 8, 12), (0, 8, 11), (0, 8, 10), (0, 8, 9), (0, 8, 8), (0, 8, 7), (0, 8, 6), (0, 8, 5), (0, 8, 4), (0, 8, 3), (0, 8, 2), (0, 8, 1)] [(431, 0, 38)] [])) (hu.2.trans ap_ap) ?_
  show zx p l e _ s m _ below meth c g 8 _ _ _ _ 804 [(4, .int 0), (3, .ref (b + 431)), (2, .ref (b + 405)), (1, .ref (b + 0)), (0, .ref bS)] _
  refine z_seti (y := 0) hu.1 ?_
  refine z_istore (lv' := [(5, .int 0), (4, .int 0), (3, .ref (b + 431)), (2, .ref (b + 405)), (1, .ref (b + 0)), (0, .ref bS)]) B dL_law_804 (by decide) rfl ?_
  refine z_aload_n B dL_law_806 rfl 3 rfl ?_
  refine z_aload_n B dL_law_807 rfl 5 rfl ?_
  refine z_iload B dL_law_808 1 rfl ?_
  refine z_iconst (v := 1) B dL_law_810 (by decide) ?_
  refine z_iadd B dL_law_811 ?_
  refine z_seti (y := 1) (by decide) ?_
  refine z_sld (j := 1) (x := 38) B hX hbl hbA (by decide) (show ¬ ((1 : Int32) < 0 ∨ 6 ≤ (1 : Int32).toNatClampNeg) by decide) h_x1 dL_law_812 ?_
  refine z_cVi (As := [.int 38]) (rest := []) B cw_L_123 cx_10 dL_law_813 (ci_X9_tick_1111 l (σ := (ap b σ [(0, 8, 38), (0, 8, 37), (0, 8, 36), (0, 8, 35), (0, 8, 34), (0, 8, 33), (0, 8, 32), (0, 8, 31), (0, 8, 30), (0, 8, 29), (0, 8, 28), (0, 8, 27), (0, 8, 26), (0, 8, 25), (0, 8, 24), (0, 8, 23), (0, 8, 22), (0, 8, 21), (0, 8, 20), (0, 8, 19), (0, 8, 18), (0, 8, 17), (0, 8, 16), (0, 8, 15), (0, 8, 14), (0, 8, 13), (0, 8, 12), (0, 8, 11), (0, 8, 10), (0, 8, 9), (0, 8, 8), (0, 8, 7), (0, 8, 6), (0, 8, 5), (0, 8, 4), (0, 8, 3), (0, 8, 2), (0, 8, 1)] [(431, 0, 38)] [])) (b := b) (lyA hK) (rI_at 405 1 (fz_I hF 405 1 rfl rfl)) (rI_at 405 6 (fz_I hF 405 6 rfl rfl)) (rI_at 405 16 (fz_I hF 405 16 rfl rfl))) (lKA (hk_K hK 405 rfl rfl)) rfl (by decide) rfl (Nat.le_of_ble_eq_true rfl) (by decide) (fun r u hu => ?_)
  refine z_eqs (σ' := (ap b σ [(405, 1, 38), (405, 1, 37), (405, 1, 36), (405, 1, 35), (405, 1, 34), (405, 1, 33), (405, 1, 32), (405, 1, 31), (405, 1, 30), (405, 1, 29), (405, 1, 28), (405, 1, 27), (405, 1, 26), (405, 1, 25), (405, 1, 24), (405, 1, 23), (405, 1, 22), (405, 1, 21), (405, 1, 20), (405, 1, 19), (405, 1, 18), (405, 1, 17), (405, 1, 16), (405, 1, 15), (405, 1, 14), (405, 1, 13), (405, 1, 12), (405, 1, 11), (405, 1, 10), (405, 1, 9), (405, 1, 8), (405, 1, 7), (405, 1, 6), (405, 1, 5), (405, 1, 4), (405, 1, 3), (405, 1, 2), (405, 1, 1), (405, 0, 0), (0, 8, 38), (0, 8, 37), (0, 8, 36), (0, 8, 35), (0, 8, 34), (0, 8, 33), (0, 8, 32), (0, 8, 31), (0, 8, 30), (0, 8, 29), (0, 8, 28), (0, 8, 27), (0, 8, 26), (0, 8, 25), (0, 8, 24), (0, 8, 23), (0, 8, 22), (0, 8, 21), (0, 8, 20), (0, 8, 19), (0, 8, 18), (0, 8, 17), (0, 8, 16), (0, 8, 15), (0, 8, 14), (0, 8, 13), (0, 8, 12), (0, 8, 11), (0, 8, 10), (0, 8, 9), (0, 8, 8), (0, 8, 7), (0, 8, 6), (0, 8, 5), (0, 8, 4), (0, 8, 3), (0, 8, 2), (0, 8, 1)] [(431, 0, 38)] [])) (hu.2.trans ap_ap) ?_
  show zx p l e _ s m _ below meth c g 8 _ _ _ _ 816 [(5, .int 0), (4, .int 0), (3, .ref (b + 431)), (2, .ref (b + 405)), (1, .ref (b + 0)), (0, .ref bS)] _
  refine z_seti (y := 38) hu.1 ?_
  refine z_istore (lv' := [(6, .int 38), (5, .int 0), (4, .int 0), (3, .ref (b + 431)), (2, .ref (b + 405)), (1, .ref (b + 0)), (0, .ref bS)]) B dL_law_816 (by decide) rfl ?_
  refine z_aload_n B dL_law_818 rfl 4 rfl ?_
  refine z_cVi (As := []) (rest := []) B cw_L_80 cx_10 dL_law_819 (ci_X9_thrown_95 l (σ := (ap b σ [(405, 1, 38), (405, 1, 37), (405, 1, 36), (405, 1, 35), (405, 1, 34), (405, 1, 33), (405, 1, 32), (405, 1, 31), (405, 1, 30), (405, 1, 29), (405, 1, 28), (405, 1, 27), (405, 1, 26), (405, 1, 25), (405, 1, 24), (405, 1, 23), (405, 1, 22), (405, 1, 21), (405, 1, 20), (405, 1, 19), (405, 1, 18), (405, 1, 17), (405, 1, 16), (405, 1, 15), (405, 1, 14), (405, 1, 13), (405, 1, 12), (405, 1, 11), (405, 1, 10), (405, 1, 9), (405, 1, 8), (405, 1, 7), (405, 1, 6), (405, 1, 5), (405, 1, 4), (405, 1, 3), (405, 1, 2), (405, 1, 1), (405, 0, 0), (0, 8, 38), (0, 8, 37), (0, 8, 36), (0, 8, 35), (0, 8, 34), (0, 8, 33), (0, 8, 32), (0, 8, 31), (0, 8, 30), (0, 8, 29), (0, 8, 28), (0, 8, 27), (0, 8, 26), (0, 8, 25), (0, 8, 24), (0, 8, 23), (0, 8, 22), (0, 8, 21), (0, 8, 20), (0, 8, 19), (0, 8, 18), (0, 8, 17), (0, 8, 16), (0, 8, 15), (0, 8, 14), (0, 8, 13), (0, 8, 12), (0, 8, 11), (0, 8, 10), (0, 8, 9), (0, 8, 8), (0, 8, 7), (0, 8, 6), (0, 8, 5), (0, 8, 4), (0, 8, 3), (0, 8, 2), (0, 8, 1)] [(431, 0, 38)] [])) (b := b) (lyA hK) (rI_at 405 0 rfl)) (lKA (hk_K hK 405 rfl rfl)) rfl (by decide) rfl (Nat.le_of_ble_eq_true rfl) (by decide) (fun r u hu => ?_)
  refine z_eqs (σ' := (ap b σ [(405, 1, 38), (405, 1, 37), (405, 1, 36), (405, 1, 35), (405, 1, 34), (405, 1, 33), (405, 1, 32), (405, 1, 31), (405, 1, 30), (405, 1, 29), (405, 1, 28), (405, 1, 27), (405, 1, 26), (405, 1, 25), (405, 1, 24), (405, 1, 23), (405, 1, 22), (405, 1, 21), (405, 1, 20), (405, 1, 19), (405, 1, 18), (405, 1, 17), (405, 1, 16), (405, 1, 15), (405, 1, 14), (405, 1, 13), (405, 1, 12), (405, 1, 11), (405, 1, 10), (405, 1, 9), (405, 1, 8), (405, 1, 7), (405, 1, 6), (405, 1, 5), (405, 1, 4), (405, 1, 3), (405, 1, 2), (405, 1, 1), (405, 0, 0), (0, 8, 38), (0, 8, 37), (0, 8, 36), (0, 8, 35), (0, 8, 34), (0, 8, 33), (0, 8, 32), (0, 8, 31), (0, 8, 30), (0, 8, 29), (0, 8, 28), (0, 8, 27), (0, 8, 26), (0, 8, 25), (0, 8, 24), (0, 8, 23), (0, 8, 22), (0, 8, 21), (0, 8, 20), (0, 8, 19), (0, 8, 18), (0, 8, 17), (0, 8, 16), (0, 8, 15), (0, 8, 14), (0, 8, 13), (0, 8, 12), (0, 8, 11), (0, 8, 10), (0, 8, 9), (0, 8, 8), (0, 8, 7), (0, 8, 6), (0, 8, 5), (0, 8, 4), (0, 8, 3), (0, 8, 2), (0, 8, 1)] [(431, 0, 38)] [])) hu.2 ?_
  show zx p l e _ s m _ below meth c g 8 _ _ _ _ 822 [(6, .int 38), (5, .int 0), (4, .int 0), (3, .ref (b + 431)), (2, .ref (b + 405)), (1, .ref (b + 0)), (0, .ref bS)] _
  refine z_seti (y := 0) hu.1 ?_
  refine z_iload B dL_law_822 1 rfl ?_
  refine z_icmp_eq (tgt := 829) B dL_law_824 (by decide) (fun _ => ?_) (fun h => absurd (by decide) h)
  refine z_iload B dL_law_829 1 rfl ?_
  refine z_if_ne (tgt := 846) B dL_law_831 (by decide) (fun h => absurd (by decide) h) (fun _ => ?_)
  refine z_aload_n B dL_law_834 rfl 3 rfl ?_
  refine z_iconst (v := 0) B dL_law_835 (by decide) ?_
  refine z_lald (j := 0) (x := 38) B (lKA (hk_K hK 431 rfl rfl)) (by decide) (in_of (lNA (hk_N hK 431 rfl rfl)) (show ¬ ((0 : Int32) < 0 ∨ 1 ≤ (0 : Int32).toNatClampNeg) by decide)) (rJ_at 431 0 rfl) dL_law_836 ?_
  refine z_iload B dL_law_837 0 rfl ?_
  refine z_i2l (v := 38) B dL_law_839 (by decide) ?_
  refine z_lcmp (v := 0) B dL_law_840 (by decide) ?_
  refine z_if_eq (tgt := 846) B dL_law_841 (by decide) (fun _ => ?_) (fun h => absurd (by decide) h)
  refine z_goto (tgt := 1395) B dL_law_846 (by decide) ?_
  exact z_widen (Nat.le_of_ble_eq_true rfl) (Nat.le_of_ble_eq_true rfl) (z_sub _ [2, 6] rfl (kk _))
set_option maxRecDepth 100000 in
set_option maxHeartbeats 4000000 in
theorem lf_11_370 {p : Program} {l : Launch} {e : Env} {s : State} {m : MethodId} {args : Array Value} {below : List Frame} {meth : Method} {c : Code} {g : gx_T} {Q : State → Prop} {σ : sx_T} {b t bS : Nat} {xs : Nat → Int32} (hlt : l.stackTraces = false) (B : zx_B p s m args meth c code RL 8 g) (hX : va_X bS 6 xs s s.heap) (hbl : bS < s.heap.size) (hbA : ¬ gx_b g ≤ bS) (hF : fz_P b t σ) (h_x1 : xs 1 = 39) (kk : ∀ σ', zx p l e room_1 s m args below meth c g 8 600002 7302232 Q σ' 1395 [(4, .int 0), (0, .ref bS)] []) : zx p l e room_1 s m args below meth c g 8 500 100000 Q σ 793 [(4, .int 0), (3, .ref (b + 431)), (2, .ref (b + 405)), (1, .ref (b + 0)), (0, .ref bS)] [] := by
  have hK := fz_lay hF
  refine z_eqs (σ' := (ap b σ [] [] [])) rfl ?_
  refine z_aload_n B dL_law_793 rfl 3 rfl ?_
  refine z_aload_n B dL_law_794 rfl 4 rfl ?_
  refine z_iload B dL_law_795 0 rfl ?_
  refine z_iconst (v := 1) B dL_law_797 (by decide) ?_
  refine z_iadd B dL_law_798 ?_
  refine z_seti (y := 1) (by decide) ?_
  refine z_sld (j := 1) (x := 39) B hX hbl hbA (by decide) (show ¬ ((1 : Int32) < 0 ∨ 6 ≤ (1 : Int32).toNatClampNeg) by decide) h_x1 dL_law_799 ?_
  refine z_aload_n B dL_law_800 rfl 1 rfl ?_
  refine z_cSWi (As := [.ref (b + 0), .int 39, .ref (b + 431)]) (rest := []) B cw_L_121 dL_law_801 (ci_L_tick_1113 l (σ := (ap b σ [] [] [])) (b := b) (lyA hK) (rI_at 0 7 (fz_I hF 0 7 rfl rfl)) (rI_at 0 8 (fz_I hF 0 8 rfl rfl)) (rI_at 4 2 (fz_I hF 4 2 rfl rfl)) (rR_at 0 3 (fz_R hF 0 3 rfl rfl))) rfl (by decide) rfl (Nat.le_of_ble_eq_true rfl) (by decide) (fun r u hu => ?_)
  refine z_eqs (σ' := (ap b σ [(0, 8, 39), (0, 8, 38), (0, 8, 37), (0, 8, 36), (0, 8, 35), (0, 8, 34), (0, 8, 33), (0, 8, 32), (0, 8, 31), (0, 8, 30), (0, 8, 29), (0, 8, 28), (0, 8, 27), (0, 8, 26), (0, 8, 25), (0, 8, 24), (0, 8, 23), (0, 8, 22), (0, 8, 21), (0, 8, 20), (0, 8, 19), (0, 8, 18), (0, 8, 17), (0, 8, 16), (0, 8, 15), (0, 8, 14), (0, 8, 13), (0, 8, 12), (0, 8, 11), (0, 8, 10), (0, 8, 9), (0, 8, 8), (0, 8, 7), (0, 8, 6), (0, 8, 5), (0, 8, 4), (0, 8, 3), (0, 8, 2), (0, 8, 1)] [(431, 0, 39)] [])) (hu.2.trans ap_ap) ?_
  show zx p l e _ s m _ below meth c g 8 _ _ _ _ 804 [(4, .int 0), (3, .ref (b + 431)), (2, .ref (b + 405)), (1, .ref (b + 0)), (0, .ref bS)] _
  refine z_seti (y := 0) hu.1 ?_
  refine z_istore (lv' := [(5, .int 0), (4, .int 0), (3, .ref (b + 431)), (2, .ref (b + 405)), (1, .ref (b + 0)), (0, .ref bS)]) B dL_law_804 (by decide) rfl ?_
  refine z_aload_n B dL_law_806 rfl 3 rfl ?_
  refine z_aload_n B dL_law_807 rfl 5 rfl ?_
  refine z_iload B dL_law_808 1 rfl ?_
  refine z_iconst (v := 1) B dL_law_810 (by decide) ?_
  refine z_iadd B dL_law_811 ?_
  refine z_seti (y := 1) (by decide) ?_
  refine z_sld (j := 1) (x := 39) B hX hbl hbA (by decide) (show ¬ ((1 : Int32) < 0 ∨ 6 ≤ (1 : Int32).toNatClampNeg) by decide) h_x1 dL_law_812 ?_
  refine z_cVi (As := [.int 39]) (rest := []) B cw_L_123 cx_10 dL_law_813 (ci_X9_tick_1116 l (σ := (ap b σ [(0, 8, 39), (0, 8, 38), (0, 8, 37), (0, 8, 36), (0, 8, 35), (0, 8, 34), (0, 8, 33), (0, 8, 32), (0, 8, 31), (0, 8, 30), (0, 8, 29), (0, 8, 28), (0, 8, 27), (0, 8, 26), (0, 8, 25), (0, 8, 24), (0, 8, 23), (0, 8, 22), (0, 8, 21), (0, 8, 20), (0, 8, 19), (0, 8, 18), (0, 8, 17), (0, 8, 16), (0, 8, 15), (0, 8, 14), (0, 8, 13), (0, 8, 12), (0, 8, 11), (0, 8, 10), (0, 8, 9), (0, 8, 8), (0, 8, 7), (0, 8, 6), (0, 8, 5), (0, 8, 4), (0, 8, 3), (0, 8, 2), (0, 8, 1)] [(431, 0, 39)] [])) (b := b) (lyA hK) (rI_at 405 1 (fz_I hF 405 1 rfl rfl)) (rI_at 405 6 (fz_I hF 405 6 rfl rfl)) (rI_at 405 16 (fz_I hF 405 16 rfl rfl))) (lKA (hk_K hK 405 rfl rfl)) rfl (by decide) rfl (Nat.le_of_ble_eq_true rfl) (by decide) (fun r u hu => ?_)
  refine z_eqs (σ' := (ap b σ [(405, 1, 39), (405, 1, 38), (405, 1, 37), (405, 1, 36), (405, 1, 35), (405, 1, 34), (405, 1, 33), (405, 1, 32), (405, 1, 31), (405, 1, 30), (405, 1, 29), (405, 1, 28), (405, 1, 27), (405, 1, 26), (405, 1, 25), (405, 1, 24), (405, 1, 23), (405, 1, 22), (405, 1, 21), (405, 1, 20), (405, 1, 19), (405, 1, 18), (405, 1, 17), (405, 1, 16), (405, 1, 15), (405, 1, 14), (405, 1, 13), (405, 1, 12), (405, 1, 11), (405, 1, 10), (405, 1, 9), (405, 1, 8), (405, 1, 7), (405, 1, 6), (405, 1, 5), (405, 1, 4), (405, 1, 3), (405, 1, 2), (405, 1, 1), (405, 0, 0), (0, 8, 39), (0, 8, 38), (0, 8, 37), (0, 8, 36), (0, 8, 35), (0, 8, 34), (0, 8, 33), (0, 8, 32), (0, 8, 31), (0, 8, 30), (0, 8, 29), (0, 8, 28), (0, 8, 27), (0, 8, 26), (0, 8, 25), (0, 8, 24), (0, 8, 23), (0, 8, 22), (0, 8, 21), (0, 8, 20), (0, 8, 19), (0, 8, 18), (0, 8, 17), (0, 8, 16), (0, 8, 15), (0, 8, 14), (0, 8, 13), (0, 8, 12), (0, 8, 11), (0, 8, 10), (0, 8, 9), (0, 8, 8), (0, 8, 7), (0, 8, 6), (0, 8, 5), (0, 8, 4), (0, 8, 3), (0, 8, 2), (0, 8, 1)] [(431, 0, 39)] [])) (hu.2.trans ap_ap) ?_
  show zx p l e _ s m _ below meth c g 8 _ _ _ _ 816 [(5, .int 0), (4, .int 0), (3, .ref (b + 431)), (2, .ref (b + 405)), (1, .ref (b + 0)), (0, .ref bS)] _
  refine z_seti (y := 39) hu.1 ?_
  refine z_istore (lv' := [(6, .int 39), (5, .int 0), (4, .int 0), (3, .ref (b + 431)), (2, .ref (b + 405)), (1, .ref (b + 0)), (0, .ref bS)]) B dL_law_816 (by decide) rfl ?_
  refine z_aload_n B dL_law_818 rfl 4 rfl ?_
  refine z_cVi (As := []) (rest := []) B cw_L_80 cx_10 dL_law_819 (ci_X9_thrown_95 l (σ := (ap b σ [(405, 1, 39), (405, 1, 38), (405, 1, 37), (405, 1, 36), (405, 1, 35), (405, 1, 34), (405, 1, 33), (405, 1, 32), (405, 1, 31), (405, 1, 30), (405, 1, 29), (405, 1, 28), (405, 1, 27), (405, 1, 26), (405, 1, 25), (405, 1, 24), (405, 1, 23), (405, 1, 22), (405, 1, 21), (405, 1, 20), (405, 1, 19), (405, 1, 18), (405, 1, 17), (405, 1, 16), (405, 1, 15), (405, 1, 14), (405, 1, 13), (405, 1, 12), (405, 1, 11), (405, 1, 10), (405, 1, 9), (405, 1, 8), (405, 1, 7), (405, 1, 6), (405, 1, 5), (405, 1, 4), (405, 1, 3), (405, 1, 2), (405, 1, 1), (405, 0, 0), (0, 8, 39), (0, 8, 38), (0, 8, 37), (0, 8, 36), (0, 8, 35), (0, 8, 34), (0, 8, 33), (0, 8, 32), (0, 8, 31), (0, 8, 30), (0, 8, 29), (0, 8, 28), (0, 8, 27), (0, 8, 26), (0, 8, 25), (0, 8, 24), (0, 8, 23), (0, 8, 22), (0, 8, 21), (0, 8, 20), (0, 8, 19), (0, 8, 18), (0, 8, 17), (0, 8, 16), (0, 8, 15), (0, 8, 14), (0, 8, 13), (0, 8, 12), (0, 8, 11), (0, 8, 10), (0, 8, 9), (0, 8, 8), (0, 8, 7), (0, 8, 6), (0, 8, 5), (0, 8, 4), (0, 8, 3), (0, 8, 2), (0, 8, 1)] [(431, 0, 39)] [])) (b := b) (lyA hK) (rI_at 405 0 rfl)) (lKA (hk_K hK 405 rfl rfl)) rfl (by decide) rfl (Nat.le_of_ble_eq_true rfl) (by decide) (fun r u hu => ?_)
  refine z_eqs (σ' := (ap b σ [(405, 1, 39), (405, 1, 38), (405, 1, 37), (405, 1, 36), (405, 1, 35), (405, 1, 34), (405, 1, 33), (405, 1, 32), (405, 1, 31), (405, 1, 30), (405, 1, 29), (405, 1, 28), (405, 1, 27), (405, 1, 26), (405, 1, 25), (405, 1, 24), (405, 1, 23), (405, 1, 22), (405, 1, 21), (405, 1, 20), (405, 1, 19), (405, 1, 18), (405, 1, 17), (405, 1, 16), (405, 1, 15), (405, 1, 14), (405, 1, 13), (405, 1, 12), (405, 1, 11), (405, 1, 10), (405, 1, 9), (405, 1, 8), (405, 1, 7), (405, 1, 6), (405, 1, 5), (405, 1, 4), (405, 1, 3), (405, 1, 2), (405, 1, 1), (405, 0, 0), (0, 8, 39), (0, 8, 38), (0, 8, 37), (0, 8, 36), (0, 8, 35), (0, 8, 34), (0, 8, 33), (0, 8, 32), (0, 8, 31), (0, 8, 30), (0, 8, 29), (0, 8, 28), (0, 8, 27), (0, 8, 26), (0, 8, 25), (0, 8, 24), (0, 8, 23), (0, 8, 22), (0, 8, 21), (0, 8, 20), (0, 8, 19), (0, 8, 18), (0, 8, 17), (0, 8, 16), (0, 8, 15), (0, 8, 14), (0, 8, 13), (0, 8, 12), (0, 8, 11), (0, 8, 10), (0, 8, 9), (0, 8, 8), (0, 8, 7), (0, 8, 6), (0, 8, 5), (0, 8, 4), (0, 8, 3), (0, 8, 2), (0, 8, 1)] [(431, 0, 39)] [])) hu.2 ?_
  show zx p l e _ s m _ below meth c g 8 _ _ _ _ 822 [(6, .int 39), (5, .int 0), (4, .int 0), (3, .ref (b + 431)), (2, .ref (b + 405)), (1, .ref (b + 0)), (0, .ref bS)] _
  refine z_seti (y := 0) hu.1 ?_
  refine z_iload B dL_law_822 1 rfl ?_
  refine z_icmp_eq (tgt := 829) B dL_law_824 (by decide) (fun _ => ?_) (fun h => absurd (by decide) h)
  refine z_iload B dL_law_829 1 rfl ?_
  refine z_if_ne (tgt := 846) B dL_law_831 (by decide) (fun h => absurd (by decide) h) (fun _ => ?_)
  refine z_aload_n B dL_law_834 rfl 3 rfl ?_
  refine z_iconst (v := 0) B dL_law_835 (by decide) ?_
  refine z_lald (j := 0) (x := 39) B (lKA (hk_K hK 431 rfl rfl)) (by decide) (in_of (lNA (hk_N hK 431 rfl rfl)) (show ¬ ((0 : Int32) < 0 ∨ 1 ≤ (0 : Int32).toNatClampNeg) by decide)) (rJ_at 431 0 rfl) dL_law_836 ?_
  refine z_iload B dL_law_837 0 rfl ?_
  refine z_i2l (v := 39) B dL_law_839 (by decide) ?_
  refine z_lcmp (v := 0) B dL_law_840 (by decide) ?_
  refine z_if_eq (tgt := 846) B dL_law_841 (by decide) (fun _ => ?_) (fun h => absurd (by decide) h)
  refine z_goto (tgt := 1395) B dL_law_846 (by decide) ?_
  exact z_widen (Nat.le_of_ble_eq_true rfl) (Nat.le_of_ble_eq_true rfl) (z_sub _ [2, 6] rfl (kk _))
set_option maxRecDepth 100000 in
set_option maxHeartbeats 4000000 in
theorem lf_11_371 {p : Program} {l : Launch} {e : Env} {s : State} {m : MethodId} {args : Array Value} {below : List Frame} {meth : Method} {c : Code} {g : gx_T} {Q : State → Prop} {σ : sx_T} {b t bS : Nat} {xs : Nat → Int32} (hlt : l.stackTraces = false) (B : zx_B p s m args meth c code RL 8 g) (hX : va_X bS 6 xs s s.heap) (hbl : bS < s.heap.size) (hbA : ¬ gx_b g ≤ bS) (hF : fz_P b t σ) (h_x1 : xs 1 = 40) (kk : ∀ σ', zx p l e room_1 s m args below meth c g 8 600002 7302232 Q σ' 1395 [(4, .int 0), (0, .ref bS)] []) : zx p l e room_1 s m args below meth c g 8 500 100000 Q σ 793 [(4, .int 0), (3, .ref (b + 431)), (2, .ref (b + 405)), (1, .ref (b + 0)), (0, .ref bS)] [] := by
  have hK := fz_lay hF
  refine z_eqs (σ' := (ap b σ [] [] [])) rfl ?_
  refine z_aload_n B dL_law_793 rfl 3 rfl ?_
  refine z_aload_n B dL_law_794 rfl 4 rfl ?_
  refine z_iload B dL_law_795 0 rfl ?_
  refine z_iconst (v := 1) B dL_law_797 (by decide) ?_
  refine z_iadd B dL_law_798 ?_
  refine z_seti (y := 1) (by decide) ?_
  refine z_sld (j := 1) (x := 40) B hX hbl hbA (by decide) (show ¬ ((1 : Int32) < 0 ∨ 6 ≤ (1 : Int32).toNatClampNeg) by decide) h_x1 dL_law_799 ?_
  refine z_aload_n B dL_law_800 rfl 1 rfl ?_
  refine z_cSWi (As := [.ref (b + 0), .int 40, .ref (b + 431)]) (rest := []) B cw_L_121 dL_law_801 (ci_L_tick_1118 l (σ := (ap b σ [] [] [])) (b := b) (lyA hK) (rI_at 0 7 (fz_I hF 0 7 rfl rfl)) (rI_at 0 8 (fz_I hF 0 8 rfl rfl)) (rI_at 4 2 (fz_I hF 4 2 rfl rfl)) (rR_at 0 3 (fz_R hF 0 3 rfl rfl))) rfl (by decide) rfl (Nat.le_of_ble_eq_true rfl) (by decide) (fun r u hu => ?_)
  refine z_eqs (σ' := (ap b σ [(0, 8, 40), (0, 8, 39), (0, 8, 38), (0, 8, 37), (0, 8, 36), (0, 8, 35), (0, 8, 34), (0, 8, 33), (0, 8, 32), (0, 8, 31), (0, 8, 30), (0, 8, 29), (0, 8, 28), (0, 8, 27), (0, 8, 26), (0, 8, 25), (0, 8, 24), (0, 8, 23), (0, 8, 22), (0, 8, 21), (0, 8, 20), (0, 8, 19), (0, 8, 18), (0, 8, 17), (0, 8, 16), (0, 8, 15), (0, 8, 14), (0, 8, 13), (0, 8, 12), (0, 8, 11), (0, 8, 10), (0, 8, 9), (0, 8, 8), (0, 8, 7), (0, 8, 6), (0, 8, 5), (0, 8, 4), (0, 8, 3), (0, 8, 2), (0, 8, 1)] [(431, 0, 40)] [])) (hu.2.trans ap_ap) ?_
  show zx p l e _ s m _ below meth c g 8 _ _ _ _ 804 [(4, .int 0), (3, .ref (b + 431)), (2, .ref (b + 405)), (1, .ref (b + 0)), (0, .ref bS)] _
  refine z_seti (y := 0) hu.1 ?_
  refine z_istore (lv' := [(5, .int 0), (4, .int 0), (3, .ref (b + 431)), (2, .ref (b + 405)), (1, .ref (b + 0)), (0, .ref bS)]) B dL_law_804 (by decide) rfl ?_
  refine z_aload_n B dL_law_806 rfl 3 rfl ?_
  refine z_aload_n B dL_law_807 rfl 5 rfl ?_
  refine z_iload B dL_law_808 1 rfl ?_
  refine z_iconst (v := 1) B dL_law_810 (by decide) ?_
  refine z_iadd B dL_law_811 ?_
  refine z_seti (y := 1) (by decide) ?_
  refine z_sld (j := 1) (x := 40) B hX hbl hbA (by decide) (show ¬ ((1 : Int32) < 0 ∨ 6 ≤ (1 : Int32).toNatClampNeg) by decide) h_x1 dL_law_812 ?_
  refine z_cVi (As := [.int 40]) (rest := []) B cw_L_123 cx_10 dL_law_813 (ci_X9_tick_1121 l (σ := (ap b σ [(0, 8, 40), (0, 8, 39), (0, 8, 38), (0, 8, 37), (0, 8, 36), (0, 8, 35), (0, 8, 34), (0, 8, 33), (0, 8, 32), (0, 8, 31), (0, 8, 30), (0, 8, 29), (0, 8, 28), (0, 8, 27), (0, 8, 26), (0, 8, 25), (0, 8, 24), (0, 8, 23), (0, 8, 22), (0, 8, 21), (0, 8, 20), (0, 8, 19), (0, 8, 18), (0, 8, 17), (0, 8, 16), (0, 8, 15), (0, 8, 14), (0, 8, 13), (0, 8, 12), (0, 8, 11), (0, 8, 10), (0, 8, 9), (0, 8, 8), (0, 8, 7), (0, 8, 6), (0, 8, 5), (0, 8, 4), (0, 8, 3), (0, 8, 2), (0, 8, 1)] [(431, 0, 40)] [])) (b := b) (lyA hK) (rI_at 405 1 (fz_I hF 405 1 rfl rfl)) (rI_at 405 6 (fz_I hF 405 6 rfl rfl)) (rI_at 405 16 (fz_I hF 405 16 rfl rfl))) (lKA (hk_K hK 405 rfl rfl)) rfl (by decide) rfl (Nat.le_of_ble_eq_true rfl) (by decide) (fun r u hu => ?_)
  refine z_eqs (σ' := (ap b σ [(405, 1, 40), (405, 1, 39), (405, 1, 38), (405, 1, 37), (405, 1, 36), (405, 1, 35), (405, 1, 34), (405, 1, 33), (405, 1, 32), (405, 1, 31), (405, 1, 30), (405, 1, 29), (405, 1, 28), (405, 1, 27), (405, 1, 26), (405, 1, 25), (405, 1, 24), (405, 1, 23), (405, 1, 22), (405, 1, 21), (405, 1, 20), (405, 1, 19), (405, 1, 18), (405, 1, 17), (405, 1, 16), (405, 1, 15), (405, 1, 14), (405, 1, 13), (405, 1, 12), (405, 1, 11), (405, 1, 10), (405, 1, 9), (405, 1, 8), (405, 1, 7), (405, 1, 6), (405, 1, 5), (405, 1, 4), (405, 1, 3), (405, 1, 2), (405, 1, 1), (405, 0, 0), (0, 8, 40), (0, 8, 39), (0, 8, 38), (0, 8, 37), (0, 8, 36), (0, 8, 35), (0, 8, 34), (0, 8, 33), (0, 8, 32), (0, 8, 31), (0, 8, 30), (0, 8, 29), (0, 8, 28), (0, 8, 27), (0, 8, 26), (0, 8, 25), (0, 8, 24), (0, 8, 23), (0, 8, 22), (0, 8, 21), (0, 8, 20), (0, 8, 19), (0, 8, 18), (0, 8, 17), (0, 8, 16), (0, 8, 15), (0, 8, 14), (0, 8, 13), (0, 8, 12), (0, 8, 11), (0, 8, 10), (0, 8, 9), (0, 8, 8), (0, 8, 7), (0, 8, 6), (0, 8, 5), (0, 8, 4), (0, 8, 3), (0, 8, 2), (0, 8, 1)] [(431, 0, 40)] [])) (hu.2.trans ap_ap) ?_
  show zx p l e _ s m _ below meth c g 8 _ _ _ _ 816 [(5, .int 0), (4, .int 0), (3, .ref (b + 431)), (2, .ref (b + 405)), (1, .ref (b + 0)), (0, .ref bS)] _
  refine z_seti (y := 40) hu.1 ?_
  refine z_istore (lv' := [(6, .int 40), (5, .int 0), (4, .int 0), (3, .ref (b + 431)), (2, .ref (b + 405)), (1, .ref (b + 0)), (0, .ref bS)]) B dL_law_816 (by decide) rfl ?_
  refine z_aload_n B dL_law_818 rfl 4 rfl ?_
  refine z_cVi (As := []) (rest := []) B cw_L_80 cx_10 dL_law_819 (ci_X9_thrown_95 l (σ := (ap b σ [(405, 1, 40), (405, 1, 39), (405, 1, 38), (405, 1, 37), (405, 1, 36), (405, 1, 35), (405, 1, 34), (405, 1, 33), (405, 1, 32), (405, 1, 31), (405, 1, 30), (405, 1, 29), (405, 1, 28), (405, 1, 27), (405, 1, 26), (405, 1, 25), (405, 1, 24), (405, 1, 23), (405, 1, 22), (405, 1, 21), (405, 1, 20), (405, 1, 19), (405, 1, 18), (405, 1, 17), (405, 1, 16), (405, 1, 15), (405, 1, 14), (405, 1, 13), (405, 1, 12), (405, 1, 11), (405, 1, 10), (405, 1, 9), (405, 1, 8), (405, 1, 7), (405, 1, 6), (405, 1, 5), (405, 1, 4), (405, 1, 3), (405, 1, 2), (405, 1, 1), (405, 0, 0), (0, 8, 40), (0, 8, 39), (0, 8, 38), (0, 8, 37), (0, 8, 36), (0, 8, 35), (0, 8, 34), (0, 8, 33), (0, 8, 32), (0, 8, 31), (0, 8, 30), (0, 8, 29), (0, 8, 28), (0, 8, 27), (0, 8, 26), (0, 8, 25), (0, 8, 24), (0, 8, 23), (0, 8, 22), (0, 8, 21), (0, 8, 20), (0, 8, 19), (0, 8, 18), (0, 8, 17), (0, 8, 16), (0, 8, 15), (0, 8, 14), (0, 8, 13), (0, 8, 12), (0, 8, 11), (0, 8, 10), (0, 8, 9), (0, 8, 8), (0, 8, 7), (0, 8, 6), (0, 8, 5), (0, 8, 4), (0, 8, 3), (0, 8, 2), (0, 8, 1)] [(431, 0, 40)] [])) (b := b) (lyA hK) (rI_at 405 0 rfl)) (lKA (hk_K hK 405 rfl rfl)) rfl (by decide) rfl (Nat.le_of_ble_eq_true rfl) (by decide) (fun r u hu => ?_)
  refine z_eqs (σ' := (ap b σ [(405, 1, 40), (405, 1, 39), (405, 1, 38), (405, 1, 37), (405, 1, 36), (405, 1, 35), (405, 1, 34), (405, 1, 33), (405, 1, 32), (405, 1, 31), (405, 1, 30), (405, 1, 29), (405, 1, 28), (405, 1, 27), (405, 1, 26), (405, 1, 25), (405, 1, 24), (405, 1, 23), (405, 1, 22), (405, 1, 21), (405, 1, 20), (405, 1, 19), (405, 1, 18), (405, 1, 17), (405, 1, 16), (405, 1, 15), (405, 1, 14), (405, 1, 13), (405, 1, 12), (405, 1, 11), (405, 1, 10), (405, 1, 9), (405, 1, 8), (405, 1, 7), (405, 1, 6), (405, 1, 5), (405, 1, 4), (405, 1, 3), (405, 1, 2), (405, 1, 1), (405, 0, 0), (0, 8, 40), (0, 8, 39), (0, 8, 38), (0, 8, 37), (0, 8, 36), (0, 8, 35), (0, 8, 34), (0, 8, 33), (0, 8, 32), (0, 8, 31), (0, 8, 30), (0, 8, 29), (0, 8, 28), (0, 8, 27), (0, 8, 26), (0, 8, 25), (0, 8, 24), (0, 8, 23), (0, 8, 22), (0, 8, 21), (0, 8, 20), (0, 8, 19), (0, 8, 18), (0, 8, 17), (0, 8, 16), (0, 8, 15), (0, 8, 14), (0, 8, 13), (0, 8, 12), (0, 8, 11), (0, 8, 10), (0, 8, 9), (0, 8, 8), (0, 8, 7), (0, 8, 6), (0, 8, 5), (0, 8, 4), (0, 8, 3), (0, 8, 2), (0, 8, 1)] [(431, 0, 40)] [])) hu.2 ?_
  show zx p l e _ s m _ below meth c g 8 _ _ _ _ 822 [(6, .int 40), (5, .int 0), (4, .int 0), (3, .ref (b + 431)), (2, .ref (b + 405)), (1, .ref (b + 0)), (0, .ref bS)] _
  refine z_seti (y := 0) hu.1 ?_
  refine z_iload B dL_law_822 1 rfl ?_
  refine z_icmp_eq (tgt := 829) B dL_law_824 (by decide) (fun _ => ?_) (fun h => absurd (by decide) h)
  refine z_iload B dL_law_829 1 rfl ?_
  refine z_if_ne (tgt := 846) B dL_law_831 (by decide) (fun h => absurd (by decide) h) (fun _ => ?_)
  refine z_aload_n B dL_law_834 rfl 3 rfl ?_
  refine z_iconst (v := 0) B dL_law_835 (by decide) ?_
  refine z_lald (j := 0) (x := 40) B (lKA (hk_K hK 431 rfl rfl)) (by decide) (in_of (lNA (hk_N hK 431 rfl rfl)) (show ¬ ((0 : Int32) < 0 ∨ 1 ≤ (0 : Int32).toNatClampNeg) by decide)) (rJ_at 431 0 rfl) dL_law_836 ?_
  refine z_iload B dL_law_837 0 rfl ?_
  refine z_i2l (v := 40) B dL_law_839 (by decide) ?_
  refine z_lcmp (v := 0) B dL_law_840 (by decide) ?_
  refine z_if_eq (tgt := 846) B dL_law_841 (by decide) (fun _ => ?_) (fun h => absurd (by decide) h)
  refine z_goto (tgt := 1395) B dL_law_846 (by decide) ?_
  exact z_widen (Nat.le_of_ble_eq_true rfl) (Nat.le_of_ble_eq_true rfl) (z_sub _ [2, 6] rfl (kk _))
set_option maxRecDepth 100000 in
set_option maxHeartbeats 4000000 in
theorem lf_11_372 {p : Program} {l : Launch} {e : Env} {s : State} {m : MethodId} {args : Array Value} {below : List Frame} {meth : Method} {c : Code} {g : gx_T} {Q : State → Prop} {σ : sx_T} {b t bS : Nat} {xs : Nat → Int32} (hlt : l.stackTraces = false) (B : zx_B p s m args meth c code RL 8 g) (hX : va_X bS 6 xs s s.heap) (hbl : bS < s.heap.size) (hbA : ¬ gx_b g ≤ bS) (hF : fz_P b t σ) (h_x1 : xs 1 = 41) (kk : ∀ σ', zx p l e room_1 s m args below meth c g 8 600002 7302232 Q σ' 1395 [(4, .int 0), (0, .ref bS)] []) : zx p l e room_1 s m args below meth c g 8 500 100000 Q σ 793 [(4, .int 0), (3, .ref (b + 431)), (2, .ref (b + 405)), (1, .ref (b + 0)), (0, .ref bS)] [] := by
  have hK := fz_lay hF
  refine z_eqs (σ' := (ap b σ [] [] [])) rfl ?_
  refine z_aload_n B dL_law_793 rfl 3 rfl ?_
  refine z_aload_n B dL_law_794 rfl 4 rfl ?_
  refine z_iload B dL_law_795 0 rfl ?_
  refine z_iconst (v := 1) B dL_law_797 (by decide) ?_
  refine z_iadd B dL_law_798 ?_
  refine z_seti (y := 1) (by decide) ?_
  refine z_sld (j := 1) (x := 41) B hX hbl hbA (by decide) (show ¬ ((1 : Int32) < 0 ∨ 6 ≤ (1 : Int32).toNatClampNeg) by decide) h_x1 dL_law_799 ?_
  refine z_aload_n B dL_law_800 rfl 1 rfl ?_
  refine z_cSWi (As := [.ref (b + 0), .int 41, .ref (b + 431)]) (rest := []) B cw_L_121 dL_law_801 (ci_L_tick_1123 l (σ := (ap b σ [] [] [])) (b := b) (lyA hK) (rI_at 0 7 (fz_I hF 0 7 rfl rfl)) (rI_at 0 8 (fz_I hF 0 8 rfl rfl)) (rI_at 4 2 (fz_I hF 4 2 rfl rfl)) (rR_at 0 3 (fz_R hF 0 3 rfl rfl))) rfl (by decide) rfl (Nat.le_of_ble_eq_true rfl) (by decide) (fun r u hu => ?_)
  refine z_eqs (σ' := (ap b σ [(0, 8, 41), (0, 8, 40), (0, 8, 39), (0, 8, 38), (0, 8, 37), (0, 8, 36), (0, 8, 35), (0, 8, 34), (0, 8, 33), (0, 8, 32), (0, 8, 31), (0, 8, 30), (0, 8, 29), (0, 8, 28), (0, 8, 27), (0, 8, 26), (0, 8, 25), (0, 8, 24), (0, 8, 23), (0, 8, 22), (0, 8, 21), (0, 8, 20), (0, 8, 19), (0, 8, 18), (0, 8, 17), (0, 8, 16), (0, 8, 15), (0, 8, 14), (0, 8, 13), (0, 8, 12), (0, 8, 11), (0, 8, 10), (0, 8, 9), (0, 8, 8), (0, 8, 7), (0, 8, 6), (0, 8, 5), (0, 8, 4), (0, 8, 3), (0, 8, 2), (0, 8, 1)] [(431, 0, 41)] [])) (hu.2.trans ap_ap) ?_
  show zx p l e _ s m _ below meth c g 8 _ _ _ _ 804 [(4, .int 0), (3, .ref (b + 431)), (2, .ref (b + 405)), (1, .ref (b + 0)), (0, .ref bS)] _
  refine z_seti (y := 0) hu.1 ?_
  refine z_istore (lv' := [(5, .int 0), (4, .int 0), (3, .ref (b + 431)), (2, .ref (b + 405)), (1, .ref (b + 0)), (0, .ref bS)]) B dL_law_804 (by decide) rfl ?_
  refine z_aload_n B dL_law_806 rfl 3 rfl ?_
  refine z_aload_n B dL_law_807 rfl 5 rfl ?_
  refine z_iload B dL_law_808 1 rfl ?_
  refine z_iconst (v := 1) B dL_law_810 (by decide) ?_
  refine z_iadd B dL_law_811 ?_
  refine z_seti (y := 1) (by decide) ?_
  refine z_sld (j := 1) (x := 41) B hX hbl hbA (by decide) (show ¬ ((1 : Int32) < 0 ∨ 6 ≤ (1 : Int32).toNatClampNeg) by decide) h_x1 dL_law_812 ?_
  refine z_cVi (As := [.int 41]) (rest := []) B cw_L_123 cx_10 dL_law_813 (ci_X9_tick_1126 l (σ := (ap b σ [(0, 8, 41), (0, 8, 40), (0, 8, 39), (0, 8, 38), (0, 8, 37), (0, 8, 36), (0, 8, 35), (0, 8, 34), (0, 8, 33), (0, 8, 32), (0, 8, 31), (0, 8, 30), (0, 8, 29), (0, 8, 28), (0, 8, 27), (0, 8, 26), (0, 8, 25), (0, 8, 24), (0, 8, 23), (0, 8, 22), (0, 8, 21), (0, 8, 20), (0, 8, 19), (0, 8, 18), (0, 8, 17), (0, 8, 16), (0, 8, 15), (0, 8, 14), (0, 8, 13), (0, 8, 12), (0, 8, 11), (0, 8, 10), (0, 8, 9), (0, 8, 8), (0, 8, 7), (0, 8, 6), (0, 8, 5), (0, 8, 4), (0, 8, 3), (0, 8, 2), (0, 8, 1)] [(431, 0, 41)] [])) (b := b) (lyA hK) (rI_at 405 1 (fz_I hF 405 1 rfl rfl)) (rI_at 405 6 (fz_I hF 405 6 rfl rfl)) (rI_at 405 16 (fz_I hF 405 16 rfl rfl))) (lKA (hk_K hK 405 rfl rfl)) rfl (by decide) rfl (Nat.le_of_ble_eq_true rfl) (by decide) (fun r u hu => ?_)
  refine z_eqs (σ' := (ap b σ [(405, 1, 41), (405, 1, 40), (405, 1, 39), (405, 1, 38), (405, 1, 37), (405, 1, 36), (405, 1, 35), (405, 1, 34), (405, 1, 33), (405, 1, 32), (405, 1, 31), (405, 1, 30), (405, 1, 29), (405, 1, 28), (405, 1, 27), (405, 1, 26), (405, 1, 25), (405, 1, 24), (405, 1, 23), (405, 1, 22), (405, 1, 21), (405, 1, 20), (405, 1, 19), (405, 1, 18), (405, 1, 17), (405, 1, 16), (405, 1, 15), (405, 1, 14), (405, 1, 13), (405, 1, 12), (405, 1, 11), (405, 1, 10), (405, 1, 9), (405, 1, 8), (405, 1, 7), (405, 1, 6), (405, 1, 5), (405, 1, 4), (405, 1, 3), (405, 1, 2), (405, 1, 1), (405, 0, 0), (0, 8, 41), (0, 8, 40), (0, 8, 39), (0, 8, 38), (0, 8, 37), (0, 8, 36), (0, 8, 35), (0, 8, 34), (0, 8, 33), (0, 8, 32), (0, 8, 31), (0, 8, 30), (0, 8, 29), (0, 8, 28), (0, 8, 27), (0, 8, 26), (0, 8, 25), (0, 8, 24), (0, 8, 23), (0, 8, 22), (0, 8, 21), (0, 8, 20), (0, 8, 19), (0, 8, 18), (0, 8, 17), (0, 8, 16), (0, 8, 15), (0, 8, 14), (0, 8, 13), (0, 8, 12), (0, 8, 11), (0, 8, 10), (0, 8, 9), (0, 8, 8), (0, 8, 7), (0, 8, 6), (0, 8, 5), (0, 8, 4), (0, 8, 3), (0, 8, 2), (0, 8, 1)] [(431, 0, 41)] [])) (hu.2.trans ap_ap) ?_
  show zx p l e _ s m _ below meth c g 8 _ _ _ _ 816 [(5, .int 0), (4, .int 0), (3, .ref (b + 431)), (2, .ref (b + 405)), (1, .ref (b + 0)), (0, .ref bS)] _
  refine z_seti (y := 41) hu.1 ?_
  refine z_istore (lv' := [(6, .int 41), (5, .int 0), (4, .int 0), (3, .ref (b + 431)), (2, .ref (b + 405)), (1, .ref (b + 0)), (0, .ref bS)]) B dL_law_816 (by decide) rfl ?_
  refine z_aload_n B dL_law_818 rfl 4 rfl ?_
  refine z_cVi (As := []) (rest := []) B cw_L_80 cx_10 dL_law_819 (ci_X9_thrown_95 l (σ := (ap b σ [(405, 1, 41), (405, 1, 40), (405, 1, 39), (405, 1, 38), (405, 1, 37), (405, 1, 36), (405, 1, 35), (405, 1, 34), (405, 1, 33), (405, 1, 32), (405, 1, 31), (405, 1, 30), (405, 1, 29), (405, 1, 28), (405, 1, 27), (405, 1, 26), (405, 1, 25), (405, 1, 24), (405, 1, 23), (405, 1, 22), (405, 1, 21), (405, 1, 20), (405, 1, 19), (405, 1, 18), (405, 1, 17), (405, 1, 16), (405, 1, 15), (405, 1, 14), (405, 1, 13), (405, 1, 12), (405, 1, 11), (405, 1, 10), (405, 1, 9), (405, 1, 8), (405, 1, 7), (405, 1, 6), (405, 1, 5), (405, 1, 4), (405, 1, 3), (405, 1, 2), (405, 1, 1), (405, 0, 0), (0, 8, 41), (0, 8, 40), (0, 8, 39), (0, 8, 38), (0, 8, 37), (0, 8, 36), (0, 8, 35), (0, 8, 34), (0, 8, 33), (0, 8, 32), (0, 8, 31), (0, 8, 30), (0, 8, 29), (0, 8, 28), (0, 8, 27), (0, 8, 26), (0, 8, 25), (0, 8, 24), (0, 8, 23), (0, 8, 22), (0, 8, 21), (0, 8, 20), (0, 8, 19), (0, 8, 18), (0, 8, 17), (0, 8, 16), (0, 8, 15), (0, 8, 14), (0, 8, 13), (0, 8, 12), (0, 8, 11), (0, 8, 10), (0, 8, 9), (0, 8, 8), (0, 8, 7), (0, 8, 6), (0, 8, 5), (0, 8, 4), (0, 8, 3), (0, 8, 2), (0, 8, 1)] [(431, 0, 41)] [])) (b := b) (lyA hK) (rI_at 405 0 rfl)) (lKA (hk_K hK 405 rfl rfl)) rfl (by decide) rfl (Nat.le_of_ble_eq_true rfl) (by decide) (fun r u hu => ?_)
  refine z_eqs (σ' := (ap b σ [(405, 1, 41), (405, 1, 40), (405, 1, 39), (405, 1, 38), (405, 1, 37), (405, 1, 36), (405, 1, 35), (405, 1, 34), (405, 1, 33), (405, 1, 32), (405, 1, 31), (405, 1, 30), (405, 1, 29), (405, 1, 28), (405, 1, 27), (405, 1, 26), (405, 1, 25), (405, 1, 24), (405, 1, 23), (405, 1, 22), (405, 1, 21), (405, 1, 20), (405, 1, 19), (405, 1, 18), (405, 1, 17), (405, 1, 16), (405, 1, 15), (405, 1, 14), (405, 1, 13), (405, 1, 12), (405, 1, 11), (405, 1, 10), (405, 1, 9), (405, 1, 8), (405, 1, 7), (405, 1, 6), (405, 1, 5), (405, 1, 4), (405, 1, 3), (405, 1, 2), (405, 1, 1), (405, 0, 0), (0, 8, 41), (0, 8, 40), (0, 8, 39), (0, 8, 38), (0, 8, 37), (0, 8, 36), (0, 8, 35), (0, 8, 34), (0, 8, 33), (0, 8, 32), (0, 8, 31), (0, 8, 30), (0, 8, 29), (0, 8, 28), (0, 8, 27), (0, 8, 26), (0, 8, 25), (0, 8, 24), (0, 8, 23), (0, 8, 22), (0, 8, 21), (0, 8, 20), (0, 8, 19), (0, 8, 18), (0, 8, 17), (0, 8, 16), (0, 8, 15), (0, 8, 14), (0, 8, 13), (0, 8, 12), (0, 8, 11), (0, 8, 10), (0, 8, 9), (0, 8, 8), (0, 8, 7), (0, 8, 6), (0, 8, 5), (0, 8, 4), (0, 8, 3), (0, 8, 2), (0, 8, 1)] [(431, 0, 41)] [])) hu.2 ?_
  show zx p l e _ s m _ below meth c g 8 _ _ _ _ 822 [(6, .int 41), (5, .int 0), (4, .int 0), (3, .ref (b + 431)), (2, .ref (b + 405)), (1, .ref (b + 0)), (0, .ref bS)] _
  refine z_seti (y := 0) hu.1 ?_
  refine z_iload B dL_law_822 1 rfl ?_
  refine z_icmp_eq (tgt := 829) B dL_law_824 (by decide) (fun _ => ?_) (fun h => absurd (by decide) h)
  refine z_iload B dL_law_829 1 rfl ?_
  refine z_if_ne (tgt := 846) B dL_law_831 (by decide) (fun h => absurd (by decide) h) (fun _ => ?_)
  refine z_aload_n B dL_law_834 rfl 3 rfl ?_
  refine z_iconst (v := 0) B dL_law_835 (by decide) ?_
  refine z_lald (j := 0) (x := 41) B (lKA (hk_K hK 431 rfl rfl)) (by decide) (in_of (lNA (hk_N hK 431 rfl rfl)) (show ¬ ((0 : Int32) < 0 ∨ 1 ≤ (0 : Int32).toNatClampNeg) by decide)) (rJ_at 431 0 rfl) dL_law_836 ?_
  refine z_iload B dL_law_837 0 rfl ?_
  refine z_i2l (v := 41) B dL_law_839 (by decide) ?_
  refine z_lcmp (v := 0) B dL_law_840 (by decide) ?_
  refine z_if_eq (tgt := 846) B dL_law_841 (by decide) (fun _ => ?_) (fun h => absurd (by decide) h)
  refine z_goto (tgt := 1395) B dL_law_846 (by decide) ?_
  exact z_widen (Nat.le_of_ble_eq_true rfl) (Nat.le_of_ble_eq_true rfl) (z_sub _ [2, 6] rfl (kk _))
set_option maxRecDepth 100000 in
set_option maxHeartbeats 4000000 in
theorem lf_11_373 {p : Program} {l : Launch} {e : Env} {s : State} {m : MethodId} {args : Array Value} {below : List Frame} {meth : Method} {c : Code} {g : gx_T} {Q : State → Prop} {σ : sx_T} {b t bS : Nat} {xs : Nat → Int32} (hlt : l.stackTraces = false) (B : zx_B p s m args meth c code RL 8 g) (hX : va_X bS 6 xs s s.heap) (hbl : bS < s.heap.size) (hbA : ¬ gx_b g ≤ bS) (hF : fz_P b t σ) (h_x1 : xs 1 = 42) (kk : ∀ σ', zx p l e room_1 s m args below meth c g 8 600002 7302232 Q σ' 1395 [(4, .int 0), (0, .ref bS)] []) : zx p l e room_1 s m args below meth c g 8 500 100000 Q σ 793 [(4, .int 0), (3, .ref (b + 431)), (2, .ref (b + 405)), (1, .ref (b + 0)), (0, .ref bS)] [] := by
  have hK := fz_lay hF
  refine z_eqs (σ' := (ap b σ [] [] [])) rfl ?_
  refine z_aload_n B dL_law_793 rfl 3 rfl ?_
  refine z_aload_n B dL_law_794 rfl 4 rfl ?_
  refine z_iload B dL_law_795 0 rfl ?_
  refine z_iconst (v := 1) B dL_law_797 (by decide) ?_
  refine z_iadd B dL_law_798 ?_
  refine z_seti (y := 1) (by decide) ?_
  refine z_sld (j := 1) (x := 42) B hX hbl hbA (by decide) (show ¬ ((1 : Int32) < 0 ∨ 6 ≤ (1 : Int32).toNatClampNeg) by decide) h_x1 dL_law_799 ?_
  refine z_aload_n B dL_law_800 rfl 1 rfl ?_
  refine z_cSWi (As := [.ref (b + 0), .int 42, .ref (b + 431)]) (rest := []) B cw_L_121 dL_law_801 (ci_L_tick_1128 l (σ := (ap b σ [] [] [])) (b := b) (lyA hK) (rI_at 0 7 (fz_I hF 0 7 rfl rfl)) (rI_at 0 8 (fz_I hF 0 8 rfl rfl)) (rI_at 4 2 (fz_I hF 4 2 rfl rfl)) (rR_at 0 3 (fz_R hF 0 3 rfl rfl))) rfl (by decide) rfl (Nat.le_of_ble_eq_true rfl) (by decide) (fun r u hu => ?_)
  refine z_eqs (σ' := (ap b σ [(0, 8, 42), (0, 8, 41), (0, 8, 40), (0, 8, 39), (0, 8, 38), (0, 8, 37), (0, 8, 36), (0, 8, 35), (0, 8, 34), (0, 8, 33), (0, 8, 32), (0, 8, 31), (0, 8, 30), (0, 8, 29), (0, 8, 28), (0, 8, 27), (0, 8, 26), (0, 8, 25), (0, 8, 24), (0, 8, 23), (0, 8, 22), (0, 8, 21), (0, 8, 20), (0, 8, 19), (0, 8, 18), (0, 8, 17), (0, 8, 16), (0, 8, 15), (0, 8, 14), (0, 8, 13), (0, 8, 12), (0, 8, 11), (0, 8, 10), (0, 8, 9), (0, 8, 8), (0, 8, 7), (0, 8, 6), (0, 8, 5), (0, 8, 4), (0, 8, 3), (0, 8, 2), (0, 8, 1)] [(431, 0, 42)] [])) (hu.2.trans ap_ap) ?_
  show zx p l e _ s m _ below meth c g 8 _ _ _ _ 804 [(4, .int 0), (3, .ref (b + 431)), (2, .ref (b + 405)), (1, .ref (b + 0)), (0, .ref bS)] _
  refine z_seti (y := 0) hu.1 ?_
  refine z_istore (lv' := [(5, .int 0), (4, .int 0), (3, .ref (b + 431)), (2, .ref (b + 405)), (1, .ref (b + 0)), (0, .ref bS)]) B dL_law_804 (by decide) rfl ?_
  refine z_aload_n B dL_law_806 rfl 3 rfl ?_
  refine z_aload_n B dL_law_807 rfl 5 rfl ?_
  refine z_iload B dL_law_808 1 rfl ?_
  refine z_iconst (v := 1) B dL_law_810 (by decide) ?_
  refine z_iadd B dL_law_811 ?_
  refine z_seti (y := 1) (by decide) ?_
  refine z_sld (j := 1) (x := 42) B hX hbl hbA (by decide) (show ¬ ((1 : Int32) < 0 ∨ 6 ≤ (1 : Int32).toNatClampNeg) by decide) h_x1 dL_law_812 ?_
  refine z_cVi (As := [.int 42]) (rest := []) B cw_L_123 cx_10 dL_law_813 (ci_X9_tick_1131 l (σ := (ap b σ [(0, 8, 42), (0, 8, 41), (0, 8, 40), (0, 8, 39), (0, 8, 38), (0, 8, 37), (0, 8, 36), (0, 8, 35), (0, 8, 34), (0, 8, 33), (0, 8, 32), (0, 8, 31), (0, 8, 30), (0, 8, 29), (0, 8, 28), (0, 8, 27), (0, 8, 26), (0, 8, 25), (0, 8, 24), (0, 8, 23), (0, 8, 22), (0, 8, 21), (0, 8, 20), (0, 8, 19), (0, 8, 18), (0, 8, 17), (0, 8, 16), (0, 8, 15), (0, 8, 14), (0, 8, 13), (0, 8, 12), (0, 8, 11), (0, 8, 10), (0, 8, 9), (0, 8, 8), (0, 8, 7), (0, 8, 6), (0, 8, 5), (0, 8, 4), (0, 8, 3), (0, 8, 2), (0, 8, 1)] [(431, 0, 42)] [])) (b := b) (lyA hK) (rI_at 405 1 (fz_I hF 405 1 rfl rfl)) (rI_at 405 6 (fz_I hF 405 6 rfl rfl)) (rI_at 405 16 (fz_I hF 405 16 rfl rfl))) (lKA (hk_K hK 405 rfl rfl)) rfl (by decide) rfl (Nat.le_of_ble_eq_true rfl) (by decide) (fun r u hu => ?_)
  refine z_eqs (σ' := (ap b σ [(405, 1, 42), (405, 1, 41), (405, 1, 40), (405, 1, 39), (405, 1, 38), (405, 1, 37), (405, 1, 36), (405, 1, 35), (405, 1, 34), (405, 1, 33), (405, 1, 32), (405, 1, 31), (405, 1, 30), (405, 1, 29), (405, 1, 28), (405, 1, 27), (405, 1, 26), (405, 1, 25), (405, 1, 24), (405, 1, 23), (405, 1, 22), (405, 1, 21), (405, 1, 20), (405, 1, 19), (405, 1, 18), (405, 1, 17), (405, 1, 16), (405, 1, 15), (405, 1, 14), (405, 1, 13), (405, 1, 12), (405, 1, 11), (405, 1, 10), (405, 1, 9), (405, 1, 8), (405, 1, 7), (405, 1, 6), (405, 1, 5), (405, 1, 4), (405, 1, 3), (405, 1, 2), (405, 1, 1), (405, 0, 0), (0, 8, 42), (0, 8, 41), (0, 8, 40), (0, 8, 39), (0, 8, 38), (0, 8, 37), (0, 8, 36), (0, 8, 35), (0, 8, 34), (0, 8, 33), (0, 8, 32), (0, 8, 31), (0, 8, 30), (0, 8, 29), (0, 8, 28), (0, 8, 27), (0, 8, 26), (0, 8, 25), (0, 8, 24), (0, 8, 23), (0, 8, 22), (0, 8, 21), (0, 8, 20), (0, 8, 19), (0, 8, 18), (0, 8, 17), (0, 8, 16), (0, 8, 15), (0, 8, 14), (0, 8, 13), (0, 8, 12), (0, 8, 11), (0, 8, 10), (0, 8, 9), (0, 8, 8), (0, 8, 7), (0, 8, 6), (0, 8, 5), (0, 8, 4), (0, 8, 3), (0, 8, 2), (0, 8, 1)] [(431, 0, 42)] [])) (hu.2.trans ap_ap) ?_
  show zx p l e _ s m _ below meth c g 8 _ _ _ _ 816 [(5, .int 0), (4, .int 0), (3, .ref (b + 431)), (2, .ref (b + 405)), (1, .ref (b + 0)), (0, .ref bS)] _
  refine z_seti (y := 42) hu.1 ?_
  refine z_istore (lv' := [(6, .int 42), (5, .int 0), (4, .int 0), (3, .ref (b + 431)), (2, .ref (b + 405)), (1, .ref (b + 0)), (0, .ref bS)]) B dL_law_816 (by decide) rfl ?_
  refine z_aload_n B dL_law_818 rfl 4 rfl ?_
  refine z_cVi (As := []) (rest := []) B cw_L_80 cx_10 dL_law_819 (ci_X9_thrown_95 l (σ := (ap b σ [(405, 1, 42), (405, 1, 41), (405, 1, 40), (405, 1, 39), (405, 1, 38), (405, 1, 37), (405, 1, 36), (405, 1, 35), (405, 1, 34), (405, 1, 33), (405, 1, 32), (405, 1, 31), (405, 1, 30), (405, 1, 29), (405, 1, 28), (405, 1, 27), (405, 1, 26), (405, 1, 25), (405, 1, 24), (405, 1, 23), (405, 1, 22), (405, 1, 21), (405, 1, 20), (405, 1, 19), (405, 1, 18), (405, 1, 17), (405, 1, 16), (405, 1, 15), (405, 1, 14), (405, 1, 13), (405, 1, 12), (405, 1, 11), (405, 1, 10), (405, 1, 9), (405, 1, 8), (405, 1, 7), (405, 1, 6), (405, 1, 5), (405, 1, 4), (405, 1, 3), (405, 1, 2), (405, 1, 1), (405, 0, 0), (0, 8, 42), (0, 8, 41), (0, 8, 40), (0, 8, 39), (0, 8, 38), (0, 8, 37), (0, 8, 36), (0, 8, 35), (0, 8, 34), (0, 8, 33), (0, 8, 32), (0, 8, 31), (0, 8, 30), (0, 8, 29), (0, 8, 28), (0, 8, 27), (0, 8, 26), (0, 8, 25), (0, 8, 24), (0, 8, 23), (0, 8, 22), (0, 8, 21), (0, 8, 20), (0, 8, 19), (0, 8, 18), (0, 8, 17), (0, 8, 16), (0, 8, 15), (0, 8, 14), (0, 8, 13), (0, 8, 12), (0, 8, 11), (0, 8, 10), (0, 8, 9), (0, 8, 8), (0, 8, 7), (0, 8, 6), (0, 8, 5), (0, 8, 4), (0, 8, 3), (0, 8, 2), (0, 8, 1)] [(431, 0, 42)] [])) (b := b) (lyA hK) (rI_at 405 0 rfl)) (lKA (hk_K hK 405 rfl rfl)) rfl (by decide) rfl (Nat.le_of_ble_eq_true rfl) (by decide) (fun r u hu => ?_)
  refine z_eqs (σ' := (ap b σ [(405, 1, 42), (405, 1, 41), (405, 1, 40), (405, 1, 39), (405, 1, 38), (405, 1, 37), (405, 1, 36), (405, 1, 35), (405, 1, 34), (405, 1, 33), (405, 1, 32), (405, 1, 31), (405, 1, 30), (405, 1, 29), (405, 1, 28), (405, 1, 27), (405, 1, 26), (405, 1, 25), (405, 1, 24), (405, 1, 23), (405, 1, 22), (405, 1, 21), (405, 1, 20), (405, 1, 19), (405, 1, 18), (405, 1, 17), (405, 1, 16), (405, 1, 15), (405, 1, 14), (405, 1, 13), (405, 1, 12), (405, 1, 11), (405, 1, 10), (405, 1, 9), (405, 1, 8), (405, 1, 7), (405, 1, 6), (405, 1, 5), (405, 1, 4), (405, 1, 3), (405, 1, 2), (405, 1, 1), (405, 0, 0), (0, 8, 42), (0, 8, 41), (0, 8, 40), (0, 8, 39), (0, 8, 38), (0, 8, 37), (0, 8, 36), (0, 8, 35), (0, 8, 34), (0, 8, 33), (0, 8, 32), (0, 8, 31), (0, 8, 30), (0, 8, 29), (0, 8, 28), (0, 8, 27), (0, 8, 26), (0, 8, 25), (0, 8, 24), (0, 8, 23), (0, 8, 22), (0, 8, 21), (0, 8, 20), (0, 8, 19), (0, 8, 18), (0, 8, 17), (0, 8, 16), (0, 8, 15), (0, 8, 14), (0, 8, 13), (0, 8, 12), (0, 8, 11), (0, 8, 10), (0, 8, 9), (0, 8, 8), (0, 8, 7), (0, 8, 6), (0, 8, 5), (0, 8, 4), (0, 8, 3), (0, 8, 2), (0, 8, 1)] [(431, 0, 42)] [])) hu.2 ?_
  show zx p l e _ s m _ below meth c g 8 _ _ _ _ 822 [(6, .int 42), (5, .int 0), (4, .int 0), (3, .ref (b + 431)), (2, .ref (b + 405)), (1, .ref (b + 0)), (0, .ref bS)] _
  refine z_seti (y := 0) hu.1 ?_
  refine z_iload B dL_law_822 1 rfl ?_
  refine z_icmp_eq (tgt := 829) B dL_law_824 (by decide) (fun _ => ?_) (fun h => absurd (by decide) h)
  refine z_iload B dL_law_829 1 rfl ?_
  refine z_if_ne (tgt := 846) B dL_law_831 (by decide) (fun h => absurd (by decide) h) (fun _ => ?_)
  refine z_aload_n B dL_law_834 rfl 3 rfl ?_
  refine z_iconst (v := 0) B dL_law_835 (by decide) ?_
  refine z_lald (j := 0) (x := 42) B (lKA (hk_K hK 431 rfl rfl)) (by decide) (in_of (lNA (hk_N hK 431 rfl rfl)) (show ¬ ((0 : Int32) < 0 ∨ 1 ≤ (0 : Int32).toNatClampNeg) by decide)) (rJ_at 431 0 rfl) dL_law_836 ?_
  refine z_iload B dL_law_837 0 rfl ?_
  refine z_i2l (v := 42) B dL_law_839 (by decide) ?_
  refine z_lcmp (v := 0) B dL_law_840 (by decide) ?_
  refine z_if_eq (tgt := 846) B dL_law_841 (by decide) (fun _ => ?_) (fun h => absurd (by decide) h)
  refine z_goto (tgt := 1395) B dL_law_846 (by decide) ?_
  exact z_widen (Nat.le_of_ble_eq_true rfl) (Nat.le_of_ble_eq_true rfl) (z_sub _ [2, 6] rfl (kk _))
set_option maxRecDepth 100000 in
set_option maxHeartbeats 4000000 in
theorem lf_11_374 {p : Program} {l : Launch} {e : Env} {s : State} {m : MethodId} {args : Array Value} {below : List Frame} {meth : Method} {c : Code} {g : gx_T} {Q : State → Prop} {σ : sx_T} {b t bS : Nat} {xs : Nat → Int32} (hlt : l.stackTraces = false) (B : zx_B p s m args meth c code RL 8 g) (hX : va_X bS 6 xs s s.heap) (hbl : bS < s.heap.size) (hbA : ¬ gx_b g ≤ bS) (hF : fz_P b t σ) (h_x1 : xs 1 = 43) (kk : ∀ σ', zx p l e room_1 s m args below meth c g 8 600002 7302232 Q σ' 1395 [(4, .int 0), (0, .ref bS)] []) : zx p l e room_1 s m args below meth c g 8 500 100000 Q σ 793 [(4, .int 0), (3, .ref (b + 431)), (2, .ref (b + 405)), (1, .ref (b + 0)), (0, .ref bS)] [] := by
  have hK := fz_lay hF
  refine z_eqs (σ' := (ap b σ [] [] [])) rfl ?_
  refine z_aload_n B dL_law_793 rfl 3 rfl ?_
  refine z_aload_n B dL_law_794 rfl 4 rfl ?_
  refine z_iload B dL_law_795 0 rfl ?_
  refine z_iconst (v := 1) B dL_law_797 (by decide) ?_
  refine z_iadd B dL_law_798 ?_
  refine z_seti (y := 1) (by decide) ?_
  refine z_sld (j := 1) (x := 43) B hX hbl hbA (by decide) (show ¬ ((1 : Int32) < 0 ∨ 6 ≤ (1 : Int32).toNatClampNeg) by decide) h_x1 dL_law_799 ?_
  refine z_aload_n B dL_law_800 rfl 1 rfl ?_
  refine z_cSWi (As := [.ref (b + 0), .int 43, .ref (b + 431)]) (rest := []) B cw_L_121 dL_law_801 (ci_L_tick_1133 l (σ := (ap b σ [] [] [])) (b := b) (lyA hK) (rI_at 0 7 (fz_I hF 0 7 rfl rfl)) (rI_at 0 8 (fz_I hF 0 8 rfl rfl)) (rI_at 4 2 (fz_I hF 4 2 rfl rfl)) (rR_at 0 3 (fz_R hF 0 3 rfl rfl))) rfl (by decide) rfl (Nat.le_of_ble_eq_true rfl) (by decide) (fun r u hu => ?_)
  refine z_eqs (σ' := (ap b σ [(0, 8, 43), (0, 8, 42), (0, 8, 41), (0, 8, 40), (0, 8, 39), (0, 8, 38), (0, 8, 37), (0, 8, 36), (0, 8, 35), (0, 8, 34), (0, 8, 33), (0, 8, 32), (0, 8, 31), (0, 8, 30), (0, 8, 29), (0, 8, 28), (0, 8, 27), (0, 8, 26), (0, 8, 25), (0, 8, 24), (0, 8, 23), (0, 8, 22), (0, 8, 21), (0, 8, 20), (0, 8, 19), (0, 8, 18), (0, 8, 17), (0, 8, 16), (0, 8, 15), (0, 8, 14), (0, 8, 13), (0, 8, 12), (0, 8, 11), (0, 8, 10), (0, 8, 9), (0, 8, 8), (0, 8, 7), (0, 8, 6), (0, 8, 5), (0, 8, 4), (0, 8, 3), (0, 8, 2), (0, 8, 1)] [(431, 0, 43)] [])) (hu.2.trans ap_ap) ?_
  show zx p l e _ s m _ below meth c g 8 _ _ _ _ 804 [(4, .int 0), (3, .ref (b + 431)), (2, .ref (b + 405)), (1, .ref (b + 0)), (0, .ref bS)] _
  refine z_seti (y := 0) hu.1 ?_
  refine z_istore (lv' := [(5, .int 0), (4, .int 0), (3, .ref (b + 431)), (2, .ref (b + 405)), (1, .ref (b + 0)), (0, .ref bS)]) B dL_law_804 (by decide) rfl ?_
  refine z_aload_n B dL_law_806 rfl 3 rfl ?_
  refine z_aload_n B dL_law_807 rfl 5 rfl ?_
  refine z_iload B dL_law_808 1 rfl ?_
  refine z_iconst (v := 1) B dL_law_810 (by decide) ?_
  refine z_iadd B dL_law_811 ?_
  refine z_seti (y := 1) (by decide) ?_
  refine z_sld (j := 1) (x := 43) B hX hbl hbA (by decide) (show ¬ ((1 : Int32) < 0 ∨ 6 ≤ (1 : Int32).toNatClampNeg) by decide) h_x1 dL_law_812 ?_
  refine z_cVi (As := [.int 43]) (rest := []) B cw_L_123 cx_10 dL_law_813 (ci_X9_tick_1136 l (σ := (ap b σ [(0, 8, 43), (0, 8, 42), (0, 8, 41), (0, 8, 40), (0, 8, 39), (0, 8, 38), (0, 8, 37), (0, 8, 36), (0, 8, 35), (0, 8, 34), (0, 8, 33), (0, 8, 32), (0, 8, 31), (0, 8, 30), (0, 8, 29), (0, 8, 28), (0, 8, 27), (0, 8, 26), (0, 8, 25), (0, 8, 24), (0, 8, 23), (0, 8, 22), (0, 8, 21), (0, 8, 20), (0, 8, 19), (0, 8, 18), (0, 8, 17), (0, 8, 16), (0, 8, 15), (0, 8, 14), (0, 8, 13), (0, 8, 12), (0, 8, 11), (0, 8, 10), (0, 8, 9), (0, 8, 8), (0, 8, 7), (0, 8, 6), (0, 8, 5), (0, 8, 4), (0, 8, 3), (0, 8, 2), (0, 8, 1)] [(431, 0, 43)] [])) (b := b) (lyA hK) (rI_at 405 1 (fz_I hF 405 1 rfl rfl)) (rI_at 405 6 (fz_I hF 405 6 rfl rfl)) (rI_at 405 16 (fz_I hF 405 16 rfl rfl))) (lKA (hk_K hK 405 rfl rfl)) rfl (by decide) rfl (Nat.le_of_ble_eq_true rfl) (by decide) (fun r u hu => ?_)
  refine z_eqs (σ' := (ap b σ [(405, 1, 43), (405, 1, 42), (405, 1, 41), (405, 1, 40), (405, 1, 39), (405, 1, 38), (405, 1, 37), (405, 1, 36), (405, 1, 35), (405, 1, 34), (405, 1, 33), (405, 1, 32), (405, 1, 31), (405, 1, 30), (405, 1, 29), (405, 1, 28), (405, 1, 27), (405, 1, 26), (405, 1, 25), (405, 1, 24), (405, 1, 23), (405, 1, 22), (405, 1, 21), (405, 1, 20), (405, 1, 19), (405, 1, 18), (405, 1, 17), (405, 1, 16), (405, 1, 15), (405, 1, 14), (405, 1, 13), (405, 1, 12), (405, 1, 11), (405, 1, 10), (405, 1, 9), (405, 1, 8), (405, 1, 7), (405, 1, 6), (405, 1, 5), (405, 1, 4), (405, 1, 3), (405, 1, 2), (405, 1, 1), (405, 0, 0), (0, 8, 43), (0, 8, 42), (0, 8, 41), (0, 8, 40), (0, 8, 39), (0, 8, 38), (0, 8, 37), (0, 8, 36), (0, 8, 35), (0, 8, 34), (0, 8, 33), (0, 8, 32), (0, 8, 31), (0, 8, 30), (0, 8, 29), (0, 8, 28), (0, 8, 27), (0, 8, 26), (0, 8, 25), (0, 8, 24), (0, 8, 23), (0, 8, 22), (0, 8, 21), (0, 8, 20), (0, 8, 19), (0, 8, 18), (0, 8, 17), (0, 8, 16), (0, 8, 15), (0, 8, 14), (0, 8, 13), (0, 8, 12), (0, 8, 11), (0, 8, 10), (0, 8, 9), (0, 8, 8), (0, 8, 7), (0, 8, 6), (0, 8, 5), (0, 8, 4), (0, 8, 3), (0, 8, 2), (0, 8, 1)] [(431, 0, 43)] [])) (hu.2.trans ap_ap) ?_
  show zx p l e _ s m _ below meth c g 8 _ _ _ _ 816 [(5, .int 0), (4, .int 0), (3, .ref (b + 431)), (2, .ref (b + 405)), (1, .ref (b + 0)), (0, .ref bS)] _
  refine z_seti (y := 43) hu.1 ?_
  refine z_istore (lv' := [(6, .int 43), (5, .int 0), (4, .int 0), (3, .ref (b + 431)), (2, .ref (b + 405)), (1, .ref (b + 0)), (0, .ref bS)]) B dL_law_816 (by decide) rfl ?_
  refine z_aload_n B dL_law_818 rfl 4 rfl ?_
  refine z_cVi (As := []) (rest := []) B cw_L_80 cx_10 dL_law_819 (ci_X9_thrown_95 l (σ := (ap b σ [(405, 1, 43), (405, 1, 42), (405, 1, 41), (405, 1, 40), (405, 1, 39), (405, 1, 38), (405, 1, 37), (405, 1, 36), (405, 1, 35), (405, 1, 34), (405, 1, 33), (405, 1, 32), (405, 1, 31), (405, 1, 30), (405, 1, 29), (405, 1, 28), (405, 1, 27), (405, 1, 26), (405, 1, 25), (405, 1, 24), (405, 1, 23), (405, 1, 22), (405, 1, 21), (405, 1, 20), (405, 1, 19), (405, 1, 18), (405, 1, 17), (405, 1, 16), (405, 1, 15), (405, 1, 14), (405, 1, 13), (405, 1, 12), (405, 1, 11), (405, 1, 10), (405, 1, 9), (405, 1, 8), (405, 1, 7), (405, 1, 6), (405, 1, 5), (405, 1, 4), (405, 1, 3), (405, 1, 2), (405, 1, 1), (405, 0, 0), (0, 8, 43), (0, 8, 42), (0, 8, 41), (0, 8, 40), (0, 8, 39), (0, 8, 38), (0, 8, 37), (0, 8, 36), (0, 8, 35), (0, 8, 34), (0, 8, 33), (0, 8, 32), (0, 8, 31), (0, 8, 30), (0, 8, 29), (0, 8, 28), (0, 8, 27), (0, 8, 26), (0, 8, 25), (0, 8, 24), (0, 8, 23), (0, 8, 22), (0, 8, 21), (0, 8, 20), (0, 8, 19), (0, 8, 18), (0, 8, 17), (0, 8, 16), (0, 8, 15), (0, 8, 14), (0, 8, 13), (0, 8, 12), (0, 8, 11), (0, 8, 10), (0, 8, 9), (0, 8, 8), (0, 8, 7), (0, 8, 6), (0, 8, 5), (0, 8, 4), (0, 8, 3), (0, 8, 2), (0, 8, 1)] [(431, 0, 43)] [])) (b := b) (lyA hK) (rI_at 405 0 rfl)) (lKA (hk_K hK 405 rfl rfl)) rfl (by decide) rfl (Nat.le_of_ble_eq_true rfl) (by decide) (fun r u hu => ?_)
  refine z_eqs (σ' := (ap b σ [(405, 1, 43), (405, 1, 42), (405, 1, 41), (405, 1, 40), (405, 1, 39), (405, 1, 38), (405, 1, 37), (405, 1, 36), (405, 1, 35), (405, 1, 34), (405, 1, 33), (405, 1, 32), (405, 1, 31), (405, 1, 30), (405, 1, 29), (405, 1, 28), (405, 1, 27), (405, 1, 26), (405, 1, 25), (405, 1, 24), (405, 1, 23), (405, 1, 22), (405, 1, 21), (405, 1, 20), (405, 1, 19), (405, 1, 18), (405, 1, 17), (405, 1, 16), (405, 1, 15), (405, 1, 14), (405, 1, 13), (405, 1, 12), (405, 1, 11), (405, 1, 10), (405, 1, 9), (405, 1, 8), (405, 1, 7), (405, 1, 6), (405, 1, 5), (405, 1, 4), (405, 1, 3), (405, 1, 2), (405, 1, 1), (405, 0, 0), (0, 8, 43), (0, 8, 42), (0, 8, 41), (0, 8, 40), (0, 8, 39), (0, 8, 38), (0, 8, 37), (0, 8, 36), (0, 8, 35), (0, 8, 34), (0, 8, 33), (0, 8, 32), (0, 8, 31), (0, 8, 30), (0, 8, 29), (0, 8, 28), (0, 8, 27), (0, 8, 26), (0, 8, 25), (0, 8, 24), (0, 8, 23), (0, 8, 22), (0, 8, 21), (0, 8, 20), (0, 8, 19), (0, 8, 18), (0, 8, 17), (0, 8, 16), (0, 8, 15), (0, 8, 14), (0, 8, 13), (0, 8, 12), (0, 8, 11), (0, 8, 10), (0, 8, 9), (0, 8, 8), (0, 8, 7), (0, 8, 6), (0, 8, 5), (0, 8, 4), (0, 8, 3), (0, 8, 2), (0, 8, 1)] [(431, 0, 43)] [])) hu.2 ?_
  show zx p l e _ s m _ below meth c g 8 _ _ _ _ 822 [(6, .int 43), (5, .int 0), (4, .int 0), (3, .ref (b + 431)), (2, .ref (b + 405)), (1, .ref (b + 0)), (0, .ref bS)] _
  refine z_seti (y := 0) hu.1 ?_
  refine z_iload B dL_law_822 1 rfl ?_
  refine z_icmp_eq (tgt := 829) B dL_law_824 (by decide) (fun _ => ?_) (fun h => absurd (by decide) h)
  refine z_iload B dL_law_829 1 rfl ?_
  refine z_if_ne (tgt := 846) B dL_law_831 (by decide) (fun h => absurd (by decide) h) (fun _ => ?_)
  refine z_aload_n B dL_law_834 rfl 3 rfl ?_
  refine z_iconst (v := 0) B dL_law_835 (by decide) ?_
  refine z_lald (j := 0) (x := 43) B (lKA (hk_K hK 431 rfl rfl)) (by decide) (in_of (lNA (hk_N hK 431 rfl rfl)) (show ¬ ((0 : Int32) < 0 ∨ 1 ≤ (0 : Int32).toNatClampNeg) by decide)) (rJ_at 431 0 rfl) dL_law_836 ?_
  refine z_iload B dL_law_837 0 rfl ?_
  refine z_i2l (v := 43) B dL_law_839 (by decide) ?_
  refine z_lcmp (v := 0) B dL_law_840 (by decide) ?_
  refine z_if_eq (tgt := 846) B dL_law_841 (by decide) (fun _ => ?_) (fun h => absurd (by decide) h)
  refine z_goto (tgt := 1395) B dL_law_846 (by decide) ?_
  exact z_widen (Nat.le_of_ble_eq_true rfl) (Nat.le_of_ble_eq_true rfl) (z_sub _ [2, 6] rfl (kk _))
set_option maxRecDepth 100000 in
set_option maxHeartbeats 4000000 in
theorem lf_11_375 {p : Program} {l : Launch} {e : Env} {s : State} {m : MethodId} {args : Array Value} {below : List Frame} {meth : Method} {c : Code} {g : gx_T} {Q : State → Prop} {σ : sx_T} {b t bS : Nat} {xs : Nat → Int32} (hlt : l.stackTraces = false) (B : zx_B p s m args meth c code RL 8 g) (hX : va_X bS 6 xs s s.heap) (hbl : bS < s.heap.size) (hbA : ¬ gx_b g ≤ bS) (hF : fz_P b t σ) (h_x1 : xs 1 = 44) (kk : ∀ σ', zx p l e room_1 s m args below meth c g 8 600002 7302232 Q σ' 1395 [(4, .int 0), (0, .ref bS)] []) : zx p l e room_1 s m args below meth c g 8 500 100000 Q σ 793 [(4, .int 0), (3, .ref (b + 431)), (2, .ref (b + 405)), (1, .ref (b + 0)), (0, .ref bS)] [] := by
  have hK := fz_lay hF
  refine z_eqs (σ' := (ap b σ [] [] [])) rfl ?_
  refine z_aload_n B dL_law_793 rfl 3 rfl ?_
  refine z_aload_n B dL_law_794 rfl 4 rfl ?_
  refine z_iload B dL_law_795 0 rfl ?_
  refine z_iconst (v := 1) B dL_law_797 (by decide) ?_
  refine z_iadd B dL_law_798 ?_
  refine z_seti (y := 1) (by decide) ?_
  refine z_sld (j := 1) (x := 44) B hX hbl hbA (by decide) (show ¬ ((1 : Int32) < 0 ∨ 6 ≤ (1 : Int32).toNatClampNeg) by decide) h_x1 dL_law_799 ?_
  refine z_aload_n B dL_law_800 rfl 1 rfl ?_
  refine z_cSWi (As := [.ref (b + 0), .int 44, .ref (b + 431)]) (rest := []) B cw_L_121 dL_law_801 (ci_L_tick_1138 l (σ := (ap b σ [] [] [])) (b := b) (lyA hK) (rI_at 0 7 (fz_I hF 0 7 rfl rfl)) (rI_at 0 8 (fz_I hF 0 8 rfl rfl)) (rI_at 4 2 (fz_I hF 4 2 rfl rfl)) (rR_at 0 3 (fz_R hF 0 3 rfl rfl))) rfl (by decide) rfl (Nat.le_of_ble_eq_true rfl) (by decide) (fun r u hu => ?_)
  refine z_eqs (σ' := (ap b σ [(0, 8, 44), (0, 8, 43), (0, 8, 42), (0, 8, 41), (0, 8, 40), (0, 8, 39), (0, 8, 38), (0, 8, 37), (0, 8, 36), (0, 8, 35), (0, 8, 34), (0, 8, 33), (0, 8, 32), (0, 8, 31), (0, 8, 30), (0, 8, 29), (0, 8, 28), (0, 8, 27), (0, 8, 26), (0, 8, 25), (0, 8, 24), (0, 8, 23), (0, 8, 22), (0, 8, 21), (0, 8, 20), (0, 8, 19), (0, 8, 18), (0, 8, 17), (0, 8, 16), (0, 8, 15), (0, 8, 14), (0, 8, 13), (0, 8, 12), (0, 8, 11), (0, 8, 10), (0, 8, 9), (0, 8, 8), (0, 8, 7), (0, 8, 6), (0, 8, 5), (0, 8, 4), (0, 8, 3), (0, 8, 2), (0, 8, 1)] [(431, 0, 44)] [])) (hu.2.trans ap_ap) ?_
  show zx p l e _ s m _ below meth c g 8 _ _ _ _ 804 [(4, .int 0), (3, .ref (b + 431)), (2, .ref (b + 405)), (1, .ref (b + 0)), (0, .ref bS)] _
  refine z_seti (y := 0) hu.1 ?_
  refine z_istore (lv' := [(5, .int 0), (4, .int 0), (3, .ref (b + 431)), (2, .ref (b + 405)), (1, .ref (b + 0)), (0, .ref bS)]) B dL_law_804 (by decide) rfl ?_
  refine z_aload_n B dL_law_806 rfl 3 rfl ?_
  refine z_aload_n B dL_law_807 rfl 5 rfl ?_
  refine z_iload B dL_law_808 1 rfl ?_
  refine z_iconst (v := 1) B dL_law_810 (by decide) ?_
  refine z_iadd B dL_law_811 ?_
  refine z_seti (y := 1) (by decide) ?_
  refine z_sld (j := 1) (x := 44) B hX hbl hbA (by decide) (show ¬ ((1 : Int32) < 0 ∨ 6 ≤ (1 : Int32).toNatClampNeg) by decide) h_x1 dL_law_812 ?_
  refine z_cVi (As := [.int 44]) (rest := []) B cw_L_123 cx_10 dL_law_813 (ci_X9_tick_1141 l (σ := (ap b σ [(0, 8, 44), (0, 8, 43), (0, 8, 42), (0, 8, 41), (0, 8, 40), (0, 8, 39), (0, 8, 38), (0, 8, 37), (0, 8, 36), (0, 8, 35), (0, 8, 34), (0, 8, 33), (0, 8, 32), (0, 8, 31), (0, 8, 30), (0, 8, 29), (0, 8, 28), (0, 8, 27), (0, 8, 26), (0, 8, 25), (0, 8, 24), (0, 8, 23), (0, 8, 22), (0, 8, 21), (0, 8, 20), (0, 8, 19), (0, 8, 18), (0, 8, 17), (0, 8, 16), (0, 8, 15), (0, 8, 14), (0, 8, 13), (0, 8, 12), (0, 8, 11), (0, 8, 10), (0, 8, 9), (0, 8, 8), (0, 8, 7), (0, 8, 6), (0, 8, 5), (0, 8, 4), (0, 8, 3), (0, 8, 2), (0, 8, 1)] [(431, 0, 44)] [])) (b := b) (lyA hK) (rI_at 405 1 (fz_I hF 405 1 rfl rfl)) (rI_at 405 6 (fz_I hF 405 6 rfl rfl)) (rI_at 405 16 (fz_I hF 405 16 rfl rfl))) (lKA (hk_K hK 405 rfl rfl)) rfl (by decide) rfl (Nat.le_of_ble_eq_true rfl) (by decide) (fun r u hu => ?_)
  refine z_eqs (σ' := (ap b σ [(405, 1, 44), (405, 1, 43), (405, 1, 42), (405, 1, 41), (405, 1, 40), (405, 1, 39), (405, 1, 38), (405, 1, 37), (405, 1, 36), (405, 1, 35), (405, 1, 34), (405, 1, 33), (405, 1, 32), (405, 1, 31), (405, 1, 30), (405, 1, 29), (405, 1, 28), (405, 1, 27), (405, 1, 26), (405, 1, 25), (405, 1, 24), (405, 1, 23), (405, 1, 22), (405, 1, 21), (405, 1, 20), (405, 1, 19), (405, 1, 18), (405, 1, 17), (405, 1, 16), (405, 1, 15), (405, 1, 14), (405, 1, 13), (405, 1, 12), (405, 1, 11), (405, 1, 10), (405, 1, 9), (405, 1, 8), (405, 1, 7), (405, 1, 6), (405, 1, 5), (405, 1, 4), (405, 1, 3), (405, 1, 2), (405, 1, 1), (405, 0, 0), (0, 8, 44), (0, 8, 43), (0, 8, 42), (0, 8, 41), (0, 8, 40), (0, 8, 39), (0, 8, 38), (0, 8, 37), (0, 8, 36), (0, 8, 35), (0, 8, 34), (0, 8, 33), (0, 8, 32), (0, 8, 31), (0, 8, 30), (0, 8, 29), (0, 8, 28), (0, 8, 27), (0, 8, 26), (0, 8, 25), (0, 8, 24), (0, 8, 23), (0, 8, 22), (0, 8, 21), (0, 8, 20), (0, 8, 19), (0, 8, 18), (0, 8, 17), (0, 8, 16), (0, 8, 15), (0, 8, 14), (0, 8, 13), (0, 8, 12), (0, 8, 11), (0, 8, 10), (0, 8, 9), (0, 8, 8), (0, 8, 7), (0, 8, 6), (0, 8, 5), (0, 8, 4), (0, 8, 3), (0, 8, 2), (0, 8, 1)] [(431, 0, 44)] [])) (hu.2.trans ap_ap) ?_
  show zx p l e _ s m _ below meth c g 8 _ _ _ _ 816 [(5, .int 0), (4, .int 0), (3, .ref (b + 431)), (2, .ref (b + 405)), (1, .ref (b + 0)), (0, .ref bS)] _
  refine z_seti (y := 44) hu.1 ?_
  refine z_istore (lv' := [(6, .int 44), (5, .int 0), (4, .int 0), (3, .ref (b + 431)), (2, .ref (b + 405)), (1, .ref (b + 0)), (0, .ref bS)]) B dL_law_816 (by decide) rfl ?_
  refine z_aload_n B dL_law_818 rfl 4 rfl ?_
  refine z_cVi (As := []) (rest := []) B cw_L_80 cx_10 dL_law_819 (ci_X9_thrown_95 l (σ := (ap b σ [(405, 1, 44), (405, 1, 43), (405, 1, 42), (405, 1, 41), (405, 1, 40), (405, 1, 39), (405, 1, 38), (405, 1, 37), (405, 1, 36), (405, 1, 35), (405, 1, 34), (405, 1, 33), (405, 1, 32), (405, 1, 31), (405, 1, 30), (405, 1, 29), (405, 1, 28), (405, 1, 27), (405, 1, 26), (405, 1, 25), (405, 1, 24), (405, 1, 23), (405, 1, 22), (405, 1, 21), (405, 1, 20), (405, 1, 19), (405, 1, 18), (405, 1, 17), (405, 1, 16), (405, 1, 15), (405, 1, 14), (405, 1, 13), (405, 1, 12), (405, 1, 11), (405, 1, 10), (405, 1, 9), (405, 1, 8), (405, 1, 7), (405, 1, 6), (405, 1, 5), (405, 1, 4), (405, 1, 3), (405, 1, 2), (405, 1, 1), (405, 0, 0), (0, 8, 44), (0, 8, 43), (0, 8, 42), (0, 8, 41), (0, 8, 40), (0, 8, 39), (0, 8, 38), (0, 8, 37), (0, 8, 36), (0, 8, 35), (0, 8, 34), (0, 8, 33), (0, 8, 32), (0, 8, 31), (0, 8, 30), (0, 8, 29), (0, 8, 28), (0, 8, 27), (0, 8, 26), (0, 8, 25), (0, 8, 24), (0, 8, 23), (0, 8, 22), (0, 8, 21), (0, 8, 20), (0, 8, 19), (0, 8, 18), (0, 8, 17), (0, 8, 16), (0, 8, 15), (0, 8, 14), (0, 8, 13), (0, 8, 12), (0, 8, 11), (0, 8, 10), (0, 8, 9), (0, 8, 8), (0, 8, 7), (0, 8, 6), (0, 8, 5), (0, 8, 4), (0, 8, 3), (0, 8, 2), (0, 8, 1)] [(431, 0, 44)] [])) (b := b) (lyA hK) (rI_at 405 0 rfl)) (lKA (hk_K hK 405 rfl rfl)) rfl (by decide) rfl (Nat.le_of_ble_eq_true rfl) (by decide) (fun r u hu => ?_)
  refine z_eqs (σ' := (ap b σ [(405, 1, 44), (405, 1, 43), (405, 1, 42), (405, 1, 41), (405, 1, 40), (405, 1, 39), (405, 1, 38), (405, 1, 37), (405, 1, 36), (405, 1, 35), (405, 1, 34), (405, 1, 33), (405, 1, 32), (405, 1, 31), (405, 1, 30), (405, 1, 29), (405, 1, 28), (405, 1, 27), (405, 1, 26), (405, 1, 25), (405, 1, 24), (405, 1, 23), (405, 1, 22), (405, 1, 21), (405, 1, 20), (405, 1, 19), (405, 1, 18), (405, 1, 17), (405, 1, 16), (405, 1, 15), (405, 1, 14), (405, 1, 13), (405, 1, 12), (405, 1, 11), (405, 1, 10), (405, 1, 9), (405, 1, 8), (405, 1, 7), (405, 1, 6), (405, 1, 5), (405, 1, 4), (405, 1, 3), (405, 1, 2), (405, 1, 1), (405, 0, 0), (0, 8, 44), (0, 8, 43), (0, 8, 42), (0, 8, 41), (0, 8, 40), (0, 8, 39), (0, 8, 38), (0, 8, 37), (0, 8, 36), (0, 8, 35), (0, 8, 34), (0, 8, 33), (0, 8, 32), (0, 8, 31), (0, 8, 30), (0, 8, 29), (0, 8, 28), (0, 8, 27), (0, 8, 26), (0, 8, 25), (0, 8, 24), (0, 8, 23), (0, 8, 22), (0, 8, 21), (0, 8, 20), (0, 8, 19), (0, 8, 18), (0, 8, 17), (0, 8, 16), (0, 8, 15), (0, 8, 14), (0, 8, 13), (0, 8, 12), (0, 8, 11), (0, 8, 10), (0, 8, 9), (0, 8, 8), (0, 8, 7), (0, 8, 6), (0, 8, 5), (0, 8, 4), (0, 8, 3), (0, 8, 2), (0, 8, 1)] [(431, 0, 44)] [])) hu.2 ?_
  show zx p l e _ s m _ below meth c g 8 _ _ _ _ 822 [(6, .int 44), (5, .int 0), (4, .int 0), (3, .ref (b + 431)), (2, .ref (b + 405)), (1, .ref (b + 0)), (0, .ref bS)] _
  refine z_seti (y := 0) hu.1 ?_
  refine z_iload B dL_law_822 1 rfl ?_
  refine z_icmp_eq (tgt := 829) B dL_law_824 (by decide) (fun _ => ?_) (fun h => absurd (by decide) h)
  refine z_iload B dL_law_829 1 rfl ?_
  refine z_if_ne (tgt := 846) B dL_law_831 (by decide) (fun h => absurd (by decide) h) (fun _ => ?_)
  refine z_aload_n B dL_law_834 rfl 3 rfl ?_
  refine z_iconst (v := 0) B dL_law_835 (by decide) ?_
  refine z_lald (j := 0) (x := 44) B (lKA (hk_K hK 431 rfl rfl)) (by decide) (in_of (lNA (hk_N hK 431 rfl rfl)) (show ¬ ((0 : Int32) < 0 ∨ 1 ≤ (0 : Int32).toNatClampNeg) by decide)) (rJ_at 431 0 rfl) dL_law_836 ?_
  refine z_iload B dL_law_837 0 rfl ?_
  refine z_i2l (v := 44) B dL_law_839 (by decide) ?_
  refine z_lcmp (v := 0) B dL_law_840 (by decide) ?_
  refine z_if_eq (tgt := 846) B dL_law_841 (by decide) (fun _ => ?_) (fun h => absurd (by decide) h)
  refine z_goto (tgt := 1395) B dL_law_846 (by decide) ?_
  exact z_widen (Nat.le_of_ble_eq_true rfl) (Nat.le_of_ble_eq_true rfl) (z_sub _ [2, 6] rfl (kk _))
